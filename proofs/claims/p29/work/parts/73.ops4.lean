/-! giving out; what would be -/
section MKS
variable {f g h : Nat → Int32} {nF nT i t : Nat}
/-- what is mended stays so -/
def Mk (f g : Nat → Int32) (nT : Nat) : Prop := ∀ t, t < nT → gT f t 0 = nI 2 → gT g t 0 = nI 2
theorem Mk.refl : Mk f f nT := fun _ _ h => h
theorem Mk.trans (a : Mk f g nT) (b : Mk g h nT) : Mk f h nT := fun t ht e => b t ht (a t ht e)
theorem Mk.oth (hT : ∀ u, u < nT → u ≠ t → gT g u 0 = gT f u 0) (hn : gT f t 0 ≠ nI 2) : Mk f g nT := by
  intro u hu e
  by_cases q : u = t
  · subst q; exact absurd e hn
  · rw [hT u hu q]; exact e
theorem Mk.cnt (a : Mk f g nT) : ∀ n, n ≤ nT → cntS f (nI 2) n ≤ cntS g (nI 2) n
  | 0, _ => Nat.le_refl _
  | n + 1, hn => by
    have ih := Mk.cnt a n (by omega)
    simp only [cntS]
    by_cases e : gT f n 0 = nI 2
    · rw [if_pos e, if_pos (a n (by omega) e)]; omega
    · rw [if_neg e]; omega
theorem Mk.wait (hW : WF f nF nT) (ht : t < nT) : Mk f (waitF t f) nT := by
  have h16 := hW.1.2.2.2
  unfold waitF
  split
  · rename_i h0
    have hn : gT f t 0 ≠ nI 2 := by rw [h0]; exact nI_ne (by decide) (by decide) (by decide)
    split
    · exact Mk.oth (t := t) (fun u hu e => by rw [gT_sG (Or.inr (by decide)) (by omega) (by decide), gT_sTt e (by decide) (by decide), gT_sTt e (by decide) (by decide)]) hn
    · exact Mk.oth (t := t) (fun u hu e => gT_sTt e (by decide) (by decide)) hn
  · exact Mk.refl
theorem Mk.take (hW : WF f nF nT) (hi : i < nF) : Mk f (takeF nT i f) nT := by
  have h16 := hW.1.2.2.2
  have h8 := hW.1.2.1
  unfold takeF
  split
  · split
    · exact Mk.refl
    · rename_i hne
      rcases lgF_spec (f := f) (i := i) nT with e | ⟨t, ht, e, hc⟩
      · exact absurd e hne
      · rw [e, nI_clamp (by omega)]
        exact Mk.oth (t := t) (fun u hu e => takes_T (hW.2.2.1 t ht).okT (by omega) (by omega) e) (by rw [(canF_w hc).2.1]; exact nI_ne (by decide) (by decide) (by decide))
  · exact Mk.refl
theorem Mk.work (hW : WF f nF nT) (hi : i < nF) : Mk f (workF i f) nT := by
  have h16 := hW.1.2.2.2
  have h8 := hW.1.2.1
  unfold workF
  split
  · exact Mk.refl
  · rename_i hne
    rcases (hW.2.2.2.1 i hi).1 with h3 | ⟨t, ht, h3, hw⟩
    · exact absurd h3 hne
    · have hn : gT f t 0 ≠ nI 2 := by rw [hw]; exact nI_ne (by decide) (by decide) (by decide)
      split
      · rw [h3, nI_clamp (by omega)]
        generalize gF f i 4 - gF f i 1 = l
        have hO := offF_R (f := sF f i 4 l) (i := i) (by omega)
        have tO : ∀ u k, gT (offF (sF f i 4 l) i) u k = gT f u k := fun u k => by rw [hO.2.1 u k, gT_sF (by omega) (by decide)]
        unfold endsStepF
        generalize offF (sF f i 4 l) i = g at tO
        split
        · unfold endsTestF
          split
          · refine Mk.oth (t := t) (fun u hu e => ?_) hn
            unfold wA
            rw [gT_sTt e (by decide) (by decide), gT_sTt e (by decide) (by decide), gT_sTt e (by decide) (by decide), gT_sG (by decide) (by omega) (by decide), gT_sG (by decide) (by omega) (by decide), gT_sTt e (by decide) (by decide), tO]
          · exact Mk.oth (t := t) (fun u hu e => by rw [gT_sG (by decide) (by omega) (by decide), gT_sTt e (by decide) (by decide), tO]) hn
        · refine Mk.oth (t := t) (fun u hu e => ?_) hn
          unfold wA
          rw [gT_sTt e (by decide) (by decide), gT_sTt e (by decide) (by decide), gT_sTt e (by decide) (by decide), tO]
      · exact fun u hu e => by rw [gT_sF (by omega) (by decide)]; exact e
theorem Mk.lp {q : Nat → (Nat → Int32) → (Nat → Int32)} (hW : WF f nF nT) : ∀ n, (∀ i, i < n → ∀ f', WF f' nF nT → WF (q i f') nF nT ∧ Mk f' (q i f') nT) → Mk f (lpF q n f) nT
  | 0, _ => Mk.refl
  | n + 1, h => (Mk.lp hW n (fun i hi => h i (by omega))).trans (h n (by omega) _ (hW.lp (fun i hi f' w => (h i (by omega) f' w).1))).2
theorem Mk.slot (hW : WF f nF nT) : Mk f (slotF f) nT := by
  have h16 := hW.1.2.2.2
  have w1 := hW.works
  have w2 := w1.takeAll
  have d1 : Mk f (worksF f) nT := by
    unfold worksF
    rw [hW.ns.1]
    exact Mk.lp hW nF (fun i hi f' w => ⟨w.work hi, Mk.work w hi⟩)
  have d2 : Mk (worksF f) (takeAllF (worksF f)) nT := by
    unfold takeAllF
    rw [w1.ns.1, w1.ns.2]
    exact Mk.lp w1 nF (fun i hi f' w => ⟨w.take hi, Mk.take w hi⟩)
  have d3 : Mk (takeAllF (worksF f)) (waitOnF (takeAllF (worksF f))) nT := by
    unfold waitOnF
    rw [w2.ns.2]
    exact Mk.lp w2 nT (fun i hi f' w => ⟨w.wait hi, Mk.wait w hi⟩)
  refine ((d1.trans d2).trans d3).trans ?_
  unfold slotF
  exact fun u hu e => by rw [gT_sG0 (by decide)]; exact e
theorem Mk.slots (hW : WF f nF nT) (n : Nat) : Mk f (slotsF n f) nT := Mk.lp hW n (fun _ _ _ w => ⟨w.slot, Mk.slot w⟩)
theorem zero_T {t k : Nat} (ht : t < 16) (hk : k < 18) : gT (zeroF f) t k = gT f t k := by
  unfold zeroF
  rw [gT_sG (by decide) ht hk, gT_sG (by decide) ht hk, gT_sG (by decide) ht hk]
theorem pass_nn (hW : WF f nF nT) (n : Nat) : ∃ v, v ≤ 16 ∧ gG (passesF n f) 346 = nI v := by
  have h16 := hW.1.2.2.2
  have h1 := (Mk.slots hW.zero n).cnt nT (Nat.le_refl _)
  have h2 : cntS (zeroF f) (nI 2) nT = cntS f (nI 2) nT := cntS_ext nT (fun t ht => zero_T (by omega) (by decide))
  have h3 := cntS_le (slotsF n (zeroF f)) (nI 2) nT
  refine ⟨cntS (passesF n f) (nI 2) nT - cntS f (nI 2) nT, ?_, ?_⟩
  · show cntS (slotsF n (zeroF f)) (nI 2) nT - _ ≤ 16
    omega
  · rw [(passes_cnt hW n).1, nI_sub]
    rw [← h2]
    exact h1
end MKS
section OP4
variable {D : vDD} {m : vMM} {z : vZZ}
theorem Runs_ex {y : vMD} {pc : Nat} {L st : List Value} {V : Value} {D1 : vDD} {z1 : vZZ} {F : (Nat → Int32) → vMM} (h : Runs y pc L st D m z (fun v D' M z' => v = V ∧ D' = D1 ∧ z' = z1 ∧ ∃ g, M = F g)) : ∃ g, ∀ Q, Runs y pc L st D m z Q = Q V D1 (F g) z1 := by
  obtain ⟨f, v, D', m', z', hr, rfl, rfl, rfl, g, rfl⟩ := h
  exact ⟨g, fun Q => Runs.det ⟨f, _, _, _, _, hr, rfl, rfl, rfl, rfl⟩ Q⟩
theorem ClS.extf {H : Nat → Nat} {f g : Nat → Int32} {nF nT r L : Nat} {h s : Nat → Int32} {b0 b1 : Bool} {ch : Nat → Nat} (C : ClS D H m f nF nT r L h s b0 b1 ch) (e : ∀ k, k < 346 → g k = f k) : ClS D H m g nF nT r L h s b0 b1 ch := by
  obtain ⟨h1, ⟨c, h2, h3⟩, h4, h5⟩ := C
  exact ⟨h1, ⟨c, h2, h3.extf h4.1.2.1 h4.1.2.2.2 e⟩, h4.extf e, h5⟩
theorem mixF_lo {f g : Nat → Int32} {k : Nat} (h : k < 346) : mixF f g k = f k := by
  unfold mixF
  rw [if_neg (by omega)]
theorem ClS.tr {H : Nat → Nat} {f : Nat → Int32} {nF nT r L : Nat} {h s : Nat → Int32} {b0 b1 : Bool} {ch : Nat → Nat} (C : ClS D H m f nF nT r L h s b0 b1 ch) (c : Nat → Int32) : ClS D H (bM m 78 c) f nF nT r L h s b0 b1 ch :=
  C.cong (fun a h1 _ _ => bM_o (by omega)) (by rw [bM_o (by omega)])
/-- the trial's morning starts as now -/
theorem ClS.try {H : Nat → Nat} {f : Nat → Int32} {nF nT r L : Nat} {h s : Nat → Int32} {b0 b1 : Bool} {ch : Nat → Nat} (C : ClS D H m f nF nT r L h s b0 b1 ch) : ∃ c, Rfc f c nF nT ∧ ∀ m', (∃ c', m' = bM m 78 c') → ∃ c2, Rfc f c2 nF nT ∧ ∀ Q, Runs MX2_copyFrom 0 [.ref 78, .ref 2, vJ] [] D m' z Q = Q vJ D (bM m 78 c2) z := by
  obtain ⟨h1, ⟨c, h2, h3⟩, h4, h5⟩ := id C
  refine ⟨c, h3, fun m' hm' => ?_⟩
  obtain ⟨c', rfl⟩ := hm'
  obtain ⟨c2, r2, y⟩ := x_copyR (D := D) (m := bM m 78 c') (z := z) (b := 78) (a := 2) h1.2.1.2.1 h1.2.1.1 (h2.oth (by decide)) (by decide) h3 h4
  refine ⟨c2, r2, fun Q => ?_⟩
  rw [y, bM_bM]
theorem now_ti {H : Nat → Nat} {f : Nat → Int32} {nF nT r L : Nat} {h s : Nat → Int32} {b0 b1 : Bool} {ch : Nat → Nat} (C : ClS D H m f nF nT r L h s b0 b1 ch) (c : Nat → Int32) (k : Int32) (Q : Value → vDD → vMM → vZZ → Prop) : Runs MX2_thingsIn 0 [.ref 2, .int k, vJ, vJ] [] D (bM m 78 c) z Q = Q (.int (nI (cntS f k nT))) D (bM m 78 c) z := by
  obtain ⟨c0, q1, q2, q3, hF⟩ := (C.tr c).rd
  have := x_thingsIn (D := D) (m := bM m 78 c) (z := z) (Q := Q) q3 q2 hF (h := k)
  rw [q1] at this
  exact this
theorem l_untilX {f : Nat → Int32} {nF nT : Nat} (hA : IsMM D) (hB : IsM D 78) {N : Nat} (hN : N = 500) : ∀ (k i : Nat) (g c : Nat → Int32), i + k = N → WF g nF nT → Rfc g c nF nT → ∃ c', ∀ Q, Runs MX6_untilOver 13 [.ref 1, .int (nI i)] [] D (bM m 78 c) z Q = Q (.int (uF nT k i g).1) D (bM m 78 c') z := by
  have hb := hB.1.1
  simp only [IsMM] at hA
  intro k
  induction k with
  | zero =>
    intro i g c hi hW hR
    have hge : ¬ 500 < i := by omega
    have ov := fun Q => x_isOver (D := D) (m := m) (z := z) (Q := Q) hB hR hW
    cases ho : ovB g nT
    · rw [ho] at ov
      obtain ⟨c', r', sl⟩ := x_slot (D := D) (m := m) (z := z) hB hR hW
      refine ⟨c', fun Q => ?_⟩
      have hge2 : 500 < i + 1 := by omega
      have e : (uF nT 0 i g).1 = m6 := by simp only [uF, ho, Bool.false_eq_true, if_false]
      rw [sX6_untilOver_13, e]
      simp (disch := omega) only [sX6_untilOver_14, sX6_untilOver_17, sX6_untilOver_20, sX6_untilOver_21, sX6_untilOver_24, sX6_untilOver_27, sX6_untilOver_30, sX6_untilOver_31, sX6_untilOver_32, sX6_untilOver_33, sX6_untilOver_36, sX6_untilOver_39, sX6_untilOver_42, sX6_untilOver_45, sX6_untilOver_47, hA, hb, true_and, and_true, true_or, or_true, eq_self, ↓reduceIte, if_true, if_false, nI_add, nI_mul, inB_nI, nI_clamp, Nat.add_zero, eqI, ltI, leI, m6_ne, ne_m6, Nat.reduceEqDiff, reduceCtorEq, Nat.reduceLT, Nat.reduceLeDiff, Nat.reduceAdd, Nat.reduceMul, Nat.zero_add, Nat.mul_zero, nar_0, nar_1, nar_b, bI_t, bI_f, bI_0, bI_1, Bool.true_eq_false, Bool.false_eq_true, Bool.and_self, Bool.and_false, Bool.false_and, Bool.true_and, Bool.and_true, and_self, hge, ov, sl]
      rw [sX6_untilOver_13]
      simp (disch := omega) only [sX6_untilOver_14, sX6_untilOver_17, sX6_untilOver_20, sX6_untilOver_21, sX6_untilOver_24, sX6_untilOver_27, sX6_untilOver_30, sX6_untilOver_31, sX6_untilOver_32, sX6_untilOver_33, sX6_untilOver_36, sX6_untilOver_39, sX6_untilOver_42, sX6_untilOver_45, sX6_untilOver_47, hA, hb, true_and, and_true, true_or, or_true, eq_self, ↓reduceIte, if_true, if_false, nI_add, nI_mul, inB_nI, nI_clamp, Nat.add_zero, eqI, ltI, leI, m6_ne, ne_m6, Nat.reduceEqDiff, reduceCtorEq, Nat.reduceLT, Nat.reduceLeDiff, Nat.reduceAdd, Nat.reduceMul, Nat.zero_add, Nat.mul_zero, nar_0, nar_1, nar_b, bI_t, bI_f, bI_0, bI_1, Bool.true_eq_false, Bool.false_eq_true, Bool.and_self, Bool.and_false, Bool.false_and, Bool.true_and, Bool.and_true, and_self, hge2]
    · rw [ho] at ov
      refine ⟨c, fun Q => ?_⟩
      have e : (uF nT 0 i g).1 = nI i := by simp only [uF, ho, if_true]
      rw [sX6_untilOver_13, e]
      simp (disch := omega) only [sX6_untilOver_14, sX6_untilOver_17, sX6_untilOver_20, sX6_untilOver_21, sX6_untilOver_24, sX6_untilOver_27, sX6_untilOver_30, sX6_untilOver_31, sX6_untilOver_32, sX6_untilOver_33, sX6_untilOver_36, sX6_untilOver_39, sX6_untilOver_42, sX6_untilOver_45, sX6_untilOver_47, hA, hb, true_and, and_true, true_or, or_true, eq_self, ↓reduceIte, if_true, if_false, nI_add, nI_mul, inB_nI, nI_clamp, Nat.add_zero, eqI, ltI, leI, m6_ne, ne_m6, Nat.reduceEqDiff, reduceCtorEq, Nat.reduceLT, Nat.reduceLeDiff, Nat.reduceAdd, Nat.reduceMul, Nat.zero_add, Nat.mul_zero, nar_0, nar_1, nar_b, bI_t, bI_f, bI_0, bI_1, Bool.true_eq_false, Bool.false_eq_true, Bool.and_self, Bool.and_false, Bool.false_and, Bool.true_and, Bool.and_true, and_self, hge, ov, Nat.one_ne_zero]
  | succ k ih =>
    intro i g c hi hW hR
    have hge : ¬ 500 < i := by omega
    have ov := fun Q => x_isOver (D := D) (m := m) (z := z) (Q := Q) hB hR hW
    cases ho : ovB g nT
    · rw [ho] at ov
      obtain ⟨c1, r1, sl⟩ := x_slot (D := D) (m := m) (z := z) hB hR hW
      obtain ⟨c', y⟩ := ih (i + 1) (slotF g) c1 (by omega) hW.slot r1
      refine ⟨c', fun Q => ?_⟩
      have e : (uF nT (k + 1) i g).1 = (uF nT k (i + 1) (slotF g)).1 := by simp only [uF, ho, Bool.false_eq_true, if_false]
      rw [sX6_untilOver_13, e]
      simp (disch := omega) only [sX6_untilOver_14, sX6_untilOver_17, sX6_untilOver_20, sX6_untilOver_21, sX6_untilOver_24, sX6_untilOver_27, sX6_untilOver_30, sX6_untilOver_31, sX6_untilOver_32, sX6_untilOver_33, sX6_untilOver_36, sX6_untilOver_39, sX6_untilOver_42, sX6_untilOver_45, sX6_untilOver_47, hA, hb, true_and, and_true, true_or, or_true, eq_self, ↓reduceIte, if_true, if_false, nI_add, nI_mul, inB_nI, nI_clamp, Nat.add_zero, eqI, ltI, leI, m6_ne, ne_m6, Nat.reduceEqDiff, reduceCtorEq, Nat.reduceLT, Nat.reduceLeDiff, Nat.reduceAdd, Nat.reduceMul, Nat.zero_add, Nat.mul_zero, nar_0, nar_1, nar_b, bI_t, bI_f, bI_0, bI_1, Bool.true_eq_false, Bool.false_eq_true, Bool.and_self, Bool.and_false, Bool.false_and, Bool.true_and, Bool.and_true, and_self, hge, ov, sl, y]
    · rw [ho] at ov
      refine ⟨c, fun Q => ?_⟩
      have e : (uF nT (k + 1) i g).1 = nI i := by simp only [uF, ho, if_true]
      rw [sX6_untilOver_13, e]
      simp (disch := omega) only [sX6_untilOver_14, sX6_untilOver_17, sX6_untilOver_20, sX6_untilOver_21, sX6_untilOver_24, sX6_untilOver_27, sX6_untilOver_30, sX6_untilOver_31, sX6_untilOver_32, sX6_untilOver_33, sX6_untilOver_36, sX6_untilOver_39, sX6_untilOver_42, sX6_untilOver_45, sX6_untilOver_47, hA, hb, true_and, and_true, true_or, or_true, eq_self, ↓reduceIte, if_true, if_false, nI_add, nI_mul, inB_nI, nI_clamp, Nat.add_zero, eqI, ltI, leI, m6_ne, ne_m6, Nat.reduceEqDiff, reduceCtorEq, Nat.reduceLT, Nat.reduceLeDiff, Nat.reduceAdd, Nat.reduceMul, Nat.zero_add, Nat.mul_zero, nar_0, nar_1, nar_b, bI_t, bI_f, bI_0, bI_1, Bool.true_eq_false, Bool.false_eq_true, Bool.and_self, Bool.and_false, Bool.false_and, Bool.true_and, Bool.and_true, and_self, hge, ov, Nat.one_ne_zero]
theorem bpF_s {N n : Nat} {f : Nat → Int32} : bpF N f (n + 1) = if (bpF N f n).2 < bpV N f n then (nI n, bpV N f n) else bpF N f n := rfl
theorem WF_part {f : Nat → Int32} {nF nT p : Nat} (h : WF f nF nT) (hp : p < 4) {v : Int32} : WF (sG f (6 + p) v) nF nT := h.sG v (by omega)
theorem l_bestPartX {H : Nat → Nat} {f : Nat → Int32} {nF nT r L w N : Nat} {h s : Nat → Int32} {b0 b1 : Bool} {ch : Nat → Nat} (C : ClS D H m f nF nT r L h s b0 b1 ch) (hN : N = 500) (hw : w < 2) : ∀ (k p : Nat) (c : Nat → Int32) (be : Int32) (v5 : Value), p + k = 4 → (p = 0 ∨ be = (bpF N f p).1) →
    ∃ c', ∀ Q, Runs MX6_bestPart 19 [.ref 1, .int (nI w), .int be, .int (bpF N f p).2, .int (nI p), v5] [] D (bM m 78 c) z Q = Q (.int (if w = 0 then (bpF N f 4).1 else (bpF N f 4).2)) D (bM m 78 c') z := by
  have hA := C.1.1
  have hB := C.1.2.1.2.1
  have hF := C.2.2.1
  have h16 := hF.1.2.2.2
  have a1 := C.1.2.1.1.1.1
  simp only [IsMM] at hA
  intro k
  induction k with
  | zero =>
    intro p c be v5 hk hbe
    obtain rfl : p = 4 := by omega
    have hbe : be = (bpF N f 4).1 := hbe.resolve_left (by omega)
    refine ⟨c, fun Q => ?_⟩
    rw [sX6_bestPart_19, hbe]
    rcases (by omega : w = 0 ∨ w = 1) with rfl | rfl
    · rw [if_pos rfl]
      simp (disch := omega) only [sX6_bestPart_21, sX6_bestPart_22, sX6_bestPart_25, sX6_bestPart_26, sX6_bestPart_29, sX6_bestPart_30, sX6_bestPart_33, sX6_bestPart_36, sX6_bestPart_37, sX6_bestPart_40, sX6_bestPart_43, sX6_bestPart_45, sX6_bestPart_46, sX6_bestPart_47, sX6_bestPart_48, sX6_bestPart_49, sX6_bestPart_50, sX6_bestPart_51, sX6_bestPart_54, sX6_bestPart_57, sX6_bestPart_60, sX6_bestPart_61, sX6_bestPart_64, sX6_bestPart_65, sX6_bestPart_68, sX6_bestPart_69, sX6_bestPart_72, sX6_bestPart_73, sX6_bestPart_76, sX6_bestPart_77, sX6_bestPart_79, sX6_bestPart_81, sX6_bestPart_82, sX6_bestPart_85, sX6_bestPart_87, sX6_bestPart_88, sX6_bestPart_90, sX6_bestPart_91, sX6_bestPart_94, sX6_bestPart_97, sX6_bestPart_98, sX6_bestPart_101, sX6_bestPart_102, sX6_bestPart_105, sX6_bestPart_106, true_and, and_true, true_or, or_true, eq_self, ↓reduceIte, if_true, if_false, nI_add, nI_mul, inB_nI, nI_clamp, Nat.add_zero, eqI, ltI, leI, m6_ne, ne_m6, Nat.reduceEqDiff, reduceCtorEq, Nat.reduceLT, Nat.reduceLeDiff, Nat.reduceAdd, Nat.reduceMul, Nat.zero_add, Nat.mul_zero, nar_0, nar_1, nar_b, bI_t, bI_f, bI_0, bI_1, Bool.true_eq_false, Bool.false_eq_true, Bool.and_self, Bool.and_false, Bool.false_and, Bool.true_and, Bool.and_true, and_self, Nat.le_refl]
    · rw [if_neg (by decide)]
      simp (disch := omega) only [sX6_bestPart_21, sX6_bestPart_22, sX6_bestPart_25, sX6_bestPart_26, sX6_bestPart_29, sX6_bestPart_30, sX6_bestPart_33, sX6_bestPart_36, sX6_bestPart_37, sX6_bestPart_40, sX6_bestPart_43, sX6_bestPart_45, sX6_bestPart_46, sX6_bestPart_47, sX6_bestPart_48, sX6_bestPart_49, sX6_bestPart_50, sX6_bestPart_51, sX6_bestPart_54, sX6_bestPart_57, sX6_bestPart_60, sX6_bestPart_61, sX6_bestPart_64, sX6_bestPart_65, sX6_bestPart_68, sX6_bestPart_69, sX6_bestPart_72, sX6_bestPart_73, sX6_bestPart_76, sX6_bestPart_77, sX6_bestPart_79, sX6_bestPart_81, sX6_bestPart_82, sX6_bestPart_85, sX6_bestPart_87, sX6_bestPart_88, sX6_bestPart_90, sX6_bestPart_91, sX6_bestPart_94, sX6_bestPart_97, sX6_bestPart_98, sX6_bestPart_101, sX6_bestPart_102, sX6_bestPart_105, sX6_bestPart_106, true_and, and_true, true_or, or_true, eq_self, ↓reduceIte, if_true, if_false, nI_add, nI_mul, inB_nI, nI_clamp, Nat.add_zero, eqI, ltI, leI, m6_ne, ne_m6, Nat.reduceEqDiff, reduceCtorEq, Nat.reduceLT, Nat.reduceLeDiff, Nat.reduceAdd, Nat.reduceMul, Nat.zero_add, Nat.mul_zero, nar_0, nar_1, nar_b, bI_t, bI_f, bI_0, bI_1, Bool.true_eq_false, Bool.false_eq_true, Bool.and_self, Bool.and_false, Bool.false_and, Bool.true_and, Bool.and_true, and_self, Nat.le_refl, Nat.one_ne_zero]
  | succ k ih =>
    intro p c be v5 hk hbe
    have hlt : ¬ 4 ≤ p := by omega
    obtain ⟨c0, q2, ct⟩ := C.try (z := z)
    obtain ⟨c1, r1, cp⟩ := ct (bM m 78 c) ⟨c, rfl⟩
    obtain ⟨⟨d1, d2, d3, d4⟩, ⟨-, -, -, -, d9, d10⟩, -⟩ := id hB
    have ec := r1.1 (6 + p) (by omega)
    have p1 : bM m 78 c1 (78 + 3) p = gG c1 (6 + p) := b_prt (b := 78) (by omega)
    have p2 : ∀ x, up2 (bM m 78 c1) (78 + 3) p x = bM m 78 (sG c1 (6 + p) x) := fun x => w_prt (b := 78) (by omega)
    have r2 := r1.G (k := 6 + p) (v := gG f (6 + p) + nI 1) (by omega) hF.1.2.1 h16
    have w2 : WF (sG f (6 + p) (gG f (6 + p) + nI 1)) nF nT := WF_part hF (by omega)
    obtain ⟨c2, r3, lp⟩ := x_letPass (D := D) (m := m) (z := z) hB (Rfc_zero r2 hF.1.2.1 h16) w2.zero (n := N) (by omega)
    have r4 : Rfc (passesF N (sG f (6 + p) (gG f (6 + p) + nI 1))) c2 nF nT := r3
    have w4 := w2.passes N
    have t1 := fun Q => x_thingsIn (D := D) (m := m) (z := z) (Q := Q) hB r4 w4 (h := nI 2)
    have t2 := fun Q => now_ti (z := z) C c2 (nI 2) Q
    have ecn : cntS (sG f (6 + p) (gG f (6 + p) + nI 1)) (nI 2) nT = cntS f (nI 2) nT := cntS_ext nT (fun t ht => gT_sG (Or.inl (by omega)) (by omega) (by decide))
    have pv : nI (cntS (passesF N (sG f (6 + p) (gG f (6 + p) + nI 1))) (nI 2) nT) - nI (cntS f (nI 2) nT) = bpV N f p := by
      unfold bpV
      rw [(passes_cnt w2 N).1, ecn]
    obtain ⟨v, hv, hpv⟩ := pass_nn w2 N
    have hpv : bpV N f p = nI v := hpv
    have e := bpF_s (N := N) (n := p) (f := f)
    have e500 : nI 500 = nI N := by rw [hN]
    simp only [Nat.reduceAdd] at d4 d9 d10 p1 p2
    by_cases hl : (bpF N f p).2 < bpV N f p
    · have hl2 : ¬ bpV N f p ≤ (bpF N f p).2 := fun q => Int32.lt_irrefl (Int32.lt_of_lt_of_le hl q)
      rw [if_pos hl] at e
      obtain ⟨c', y⟩ := ih (p + 1) c2 (nI p) (.int (bpV N f p)) (by omega) (Or.inr (by rw [e]))
      refine ⟨c', fun Q => ?_⟩
      rw [e] at y
      rw [sX6_bestPart_19]
      simp (disch := omega) only [sX6_bestPart_21, sX6_bestPart_22, sX6_bestPart_25, sX6_bestPart_26, sX6_bestPart_29, sX6_bestPart_30, sX6_bestPart_33, sX6_bestPart_36, sX6_bestPart_37, sX6_bestPart_40, sX6_bestPart_43, sX6_bestPart_45, sX6_bestPart_46, sX6_bestPart_47, sX6_bestPart_48, sX6_bestPart_49, sX6_bestPart_50, sX6_bestPart_51, sX6_bestPart_54, sX6_bestPart_57, sX6_bestPart_60, sX6_bestPart_61, sX6_bestPart_64, sX6_bestPart_65, sX6_bestPart_68, sX6_bestPart_69, sX6_bestPart_72, sX6_bestPart_73, sX6_bestPart_76, sX6_bestPart_77, sX6_bestPart_79, sX6_bestPart_81, sX6_bestPart_82, sX6_bestPart_85, sX6_bestPart_87, sX6_bestPart_88, sX6_bestPart_90, sX6_bestPart_91, sX6_bestPart_94, sX6_bestPart_97, sX6_bestPart_98, sX6_bestPart_101, sX6_bestPart_102, sX6_bestPart_105, sX6_bestPart_106, hA, a1, d1, d4, d9, d10, true_and, and_true, true_or, or_true, eq_self, ↓reduceIte, if_true, if_false, nI_add, nI_mul, inB_nI, nI_clamp, Nat.add_zero, eqI, ltI, leI, m6_ne, ne_m6, Nat.reduceEqDiff, reduceCtorEq, Nat.reduceLT, Nat.reduceLeDiff, Nat.reduceAdd, Nat.reduceMul, Nat.zero_add, Nat.mul_zero, nar_0, nar_1, nar_b, bI_t, bI_f, bI_0, bI_1, Bool.true_eq_false, Bool.false_eq_true, Bool.and_self, Bool.and_false, Bool.false_and, Bool.true_and, Bool.and_true, and_self, hlt, cp, p1, ec, p2, e500, lp, t1, t2, pv, hl, hl2, y]
    · have hl2 : bpV N f p ≤ (bpF N f p).2 := Int32.not_lt.mp hl
      have hp0 : p ≠ 0 := by
        intro q
        subst q
        have : (bpF N f 0).2 = m1 := rfl
        rw [this, hpv] at hl
        exact hl (m1_lt_nI (by omega))
      rw [if_neg hl] at e
      obtain ⟨c', y⟩ := ih (p + 1) c2 be (.int (bpV N f p)) (by omega) (Or.inr (by rw [e]; exact hbe.resolve_left hp0))
      refine ⟨c', fun Q => ?_⟩
      rw [e] at y
      rw [sX6_bestPart_19]
      simp (disch := omega) only [sX6_bestPart_21, sX6_bestPart_22, sX6_bestPart_25, sX6_bestPart_26, sX6_bestPart_29, sX6_bestPart_30, sX6_bestPart_33, sX6_bestPart_36, sX6_bestPart_37, sX6_bestPart_40, sX6_bestPart_43, sX6_bestPart_45, sX6_bestPart_46, sX6_bestPart_47, sX6_bestPart_48, sX6_bestPart_49, sX6_bestPart_50, sX6_bestPart_51, sX6_bestPart_54, sX6_bestPart_57, sX6_bestPart_60, sX6_bestPart_61, sX6_bestPart_64, sX6_bestPart_65, sX6_bestPart_68, sX6_bestPart_69, sX6_bestPart_72, sX6_bestPart_73, sX6_bestPart_76, sX6_bestPart_77, sX6_bestPart_79, sX6_bestPart_81, sX6_bestPart_82, sX6_bestPart_85, sX6_bestPart_87, sX6_bestPart_88, sX6_bestPart_90, sX6_bestPart_91, sX6_bestPart_94, sX6_bestPart_97, sX6_bestPart_98, sX6_bestPart_101, sX6_bestPart_102, sX6_bestPart_105, sX6_bestPart_106, hA, a1, d1, d4, d9, d10, true_and, and_true, true_or, or_true, eq_self, ↓reduceIte, if_true, if_false, nI_add, nI_mul, inB_nI, nI_clamp, Nat.add_zero, eqI, ltI, leI, m6_ne, ne_m6, Nat.reduceEqDiff, reduceCtorEq, Nat.reduceLT, Nat.reduceLeDiff, Nat.reduceAdd, Nat.reduceMul, Nat.zero_add, Nat.mul_zero, nar_0, nar_1, nar_b, bI_t, bI_f, bI_0, bI_1, Bool.true_eq_false, Bool.false_eq_true, Bool.and_self, Bool.and_false, Bool.false_and, Bool.true_and, Bool.and_true, and_self, hlt, cp, p1, ec, p2, e500, lp, t1, t2, pv, hl, hl2, y]
end OP4
