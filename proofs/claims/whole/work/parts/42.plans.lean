/-! plans: the model's public methods -/
def ablN (f : Nat → Int32) (nF nT : Nat) : Nat → Nat → Bool := fun g t => decide (g < nF) && ableF f nT g t
/-- changed at most from 860 to 865 -/
def CHm (m m' : vMM) : Prop := ∀ a, a < 860 ∨ 865 < a → m' a = m a
/-- changed at most from 861 to 864 -/
def KCm (m m' : vMM) : Prop := ∀ a, a < 861 ∨ 864 < a → m' a = m a
theorem KCm.ch {m m' : vMM} (h : KCm m m') : CHm m m' := fun a ha => h a (by omega)
theorem CHm.trans {a b c : vMM} (h : CHm a b) (h2 : CHm b c) : CHm a c := fun x hx => (h2 x hx).trans (h x hx)
theorem KCm.trans {a b c : vMM} (h : KCm a b) (h2 : KCm b c) : KCm a c := fun x hx => (h2 x hx).trans (h x hx)
theorem KCm.TB {m m' : vMM} {f : Nat → Int32} {nF nT : Nat} (h : KCm m m') (T : TBs m f nF nT) : TBs m' f nF nT := fun g t hg ht => by rw [h 860 (by omega)]; exact T g t hg ht
theorem kM_KC {m : vMM} {tO fO cF rq : Nat → Int32} : KCm m (kM m tO fO cF rq) := fun a ha => k_o ha
theorem aM_CH {m : vMM} {f : Nat → Int32} {nF nT k : Nat} : CHm m (aM m f nF nT k) := fun a ha => setR_ne (by omega)
theorem oM_CH {m : vMM} {f : Nat → Int32} {nT s k : Nat} : CHm m (oM m f nT s k) := fun a ha => setR_ne (by omega)
theorem MoS.ch {m m' : vMM} {r L : Nat} {h s : Nat → Int32} {b0 b1 : Bool} {ch : Nat → Nat} (H : MoS m r L h s b0 b1 ch) (c : CHm m m') : MoS m' r L h s b0 b1 ch := by
  obtain ⟨⟨a1, a2, a3, a4⟩, ⟨a5, a6⟩, ⟨a7, a8, a9⟩, p, k, a10, a11⟩ := H
  have e3 := c 853 (by omega)
  have e6 := c 856 (by omega)
  have e7 := c 857 (by omega)
  have e8 := c 858 (by omega)
  have e9 := c 859 (by omega)
  refine ⟨⟨by rw [e3]; exact a1, a2, by rw [e6]; exact a3, by rw [e7]; exact a4⟩, ⟨by rw [e8]; exact a5, by rw [e8]; exact a6⟩, ⟨by rw [e3]; exact a7, a8, fun j hj => by rw [e9]; exact a9 j hj⟩, p, k, by rw [e3]; exact a10, by rw [e3]; exact a11⟩
section PLANS
variable {D : vDD} {m : vMM} {f : Nat → Int32} {z : vZZ} {nF nT r : Nat}
theorem most_valN (h : TBs m f nF nT) (h8 : nF ≤ 8) {x y : Int32} {P S : Nat → Bool} (hy : ∀ g, g < 9 → selB y g = (decide (g < 8) && P g)) (hx : ∀ t, t < 16 → selB x t = S t) : mnR (rwY (eM m f) y x) 16 9 (fun _ => false) = svF (fun g t => P g && (ablN f nF nT g t && S t)) nF := by
  rw [most_val h h8 hy hx]
  exact mn_ext nF _ _ (fun k t hk ht => by unfold ablN; rw [decide_eq_true hk, Bool.true_and]) (fun _ _ => rfl)
theorem m_planned (hM : IsMo D) (hW : WF f nF nT) : ∃ m', CHm m m' ∧ ∀ Q, Runs MX7_planned 0 [.ref 853] [] D (eM m f) z Q = Q (.int (nI (behF (ablN f nF nT) nF 0 (fun _ => true)))) D (eM m' f) z := by
  have h1 := hM
  simp only [IsMo] at h1
  obtain ⟨tO, fO, cF, rq, e⟩ := c_most (D := D) (m := eM (aM m f nF nT 128) f) (z := z) (x := nI 65535) (y := nI 255) hM
  rw [most_valN (P := fun _ => true) (S := fun _ => true) aM_TB hW.1.2.1 (fun g hg => by rw [sel255 hg, Bool.and_true]) (fun t ht => sel65535 ht), k_eM] at e
  have e2 : svF (fun g t => true && (ablN f nF nT g t && true)) nF = behF (ablN f nF nT) nF 0 (fun _ => true) := by
    rw [← beh_val (Nat.zero_le _)]
    exact mn_ext nF _ _ (fun k t _ _ => by simp) (fun _ _ => rfl)
  rw [e2] at e
  refine ⟨kM (aM m f nF nT 128) tO fO cF rq, aM_CH.trans kM_KC.ch, fun Q => ?_⟩
  simp (disch := omega) only [sX7_planned_0, sX7_planned_1, sX7_planned_4, sX7_planned_5, sX7_planned_8, sX7_planned_10, sX7_planned_13, h1, true_and, and_true, true_or, or_true, eq_self, ↓reduceIte, if_true, if_false, nI_add, nI_mul, inB_nI, nI_clamp, Nat.add_zero, eqI, ltI, leI, m6_ne, ne_m6, Nat.reduceEqDiff, reduceCtorEq, Nat.reduceLT, Nat.reduceLeDiff, Nat.reduceAdd, Nat.reduceMul, Nat.zero_add, Nat.mul_zero, nar_0, nar_1, nar_b, bI_t, bI_f, bI_0, bI_1, Bool.true_eq_false, Bool.false_eq_true, Bool.and_self, Bool.and_false, Bool.false_and, Bool.true_and, Bool.and_true, and_self, c_findAble hM hW, e]
theorem m_ifAway_no (hM : IsMo D) {Q : Value → vDD → vMM → vZZ → Prop} {x : Int32} (h2 : gG f 2 = nI nF) (hn : nF ≤ 8) (hx : inR x nF = false) : Runs MX7_ifAway 0 [.ref 853, .int x] [] D (eM m f) z Q = Q (.int m1) D (eM m f) z := by
  have h1 := hM
  simp only [IsMo] at h1
  simp (disch := omega) only [sX7_ifAway_0, sX7_ifAway_1, sX7_ifAway_2, sX7_ifAway_5, sX7_ifAway_8, sX7_ifAway_9, sX7_ifAway_10, sX7_ifAway_11, sX7_ifAway_14, sX7_ifAway_15, sX7_ifAway_18, sX7_ifAway_19, sX7_ifAway_20, sX7_ifAway_21, sX7_ifAway_22, sX7_ifAway_23, sX7_ifAway_24, sX7_ifAway_26, sX7_ifAway_29, h1, true_and, and_true, true_or, or_true, eq_self, ↓reduceIte, if_true, if_false, nI_add, nI_mul, inB_nI, nI_clamp, Nat.add_zero, eqI, ltI, leI, m6_ne, ne_m6, Nat.reduceEqDiff, reduceCtorEq, Nat.reduceLT, Nat.reduceLeDiff, Nat.reduceAdd, Nat.reduceMul, Nat.zero_add, Nat.mul_zero, nar_0, nar_1, nar_b, bI_t, bI_f, bI_0, bI_1, Bool.true_eq_false, Bool.false_eq_true, Bool.and_self, Bool.and_false, Bool.false_and, Bool.true_and, Bool.and_true, and_self, c_isFixer hM h2 hn, hx]
theorem m_ifAway (hM : IsMo D) (hW : WF f nF nT) {i : Nat} (hi : i < nF) : ∃ m', CHm m m' ∧ ∀ Q, Runs MX7_ifAway 0 [.ref 853, .int (nI i)] [] D (eM m f) z Q = Q (.int (nI (svF (fun g t => !(g == i) && (ablN f nF nT g t && true)) nF))) D (eM m' f) z := by
  have h1 := hM
  simp only [IsMo] at h1
  have h8 := hW.1.2.1
  have hr : inR (nI i) nF = true := inR_nI hi (by omega)
  obtain ⟨tO, fO, cF, rq, e⟩ := c_most (D := D) (m := eM (aM m f nF nT 128) f) (z := z) (x := nI 65535) (y := nI 255 &&& ((nI 1 <<< (nI i &&& 31)) ^^^ m1)) hM
  rw [most_valN (P := fun g => !(g == i)) (S := fun _ => true) aM_TB hW.1.2.1 (fun g hg => selAway (by omega) hg) (fun t ht => sel65535 ht), k_eM] at e
  refine ⟨kM (aM m f nF nT 128) tO fO cF rq, aM_CH.trans kM_KC.ch, fun Q => ?_⟩
  simp (disch := omega) only [sX7_ifAway_0, sX7_ifAway_1, sX7_ifAway_2, sX7_ifAway_5, sX7_ifAway_8, sX7_ifAway_9, sX7_ifAway_10, sX7_ifAway_11, sX7_ifAway_14, sX7_ifAway_15, sX7_ifAway_18, sX7_ifAway_19, sX7_ifAway_20, sX7_ifAway_21, sX7_ifAway_22, sX7_ifAway_23, sX7_ifAway_24, sX7_ifAway_26, sX7_ifAway_29, h1, true_and, and_true, true_or, or_true, eq_self, ↓reduceIte, if_true, if_false, nI_add, nI_mul, inB_nI, nI_clamp, Nat.add_zero, eqI, ltI, leI, m6_ne, ne_m6, Nat.reduceEqDiff, reduceCtorEq, Nat.reduceLT, Nat.reduceLeDiff, Nat.reduceAdd, Nat.reduceMul, Nat.zero_add, Nat.mul_zero, nar_0, nar_1, nar_b, bI_t, bI_f, bI_0, bI_1, Bool.true_eq_false, Bool.false_eq_true, Bool.and_self, Bool.and_false, Bool.false_and, Bool.true_and, Bool.and_true, and_self, c_isFixer hM hW.1.1 h8, hr, c_findAble hM hW, e]
theorem l_lowest (hM : IsMo D) (hW : WF f nF nT) {g : Nat} (hg : g < 8) {x need : Int32} {S : Nat → Bool} (hx : ∀ t, t < 16 → selB x t = S t) : ∀ (k t : Nat) (m : vMM) (v5 : Value), TBs m f nF nT → t + k = 16 →
    ∃ m', KCm m m' ∧ ∀ Q, Runs MX7_lowestFor 3 [.ref 853, .int (nI g), .int x, .int need, .int (nI t), v5] [] D (eM m f) z Q = Q (.int (lowF (ablN f nF nT) nF g S need k t)) D (eM m' f) z := by
  have h1 := hM
  simp only [IsMo] at h1
  have h8 := hW.1.2.1
  intro k
  induction k with
  | zero =>
    intro t m v5 hT ht
    obtain rfl : t = 16 := by omega
    refine ⟨m, fun _ _ => rfl, fun Q => ?_⟩
    rw [sX7_lowestFor_3]
    simp (disch := omega) only [sX7_lowestFor_5, sX7_lowestFor_7, sX7_lowestFor_10, sX7_lowestFor_11, sX7_lowestFor_14, sX7_lowestFor_16, sX7_lowestFor_17, sX7_lowestFor_18, sX7_lowestFor_20, sX7_lowestFor_21, sX7_lowestFor_22, sX7_lowestFor_23, sX7_lowestFor_26, sX7_lowestFor_27, sX7_lowestFor_29, sX7_lowestFor_30, sX7_lowestFor_31, sX7_lowestFor_32, sX7_lowestFor_33, sX7_lowestFor_36, sX7_lowestFor_37, sX7_lowestFor_40, sX7_lowestFor_41, sX7_lowestFor_43, sX7_lowestFor_45, sX7_lowestFor_48, sX7_lowestFor_49, sX7_lowestFor_50, sX7_lowestFor_53, sX7_lowestFor_54, sX7_lowestFor_55, sX7_lowestFor_56, sX7_lowestFor_57, sX7_lowestFor_58, sX7_lowestFor_59, sX7_lowestFor_60, sX7_lowestFor_61, sX7_lowestFor_62, sX7_lowestFor_63, sX7_lowestFor_65, sX7_lowestFor_66, sX7_lowestFor_67, sX7_lowestFor_68, sX7_lowestFor_69, sX7_lowestFor_72, sX7_lowestFor_73, sX7_lowestFor_74, sX7_lowestFor_77, sX7_lowestFor_79, sX7_lowestFor_80, sX7_lowestFor_83, sX7_lowestFor_86, sX7_lowestFor_88, h1, true_and, and_true, true_or, or_true, eq_self, ↓reduceIte, if_true, if_false, nI_add, nI_mul, inB_nI, nI_clamp, Nat.add_zero, eqI, ltI, leI, m6_ne, ne_m6, Nat.reduceEqDiff, reduceCtorEq, Nat.reduceLT, Nat.reduceLeDiff, Nat.reduceAdd, Nat.reduceMul, Nat.zero_add, Nat.mul_zero, nar_0, nar_1, nar_b, bI_t, bI_f, bI_0, bI_1, Bool.true_eq_false, Bool.false_eq_true, Bool.and_self, Bool.and_false, Bool.false_and, Bool.true_and, Bool.and_true, and_self, Nat.le_refl, lowF]
  | succ k ih =>
    intro t m v5 hT ht
    have hlt : ¬ 16 ≤ t := by omega
    have tv : eM m f 860 (16 * g + t) = bI (ablN f nF nT g t) := by
      rw [eM_oth (by decide) (by decide), hT g t hg (by omega)]
      rfl
    have hxt := hx t (by omega)
    simp only [lowF]
    cases hA : ablN f nF nT g t
    · rw [hA, bI_f] at tv
      obtain ⟨m', i1, i2⟩ := ih (t + 1) m (.int (nI 0)) hT (by omega)
      refine ⟨m', i1, fun Q => ?_⟩
      rw [sX7_lowestFor_3]
      simp (disch := omega) only [sX7_lowestFor_5, sX7_lowestFor_7, sX7_lowestFor_10, sX7_lowestFor_11, sX7_lowestFor_14, sX7_lowestFor_16, sX7_lowestFor_17, sX7_lowestFor_18, sX7_lowestFor_20, sX7_lowestFor_21, sX7_lowestFor_22, sX7_lowestFor_23, sX7_lowestFor_26, sX7_lowestFor_27, sX7_lowestFor_29, sX7_lowestFor_30, sX7_lowestFor_31, sX7_lowestFor_32, sX7_lowestFor_33, sX7_lowestFor_36, sX7_lowestFor_37, sX7_lowestFor_40, sX7_lowestFor_41, sX7_lowestFor_43, sX7_lowestFor_45, sX7_lowestFor_48, sX7_lowestFor_49, sX7_lowestFor_50, sX7_lowestFor_53, sX7_lowestFor_54, sX7_lowestFor_55, sX7_lowestFor_56, sX7_lowestFor_57, sX7_lowestFor_58, sX7_lowestFor_59, sX7_lowestFor_60, sX7_lowestFor_61, sX7_lowestFor_62, sX7_lowestFor_63, sX7_lowestFor_65, sX7_lowestFor_66, sX7_lowestFor_67, sX7_lowestFor_68, sX7_lowestFor_69, sX7_lowestFor_72, sX7_lowestFor_73, sX7_lowestFor_74, sX7_lowestFor_77, sX7_lowestFor_79, sX7_lowestFor_80, sX7_lowestFor_83, h1, true_and, and_true, true_or, or_true, eq_self, ↓reduceIte, if_true, if_false, nI_add, nI_mul, inB_nI, nI_clamp, Nat.add_zero, eqI, ltI, leI, m6_ne, ne_m6, Nat.reduceEqDiff, reduceCtorEq, Nat.reduceLT, Nat.reduceLeDiff, Nat.reduceAdd, Nat.reduceMul, Nat.zero_add, Nat.mul_zero, nar_0, nar_1, nar_b, bI_t, bI_f, bI_0, bI_1, Bool.true_eq_false, Bool.false_eq_true, Bool.and_self, Bool.and_false, Bool.false_and, Bool.true_and, Bool.and_true, and_self, hlt, tv, i2]
    · rw [hA, bI_t] at tv
      have hgn : g < nF := by
        unfold ablN at hA
        simp only [Bool.and_eq_true, decide_eq_true_eq] at hA
        exact hA.1
      cases hS : S t
      · rw [hS] at hxt
        have hs2 : ¬ ((x >>> (nI t &&& 31)) &&& nI 1) = nI 1 := by
          intro q
          unfold selB at hxt
          rw [q, beq_self_eq_true] at hxt
          cases hxt
        obtain ⟨m', i1, i2⟩ := ih (t + 1) m (.int (nI 0)) hT (by omega)
        refine ⟨m', i1, fun Q => ?_⟩
        rw [sX7_lowestFor_3]
        simp (disch := omega) only [sX7_lowestFor_5, sX7_lowestFor_7, sX7_lowestFor_10, sX7_lowestFor_11, sX7_lowestFor_14, sX7_lowestFor_16, sX7_lowestFor_17, sX7_lowestFor_18, sX7_lowestFor_20, sX7_lowestFor_21, sX7_lowestFor_22, sX7_lowestFor_23, sX7_lowestFor_26, sX7_lowestFor_27, sX7_lowestFor_29, sX7_lowestFor_30, sX7_lowestFor_31, sX7_lowestFor_32, sX7_lowestFor_33, sX7_lowestFor_36, sX7_lowestFor_37, sX7_lowestFor_40, sX7_lowestFor_41, sX7_lowestFor_43, sX7_lowestFor_45, sX7_lowestFor_48, sX7_lowestFor_49, sX7_lowestFor_50, sX7_lowestFor_53, sX7_lowestFor_54, sX7_lowestFor_55, sX7_lowestFor_56, sX7_lowestFor_57, sX7_lowestFor_58, sX7_lowestFor_59, sX7_lowestFor_60, sX7_lowestFor_61, sX7_lowestFor_62, sX7_lowestFor_63, sX7_lowestFor_65, sX7_lowestFor_66, sX7_lowestFor_67, sX7_lowestFor_68, sX7_lowestFor_69, sX7_lowestFor_72, sX7_lowestFor_73, sX7_lowestFor_74, sX7_lowestFor_77, sX7_lowestFor_79, sX7_lowestFor_80, sX7_lowestFor_83, h1, true_and, and_true, true_or, or_true, eq_self, ↓reduceIte, if_true, if_false, nI_add, nI_mul, inB_nI, nI_clamp, Nat.add_zero, eqI, ltI, leI, m6_ne, ne_m6, Nat.reduceEqDiff, reduceCtorEq, Nat.reduceLT, Nat.reduceLeDiff, Nat.reduceAdd, Nat.reduceMul, Nat.zero_add, Nat.mul_zero, nar_0, nar_1, nar_b, bI_t, bI_f, bI_0, bI_1, Bool.true_eq_false, Bool.false_eq_true, Bool.and_self, Bool.and_false, Bool.false_and, Bool.true_and, Bool.and_true, and_self, hlt, tv, hs2, i2]
      · rw [hS] at hxt
        have hs2 : ((x >>> (nI t &&& 31)) &&& nI 1) = nI 1 := by simpa only [selB, beq_iff_eq] using hxt
        obtain ⟨tO, fO, cF, rq, e⟩ := c_most (D := D) (m := eM m f) (z := z) (x := x &&& ((nI 1 <<< (nI t &&& 31)) ^^^ m1)) (y := nI 255 &&& (((nI 2 <<< (nI g &&& 31)) - nI 1) ^^^ m1)) hM
        rw [most_valN (P := fun g' => decide (g + 1 ≤ g')) (S := fun u => S u && !(u == t)) hT h8 (fun g' hg' => selBehind hg hg') (fun u hu => by rw [selB_out (by omega) (by omega), hx u hu]), beh_val (by omega), k_eM] at e
        have hT2 : TBs (kM m tO fO cF rq) f nF nT := kM_KC.TB hT
        obtain ⟨m', i1, i2⟩ := ih (t + 1) (kM m tO fO cF rq) (.int (nI 1)) hT2 (by omega)
        generalize behF (ablN f nF nT) nF (g + 1) (fun u => S u && !(u == t)) = b at e
        by_cases hn : nI (1 + b) = need
        · refine ⟨kM m tO fO cF rq, kM_KC, fun Q => ?_⟩
          have hnb : (nI (1 + b) == need) = true := by rw [hn]; exact beq_self_eq_true _
          rw [sX7_lowestFor_3]
          simp (disch := omega) only [sX7_lowestFor_5, sX7_lowestFor_7, sX7_lowestFor_10, sX7_lowestFor_11, sX7_lowestFor_14, sX7_lowestFor_16, sX7_lowestFor_17, sX7_lowestFor_18, sX7_lowestFor_20, sX7_lowestFor_21, sX7_lowestFor_22, sX7_lowestFor_23, sX7_lowestFor_26, sX7_lowestFor_27, sX7_lowestFor_29, sX7_lowestFor_30, sX7_lowestFor_31, sX7_lowestFor_32, sX7_lowestFor_33, sX7_lowestFor_36, sX7_lowestFor_37, sX7_lowestFor_40, sX7_lowestFor_41, sX7_lowestFor_43, sX7_lowestFor_45, sX7_lowestFor_48, sX7_lowestFor_49, sX7_lowestFor_50, sX7_lowestFor_53, sX7_lowestFor_54, sX7_lowestFor_55, sX7_lowestFor_56, sX7_lowestFor_57, sX7_lowestFor_58, sX7_lowestFor_59, sX7_lowestFor_60, sX7_lowestFor_61, sX7_lowestFor_62, sX7_lowestFor_63, sX7_lowestFor_65, sX7_lowestFor_66, sX7_lowestFor_67, sX7_lowestFor_68, sX7_lowestFor_69, sX7_lowestFor_72, sX7_lowestFor_73, sX7_lowestFor_74, sX7_lowestFor_77, sX7_lowestFor_79, sX7_lowestFor_80, sX7_lowestFor_83, h1, true_and, and_true, true_or, or_true, eq_self, ↓reduceIte, if_true, if_false, nI_add, nI_mul, inB_nI, nI_clamp, Nat.add_zero, eqI, ltI, leI, m6_ne, ne_m6, Nat.reduceEqDiff, reduceCtorEq, Nat.reduceLT, Nat.reduceLeDiff, Nat.reduceAdd, Nat.reduceMul, Nat.zero_add, Nat.mul_zero, nar_0, nar_1, nar_b, bI_t, bI_f, bI_0, bI_1, Bool.true_eq_false, Bool.false_eq_true, Bool.and_self, Bool.and_false, Bool.false_and, Bool.true_and, Bool.and_true, and_self, hlt, tv, hs2, e, hn, hnb, beq_self_eq_true]
        · refine ⟨m', kM_KC.trans i1, fun Q => ?_⟩
          have hnb : (nI (1 + b) == need) = false := by simp [hn]
          rw [sX7_lowestFor_3]
          simp (disch := omega) only [sX7_lowestFor_5, sX7_lowestFor_7, sX7_lowestFor_10, sX7_lowestFor_11, sX7_lowestFor_14, sX7_lowestFor_16, sX7_lowestFor_17, sX7_lowestFor_18, sX7_lowestFor_20, sX7_lowestFor_21, sX7_lowestFor_22, sX7_lowestFor_23, sX7_lowestFor_26, sX7_lowestFor_27, sX7_lowestFor_29, sX7_lowestFor_30, sX7_lowestFor_31, sX7_lowestFor_32, sX7_lowestFor_33, sX7_lowestFor_36, sX7_lowestFor_37, sX7_lowestFor_40, sX7_lowestFor_41, sX7_lowestFor_43, sX7_lowestFor_45, sX7_lowestFor_48, sX7_lowestFor_49, sX7_lowestFor_50, sX7_lowestFor_53, sX7_lowestFor_54, sX7_lowestFor_55, sX7_lowestFor_56, sX7_lowestFor_57, sX7_lowestFor_58, sX7_lowestFor_59, sX7_lowestFor_60, sX7_lowestFor_61, sX7_lowestFor_62, sX7_lowestFor_63, sX7_lowestFor_65, sX7_lowestFor_66, sX7_lowestFor_67, sX7_lowestFor_68, sX7_lowestFor_69, sX7_lowestFor_72, sX7_lowestFor_73, sX7_lowestFor_74, sX7_lowestFor_77, sX7_lowestFor_79, sX7_lowestFor_80, sX7_lowestFor_83, h1, true_and, and_true, true_or, or_true, eq_self, ↓reduceIte, if_true, if_false, nI_add, nI_mul, inB_nI, nI_clamp, Nat.add_zero, eqI, ltI, leI, m6_ne, ne_m6, Nat.reduceEqDiff, reduceCtorEq, Nat.reduceLT, Nat.reduceLeDiff, Nat.reduceAdd, Nat.reduceMul, Nat.zero_add, Nat.mul_zero, nar_0, nar_1, nar_b, bI_t, bI_f, bI_0, bI_1, Bool.true_eq_false, Bool.false_eq_true, Bool.and_self, Bool.and_false, Bool.false_and, Bool.true_and, Bool.and_true, and_self, hlt, tv, hs2, e, hn, hnb, i2]
theorem c_lowest (hM : IsMo D) (hW : WF f nF nT) {g : Nat} (hg : g < 8) {x need : Int32} {S : Nat → Bool} (hx : ∀ t, t < 16 → selB x t = S t) (hT : TBs m f nF nT) :
    ∃ m', KCm m m' ∧ ∀ Q, Runs MX7_lowestFor 0 [.ref 853, .int (nI g), .int x, .int need, vJ, vJ] [] D (eM m f) z Q = Q (.int (lowF (ablN f nF nT) nF g S need 16 0)) D (eM m' f) z := by
  obtain ⟨m', i1, i2⟩ := l_lowest (D := D) (z := z) (need := need) hM hW hg hx 16 0 m vJ hT (by decide)
  refine ⟨m', i1, fun Q => ?_⟩
  simp only [sX7_lowestFor_0, sX7_lowestFor_1]
  exact i2 Q
theorem m_bestSkill_bad {Q : Value → vDD → vMM → vZZ → Prop} {y : Int32} (h : inR y 2 = false) : Runs MX7_bestSkill 0 [.ref 853, .int y, vJ, vJ, vJ, vJ] [] D m z Q = Q (.int m2) D m z := by
  rw [← inR4 y (by decide : 1 < 2 ^ 30)] at h
  simp (disch := omega) only [sX7_bestSkill_0, sX7_bestSkill_1, sX7_bestSkill_2, sX7_bestSkill_3, sX7_bestSkill_6, sX7_bestSkill_9, sX7_bestSkill_11, true_and, and_true, true_or, or_true, eq_self, ↓reduceIte, if_true, if_false, nI_add, nI_mul, inB_nI, nI_clamp, Nat.add_zero, eqI, ltI, leI, m6_ne, ne_m6, Nat.reduceEqDiff, reduceCtorEq, Nat.reduceLT, Nat.reduceLeDiff, Nat.reduceAdd, Nat.reduceMul, Nat.zero_add, Nat.mul_zero, nar_0, nar_1, nar_b, bI_t, bI_f, bI_0, bI_1, Bool.true_eq_false, Bool.false_eq_true, Bool.and_self, Bool.and_false, Bool.false_and, Bool.true_and, Bool.and_true, and_self, c_within, h]
theorem bs_val (h : TBs m f nF nT) (h8 : nF ≤ 8) {s : Nat} : mnR (rwY (eM (oM m f nT s 16) f) (nI 511) (nI 65535)) 16 9 (fun _ => false) = bsV f nF nT s := by
  have e : ∀ g t, g < 8 → t < 16 → rwY (eM (oM m f nT s 16) f) (nI 511) (nI 65535) g t = (decide (g < nF) && ableF f nT g t) := by
    intro g t hg ht
    have h65 := sel65535 ht
    unfold selB at h65
    unfold rwY rwM
    rw [sel511 (by omega), h65, eM_oth (by decide) (by decide), oM_TB h g t hg ht, bI_eq1]
    cases decide (g < nF) <;> cases ableF f nT g t <;> rfl
  have e8 : ∀ t, t < 16 → rwY (eM (oM m f nT s 16) f) (nI 511) (nI 65535) 8 t = moreF f nT s t := by
    intro t ht
    have h65 := sel65535 ht
    unfold selB at h65
    unfold rwY rwM
    rw [sel511 (by omega), h65, eM_oth (by decide) (by decide)]
    have : oM m f nT s 16 860 (16 * 8 + t) = bI (moreF f nT s t) := by
      unfold oM
      rw [setR_eq]
      unfold moR
      have e3 : 16 * 8 + t - 128 = t := by omega
      rw [if_pos (by omega), e3]
    rw [this, bI_eq1]
    simp
  generalize rwY (eM (oM m f nT s 16) f) (nI 511) (nI 65535) = R at e e8
  have n0 : ∀ a, mnR R 16 8 a = mnR (ableF f nT) 16 nF a := fun a => by
    have e1 := mn_nones (rw := R) (w := 16) (n := nF) (a := a) (8 - nF) (fun i t h1 h2 h3 => by
      rw [e i t (by omega) h3, decide_eq_false (by omega : ¬ i < nF), Bool.false_and])
    rw [(by omega : nF + (8 - nF) = 8)] at e1
    rw [e1]
    exact mn_ext nF _ _ (fun k t hk ht => by rw [e k t (by omega) ht, decide_eq_true hk, Bool.true_and]) (fun _ _ => rfl)
  unfold bsV svF
  rw [mnR_s (n := 8), mnR_s (n := nF), n0, n0]
  have n1 : ∀ a, mnR (fun g t => if g = nF then moreF f nT s t else ableF f nT g t) 16 nF a = mnR (ableF f nT) 16 nF a := fun a => mn_ext nF _ _ (fun k t hk ht => by rw [if_neg (by omega)]) (fun _ _ => rfl)
  rw [n1, n1]
  have n2 : mnR (ableF f nT) 16 nF (fun t => false || R 8 t) = mnR (ableF f nT) 16 nF (fun t => false || if nF = nF then moreF f nT s t else ableF f nT nF t) := mn_ext nF _ _ (fun _ _ _ _ => rfl) (fun t ht => by rw [if_pos rfl, e8 t ht])
  rw [n2]
theorem bsF_s {s : Nat} : bsF f nF nT (s + 1) = if nI (bsV f nF nT s) ≤ (bsF f nF nT s).2 then bsF f nF nT s else (nI s, nI (bsV f nF nT s)) := rfl
theorem l_bestSkill (hM : IsMo D) (hW : WF f nF nT) {w N : Nat} (hN : N = 6) (hw : w < 2) : ∀ (k s : Nat) (m : vMM) (v5 : Value), TBs m f nF nT → s + k = N →
    ∃ m', CHm m m' ∧ ∀ Q, Runs MX7_bestSkill 24 [.ref 853, .int (nI w), .int (bsF f nF nT s).1, .int (bsF f nF nT s).2, .int (nI s), v5] [] D (eM m f) z Q = Q (.int (if w = 0 then (bsF f nF nT N).1 else (bsF f nF nT N).2)) D (eM m' f) z := by
  have h1 := hM
  simp only [IsMo] at h1
  have h8 := hW.1.2.1
  intro k
  induction k with
  | zero =>
    intro s m v5 hT hs
    obtain rfl : s = N := by omega
    refine ⟨m, fun _ _ => rfl, fun Q => ?_⟩
    have h6 : 6 ≤ s := by omega
    rw [sX7_bestSkill_24]
    rcases (by omega : w = 0 ∨ w = 1) with rfl | rfl <;>
    simp (disch := omega) only [sX7_bestSkill_26, sX7_bestSkill_28, sX7_bestSkill_31, sX7_bestSkill_32, sX7_bestSkill_34, sX7_bestSkill_37, sX7_bestSkill_38, sX7_bestSkill_41, sX7_bestSkill_43, sX7_bestSkill_46, sX7_bestSkill_48, sX7_bestSkill_50, sX7_bestSkill_51, sX7_bestSkill_54, sX7_bestSkill_56, sX7_bestSkill_59, sX7_bestSkill_60, sX7_bestSkill_61, sX7_bestSkill_63, sX7_bestSkill_64, sX7_bestSkill_67, sX7_bestSkill_69, sX7_bestSkill_72, sX7_bestSkill_73, sX7_bestSkill_74, sX7_bestSkill_77, sX7_bestSkill_80, sX7_bestSkill_81, sX7_bestSkill_84, sX7_bestSkill_85, sX7_bestSkill_88, sX7_bestSkill_89, h1, true_and, and_true, true_or, or_true, eq_self, ↓reduceIte, if_true, if_false, nI_add, nI_mul, inB_nI, nI_clamp, Nat.add_zero, eqI, ltI, leI, m6_ne, ne_m6, Nat.reduceEqDiff, reduceCtorEq, Nat.reduceLT, Nat.reduceLeDiff, Nat.reduceAdd, Nat.reduceMul, Nat.zero_add, Nat.mul_zero, nar_0, nar_1, nar_b, bI_t, bI_f, bI_0, bI_1, Bool.true_eq_false, Bool.false_eq_true, Bool.and_self, Bool.and_false, Bool.false_and, Bool.true_and, Bool.and_true, and_self, h6, Nat.one_ne_zero]
  | succ k ih =>
    intro s m v5 hT hs
    have hlt : ¬ 6 ≤ s := by omega
    obtain ⟨tO, fO, cF, rq, e⟩ := c_most (D := D) (m := eM (oM m f nT s 16) f) (z := z) (x := nI 65535) (y := nI 511) hM
    rw [bs_val hT h8, k_eM] at e
    have hT2 : TBs (kM (oM m f nT s 16) tO fO cF rq) f nF nT := kM_KC.TB (oM_TB hT)
    have fm : ∀ Q, Runs MX7_findMore 0 [.ref 853, .int (nI s), vJ] [] D (eM m f) z Q = Q vJ D (eM (oM m f nT s 16) f) z := fun Q => c_findMore hM hW (by omega)
    obtain ⟨m', i1, i2⟩ := ih (s + 1) (kM (oM m f nT s 16) tO fO cF rq) (.int (nI (bsV f nF nT s))) hT2 (by omega)
    refine ⟨m', (oM_CH.trans kM_KC.ch).trans i1, fun Q => ?_⟩
    rw [sX7_bestSkill_24]
    rw [bsF_s] at i2
    by_cases hb : nI (bsV f nF nT s) ≤ (bsF f nF nT s).2
    · simp only [hb, if_true] at i2
      simp (disch := omega) only [sX7_bestSkill_26, sX7_bestSkill_28, sX7_bestSkill_31, sX7_bestSkill_32, sX7_bestSkill_34, sX7_bestSkill_37, sX7_bestSkill_38, sX7_bestSkill_41, sX7_bestSkill_43, sX7_bestSkill_46, sX7_bestSkill_48, sX7_bestSkill_50, sX7_bestSkill_51, sX7_bestSkill_54, sX7_bestSkill_56, sX7_bestSkill_59, sX7_bestSkill_60, sX7_bestSkill_61, sX7_bestSkill_63, sX7_bestSkill_64, sX7_bestSkill_67, sX7_bestSkill_69, sX7_bestSkill_72, sX7_bestSkill_73, sX7_bestSkill_74, sX7_bestSkill_77, h1, true_and, and_true, true_or, or_true, eq_self, ↓reduceIte, if_true, if_false, nI_add, nI_mul, inB_nI, nI_clamp, Nat.add_zero, eqI, ltI, leI, m6_ne, ne_m6, Nat.reduceEqDiff, reduceCtorEq, Nat.reduceLT, Nat.reduceLeDiff, Nat.reduceAdd, Nat.reduceMul, Nat.zero_add, Nat.mul_zero, nar_0, nar_1, nar_b, bI_t, bI_f, bI_0, bI_1, Bool.true_eq_false, Bool.false_eq_true, Bool.and_self, Bool.and_false, Bool.false_and, Bool.true_and, Bool.and_true, and_self, hlt, fm, e, hb, i2]
    · simp only [hb, if_false] at i2
      simp (disch := omega) only [sX7_bestSkill_26, sX7_bestSkill_28, sX7_bestSkill_31, sX7_bestSkill_32, sX7_bestSkill_34, sX7_bestSkill_37, sX7_bestSkill_38, sX7_bestSkill_41, sX7_bestSkill_43, sX7_bestSkill_46, sX7_bestSkill_48, sX7_bestSkill_50, sX7_bestSkill_51, sX7_bestSkill_54, sX7_bestSkill_56, sX7_bestSkill_59, sX7_bestSkill_60, sX7_bestSkill_61, sX7_bestSkill_63, sX7_bestSkill_64, sX7_bestSkill_67, sX7_bestSkill_69, sX7_bestSkill_72, sX7_bestSkill_73, sX7_bestSkill_74, sX7_bestSkill_77, h1, true_and, and_true, true_or, or_true, eq_self, ↓reduceIte, if_true, if_false, nI_add, nI_mul, inB_nI, nI_clamp, Nat.add_zero, eqI, ltI, leI, m6_ne, ne_m6, Nat.reduceEqDiff, reduceCtorEq, Nat.reduceLT, Nat.reduceLeDiff, Nat.reduceAdd, Nat.reduceMul, Nat.zero_add, Nat.mul_zero, nar_0, nar_1, nar_b, bI_t, bI_f, bI_0, bI_1, Bool.true_eq_false, Bool.false_eq_true, Bool.and_self, Bool.and_false, Bool.false_and, Bool.true_and, Bool.and_true, and_self, hlt, fm, e, hb, i2]
theorem m_bestSkill (hM : IsMo D) (hW : WF f nF nT) {w N : Nat} (hN : N = 6) (hw : w < 2) : ∃ m', CHm m m' ∧ ∀ Q, Runs MX7_bestSkill 0 [.ref 853, .int (nI w), vJ, vJ, vJ, vJ] [] D (eM m f) z Q = Q (.int (if w = 0 then (bsF f nF nT N).1 else (bsF f nF nT N).2)) D (eM m' f) z := by
  have h1 := hM
  simp only [IsMo] at h1
  have hr : (decide (0 ≤ w) && decide (w ≤ 1)) = true := by simp; omega
  have e0 : bsF f nF nT 0 = (m6, m1) := rfl
  obtain ⟨m', i1, i2⟩ := l_bestSkill (D := D) (z := z) hM hW hN hw N 0 (aM m f nF nT 128) vJ aM_TB (by omega)
  refine ⟨m', aM_CH.trans i1, fun Q => ?_⟩
  rw [e0] at i2
  simp (disch := omega) only [sX7_bestSkill_0, sX7_bestSkill_1, sX7_bestSkill_2, sX7_bestSkill_3, sX7_bestSkill_6, sX7_bestSkill_9, sX7_bestSkill_11, sX7_bestSkill_12, sX7_bestSkill_13, sX7_bestSkill_16, sX7_bestSkill_18, sX7_bestSkill_19, sX7_bestSkill_20, sX7_bestSkill_21, sX7_bestSkill_22, h1, true_and, and_true, true_or, or_true, eq_self, ↓reduceIte, if_true, if_false, nI_add, nI_mul, inB_nI, nI_clamp, Nat.add_zero, eqI, ltI, leI, m6_ne, ne_m6, Nat.reduceEqDiff, reduceCtorEq, Nat.reduceLT, Nat.reduceLeDiff, Nat.reduceAdd, Nat.reduceMul, Nat.zero_add, Nat.mul_zero, nar_0, nar_1, nar_b, bI_t, bI_f, bI_0, bI_1, Bool.true_eq_false, Bool.false_eq_true, Bool.and_self, Bool.and_false, Bool.false_and, Bool.true_and, Bool.and_true, and_self, c_within, hr, c_findAble hM hW, i2]
end PLANS
