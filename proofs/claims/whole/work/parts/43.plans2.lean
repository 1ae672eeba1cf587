/-! findPlan, plan, giveOut -/
theorem plS_s {A : Nat → Nat → Bool} {n g : Nat} : plS A n (g + 1) = if plV A n g = m6 then plS A n g else (fun u => (plS A n g).1 u && !(u == (plV A n g).toNatClampNeg), (plS A n g).2 - nI 1) := rfl
theorem plV_spec {A : Nat → Nat → Bool} {n g : Nat} : plV A n g = m6 ∨ ∃ u, u < 16 ∧ plV A n g = nI u ∧ A g u = true ∧ (plS A n g).1 u = true := by
  rcases lowF_spec (A := A) (n := n) (g := g) (S := (plS A n g).1) (need := (plS A n g).2) 16 0 with h | ⟨u, h1, h2, h3, h4⟩
  · exact Or.inl h
  · exact Or.inr ⟨u, by omega, h3, h4⟩
theorem plS_mono {A : Nat → Nat → Bool} {n u : Nat} {g : Nat} : ∀ k, (plS A n (g + k)).1 u = true → (plS A n g).1 u = true
  | 0, h => h
  | k + 1, h => by
    apply plS_mono k
    rw [← Nat.add_assoc, plS_s] at h
    split at h
    · exact h
    · simp only [Bool.and_eq_true] at h
      exact h.1
theorem plV_dis {A : Nat → Nat → Bool} {n g k : Nat} {u : Nat} (hu : u < 16) (h : plV A n g = nI u) (h2 : plV A n (g + 1 + k) = nI u) : False := by
  rcases plV_spec (A := A) (n := n) (g := g + 1 + k) with e | ⟨v, v16, e1, e2, e3⟩
  · rw [e] at h2
    exact nI_nm6 (by omega) h2.symm
  · rw [h2] at e1
    have := nI9 (by omega) (by omega) e1
    subst this
    have h3 := plS_mono k e3
    rw [plS_s, if_neg (by rw [h]; exact nI_nm6 (by omega)), h, nI_clamp (by omega)] at h3
    simp at h3
section PLANS2
variable {D : vDD} {m : vMM} {f : Nat → Int32} {z : vZZ} {nF nT r : Nat}
theorem i32_sub0 (x : Int32) : x - nI 0 = x := Int32.sub_zero x
theorem l_findPlan (hM : IsMo D) (hW : WF f nF nT) {P : Nat → Int32} (hP : P = plV (ablN f nF nT) nF) : ∀ (k g : Nat) (m : vMM) (x need : Int32), TBs m f nF nT → g + k = 8 → (∀ t, t < 16 → selB x t = (plS (ablN f nF nT) nF g).1 t) → need = (plS (ablN f nF nT) nF g).2 → (∀ j, j < g → m 865 j = P j) →
    ∃ m', CHm m m' ∧ (∀ j, j < 8 → m' 865 j = P j) ∧ ∀ Q, Runs MX7_findPlan 18 [.ref 853, .int x, .int need, .int (nI g)] [] D (eM m f) z Q = Q vJ D (eM m' f) z := by
  have h1 := hM
  simp only [IsMo] at h1
  intro k
  induction k with
  | zero =>
    intro g m x need hT hg hx hn hp
    obtain rfl : g = 8 := by omega
    refine ⟨m, fun _ _ => rfl, hp, fun Q => ?_⟩
    rw [sX7_findPlan_18]
    simp (disch := omega) only [sX7_findPlan_19, sX7_findPlan_21, sX7_findPlan_90, h1, true_and, and_true, true_or, or_true, eq_self, ↓reduceIte, if_true, if_false, nI_add, nI_mul, inB_nI, nI_clamp, Nat.add_zero, eqI, ltI, leI, m6_ne, ne_m6, Nat.reduceEqDiff, reduceCtorEq, Nat.reduceLT, Nat.reduceLeDiff, Nat.reduceAdd, Nat.reduceMul, Nat.zero_add, Nat.mul_zero, nar_0, nar_1, nar_b, bI_t, bI_f, bI_0, bI_1, Bool.true_eq_false, Bool.false_eq_true, Bool.and_self, Bool.and_false, Bool.false_and, Bool.true_and, Bool.and_true, and_self, Nat.le_refl]
  | succ k ih =>
    intro g m x need hT hg hx hn hp
    have hlt : ¬ 8 ≤ g := by omega
    obtain ⟨m1', a1, a2⟩ := c_lowest (D := D) (z := z) (m := m) (need := need) hM hW (g := g) (by omega) hx hT
    have ev : lowF (ablN f nF nT) nF g (plS (ablN f nF nT) nF g).1 need 16 0 = P g := by rw [hP, hn]; rfl
    rw [ev] at a2
    have T1 : TBs m1' f nF nT := a1.TB hT
    have w1 : ∀ v, up2 (eM m1' f) 865 g v = eM (up2 m1' 865 g v) f := fun v => eM_upo (by decide) (by decide)
    have T2 : TBs (up2 m1' 865 g (P g)) f nF nT := fun g' t h h' => by rw [up2_ne (by decide)]; exact T1 g' t h h'
    have rd : eM (up2 m1' 865 g (P g)) f 865 g = P g := by rw [eM_oth (by decide) (by decide), up2_eq, upd_eq]
    have hp2 : ∀ j, j < g + 1 → up2 m1' 865 g (P g) 865 j = P j := fun j hj => by
      rw [up2_eq]
      by_cases e : j = g
      · subst e; exact upd_eq _ _ _
      · rw [upd_ne _ _ e, a1 865 (by decide)]
        exact hp j (by omega)
    have c2 : CHm m (up2 m1' 865 g (P g)) := fun a ha => by rw [up2_ne (by omega)]; exact a1 a (by omega)
    have hs := plS_s (A := ablN f nF nT) (n := nF) (g := g)
    have sp := plV_spec (A := ablN f nF nT) (n := nF) (g := g)
    rw [← hP] at hs sp
    by_cases h6 : P g = m6
    · rw [if_pos h6] at hs
      obtain ⟨m', i1, i2, i3⟩ := ih (g + 1) _ x need T2 (by omega) (by rw [hs]; exact hx) (by rw [hs]; exact hn) hp2
      refine ⟨m', c2.trans i1, i2, fun Q => ?_⟩
      rw [h6] at rd a2 i3
      rw [sX7_findPlan_18]
      simp (disch := omega) only [sX7_findPlan_19, sX7_findPlan_21, sX7_findPlan_24, sX7_findPlan_25, sX7_findPlan_28, sX7_findPlan_29, sX7_findPlan_30, sX7_findPlan_31, sX7_findPlan_32, sX7_findPlan_33, sX7_findPlan_36, sX7_findPlan_37, sX7_findPlan_38, sX7_findPlan_39, sX7_findPlan_42, sX7_findPlan_43, sX7_findPlan_44, sX7_findPlan_46, sX7_findPlan_49, sX7_findPlan_50, sX7_findPlan_53, sX7_findPlan_54, sX7_findPlan_55, sX7_findPlan_56, sX7_findPlan_57, sX7_findPlan_58, sX7_findPlan_61, sX7_findPlan_62, sX7_findPlan_63, sX7_findPlan_65, sX7_findPlan_68, sX7_findPlan_69, sX7_findPlan_72, sX7_findPlan_73, sX7_findPlan_74, sX7_findPlan_77, sX7_findPlan_78, sX7_findPlan_79, sX7_findPlan_80, sX7_findPlan_81, sX7_findPlan_82, sX7_findPlan_83, sX7_findPlan_84, sX7_findPlan_87, h1, true_and, and_true, true_or, or_true, eq_self, ↓reduceIte, if_true, if_false, nI_add, nI_mul, inB_nI, nI_clamp, Nat.add_zero, eqI, ltI, leI, m6_ne, ne_m6, Nat.reduceEqDiff, reduceCtorEq, Nat.reduceLT, Nat.reduceLeDiff, Nat.reduceAdd, Nat.reduceMul, Nat.zero_add, Nat.mul_zero, nar_0, nar_1, nar_b, bI_t, bI_f, bI_0, bI_1, Bool.true_eq_false, Bool.false_eq_true, Bool.and_self, Bool.and_false, Bool.false_and, Bool.true_and, Bool.and_true, and_self, hlt, a2, w1, rd, i32_sub0, Int32.and_self, i3]
    · rcases sp with sp | ⟨u, u16, s1, s2, s3⟩
      · exact absurd sp h6
      · rw [if_neg h6] at hs
        have cl : (P g).toNatClampNeg = u := by rw [s1, nI_clamp (by omega)]
        rw [cl] at hs
        obtain ⟨m', i1, i2, i3⟩ := ih (g + 1) (up2 m1' 865 g (P g)) (x &&& ((nI 1 <<< (nI u &&& 31)) ^^^ m1)) (need - nI 1) T2 (by omega) (fun t ht => by
          rw [hs, selB_out (by omega) (by omega), hx t ht]) (by rw [hs, hn]) hp2
        refine ⟨m', c2.trans i1, i2, fun Q => ?_⟩
        rw [s1] at rd a2 i3
        rw [sX7_findPlan_18]
        simp (disch := omega) only [sX7_findPlan_19, sX7_findPlan_21, sX7_findPlan_24, sX7_findPlan_25, sX7_findPlan_28, sX7_findPlan_29, sX7_findPlan_30, sX7_findPlan_31, sX7_findPlan_32, sX7_findPlan_33, sX7_findPlan_36, sX7_findPlan_37, sX7_findPlan_38, sX7_findPlan_39, sX7_findPlan_42, sX7_findPlan_43, sX7_findPlan_44, sX7_findPlan_46, sX7_findPlan_49, sX7_findPlan_50, sX7_findPlan_53, sX7_findPlan_54, sX7_findPlan_55, sX7_findPlan_56, sX7_findPlan_57, sX7_findPlan_58, sX7_findPlan_61, sX7_findPlan_62, sX7_findPlan_63, sX7_findPlan_65, sX7_findPlan_68, sX7_findPlan_69, sX7_findPlan_72, sX7_findPlan_73, sX7_findPlan_74, sX7_findPlan_77, sX7_findPlan_78, sX7_findPlan_79, sX7_findPlan_80, sX7_findPlan_81, sX7_findPlan_82, sX7_findPlan_83, sX7_findPlan_84, sX7_findPlan_87, h1, true_and, and_true, true_or, or_true, eq_self, ↓reduceIte, if_true, if_false, nI_add, nI_mul, inB_nI, nI_clamp, Nat.add_zero, eqI, ltI, leI, m6_ne, ne_m6, Nat.reduceEqDiff, reduceCtorEq, Nat.reduceLT, Nat.reduceLeDiff, Nat.reduceAdd, Nat.reduceMul, Nat.zero_add, Nat.mul_zero, nar_0, nar_1, nar_b, bI_t, bI_f, bI_0, bI_1, Bool.true_eq_false, Bool.false_eq_true, Bool.and_self, Bool.and_false, Bool.false_and, Bool.true_and, Bool.and_true, and_self, hlt, a2, w1, rd, i3]
theorem c_findPlan (hM : IsMo D) (hW : WF f nF nT) : ∃ m', CHm m m' ∧ (∀ j, j < 8 → m' 865 j = plV (ablN f nF nT) nF j) ∧ ∀ Q, Runs MX7_findPlan 0 [.ref 853, vJ, vJ, vJ] [] D (eM m f) z Q = Q vJ D (eM m' f) z := by
  have h1 := hM
  simp only [IsMo] at h1
  obtain ⟨tO, fO, cF, rq, e⟩ := c_most (D := D) (m := eM (aM m f nF nT 128) f) (z := z) (x := nI 65535) (y := nI 255) hM
  rw [most_valN (P := fun _ => true) (S := fun _ => true) aM_TB hW.1.2.1 (fun g hg => by rw [sel255 hg, Bool.and_true]) (fun t ht => sel65535 ht), k_eM] at e
  have e2 : svF (fun g t => true && (ablN f nF nT g t && true)) nF = behF (ablN f nF nT) nF 0 (fun _ => true) := by
    rw [← beh_val (Nat.zero_le _)]
    exact mn_ext nF _ _ (fun k t _ _ => by simp) (fun _ _ => rfl)
  rw [e2] at e
  obtain ⟨m', i1, i2, i3⟩ := l_findPlan (D := D) (z := z) hM hW rfl 8 0 (kM (aM m f nF nT 128) tO fO cF rq) (nI 65535) (nI (behF (ablN f nF nT) nF 0 (fun _ => true))) (kM_KC.TB aM_TB) (by decide) (fun t ht => sel65535 ht) rfl (fun j hj => absurd hj (Nat.not_lt_zero j))
  refine ⟨m', (aM_CH.trans kM_KC.ch).trans i1, i2, fun Q => ?_⟩
  simp (disch := omega) only [sX7_findPlan_0, sX7_findPlan_1, sX7_findPlan_4, sX7_findPlan_6, sX7_findPlan_7, sX7_findPlan_8, sX7_findPlan_11, sX7_findPlan_12, sX7_findPlan_15, sX7_findPlan_16, sX7_findPlan_17, h1, true_and, and_true, true_or, or_true, eq_self, ↓reduceIte, if_true, if_false, nI_add, nI_mul, inB_nI, nI_clamp, Nat.add_zero, eqI, ltI, leI, m6_ne, ne_m6, Nat.reduceEqDiff, reduceCtorEq, Nat.reduceLT, Nat.reduceLeDiff, Nat.reduceAdd, Nat.reduceMul, Nat.zero_add, Nat.mul_zero, nar_0, nar_1, nar_b, bI_t, bI_f, bI_0, bI_1, Bool.true_eq_false, Bool.false_eq_true, Bool.and_self, Bool.and_false, Bool.false_and, Bool.true_and, Bool.and_true, and_self, c_findAble hM hW, e, i3]
theorem m_plan_no (hM : IsMo D) {Q : Value → vDD → vMM → vZZ → Prop} {x : Int32} (h2 : gG f 2 = nI nF) (hn : nF ≤ 8) (hx : inR x nF = false) : Runs MX7_plan 0 [.ref 853, .int x] [] D (eM m f) z Q = Q (.int m1) D (eM m f) z := by
  have h1 := hM
  simp only [IsMo] at h1
  simp (disch := omega) only [sX7_plan_0, sX7_plan_1, sX7_plan_2, sX7_plan_5, sX7_plan_8, sX7_plan_9, sX7_plan_10, sX7_plan_11, sX7_plan_14, sX7_plan_15, sX7_plan_18, sX7_plan_19, sX7_plan_20, h1, true_and, and_true, true_or, or_true, eq_self, ↓reduceIte, if_true, if_false, nI_add, nI_mul, inB_nI, nI_clamp, Nat.add_zero, eqI, ltI, leI, m6_ne, ne_m6, Nat.reduceEqDiff, reduceCtorEq, Nat.reduceLT, Nat.reduceLeDiff, Nat.reduceAdd, Nat.reduceMul, Nat.zero_add, Nat.mul_zero, nar_0, nar_1, nar_b, bI_t, bI_f, bI_0, bI_1, Bool.true_eq_false, Bool.false_eq_true, Bool.and_self, Bool.and_false, Bool.false_and, Bool.true_and, Bool.and_true, and_self, c_isFixer hM h2 hn, hx]
theorem m_plan (hM : IsMo D) (hW : WF f nF nT) {i : Nat} (hi : i < nF) : ∃ m', CHm m m' ∧ ∀ Q, Runs MX7_plan 0 [.ref 853, .int (nI i)] [] D (eM m f) z Q = Q (.int (plV (ablN f nF nT) nF i)) D (eM m' f) z := by
  have h1 := hM
  simp only [IsMo] at h1
  have h8 := hW.1.2.1
  have hr : inR (nI i) nF = true := inR_nI hi (by omega)
  obtain ⟨m', i1, i2, i3⟩ := c_findPlan (D := D) (m := m) (f := f) (z := z) hM hW
  have rd : eM m' f 865 i = plV (ablN f nF nT) nF i := by rw [eM_oth (by decide) (by decide)]; exact i2 i (by omega)
  refine ⟨m', i1, fun Q => ?_⟩
  simp (disch := omega) only [sX7_plan_0, sX7_plan_1, sX7_plan_2, sX7_plan_5, sX7_plan_8, sX7_plan_9, sX7_plan_10, sX7_plan_11, sX7_plan_14, sX7_plan_15, sX7_plan_18, sX7_plan_19, sX7_plan_20, h1, true_and, and_true, true_or, or_true, eq_self, ↓reduceIte, if_true, if_false, nI_add, nI_mul, inB_nI, nI_clamp, Nat.add_zero, eqI, ltI, leI, m6_ne, ne_m6, Nat.reduceEqDiff, reduceCtorEq, Nat.reduceLT, Nat.reduceLeDiff, Nat.reduceAdd, Nat.reduceMul, Nat.zero_add, Nat.mul_zero, nar_0, nar_1, nar_b, bI_t, bI_f, bI_0, bI_1, Bool.true_eq_false, Bool.false_eq_true, Bool.and_self, Bool.and_false, Bool.false_and, Bool.true_and, Bool.and_true, and_self, c_isFixer hM hW.1.1 h8, hr, i3, rd]
/-- what is planned from fixer i on can still be given out -/
def GOk (P : Nat → Int32) (g : Nat → Int32) (nF nT i : Nat) : Prop := ∀ j, i ≤ j → j < 8 → P j = m6 ∨ ∃ t, t < nT ∧ j < nF ∧ P j = nI t ∧ gF g j 3 = m6 ∧ gT g t 0 = nI 0
theorem outP_F {p : Int32} {j : Nat} (hp : p = m6 ∨ ∃ n, n < 4 ∧ p = nI n) (hj : j < 8) : gF (outP f p) j 3 = gF f j 3 := by
  unfold outP
  rcases hp with rfl | ⟨n, hn, rfl⟩
  · rw [if_pos rfl]
  · rw [if_neg (nI_nm6 (by omega)), nI_clamp (by omega)]
    exact gF_sG (by omega) hj (by decide)
theorem takes_F {i t j : Nat} (hk : okT f t) (hi : i < 8) (hj : j < 8) (h : j ≠ i) : gF (takesF f i t) j 3 = gF f j 3 := by
  unfold takesF
  rw [gF_sFi h (by decide) (by decide), gF_sFi h (by decide) (by decide), gF_sT hj (by decide), gF_sT hj (by decide), outP_F hk.2 hj]
theorem takes_T {i t u : Nat} (hk : okT f t) (hi : i < 8) (hu : u < 16) (h : u ≠ t) : gT (takesF f i t) u 0 = gT f u 0 := by
  unfold takesF
  rw [gT_sF hi (by decide), gT_sF hi (by decide), gT_sTt h (by decide) (by decide), gT_sTt h (by decide) (by decide)]
  exact (nsF_outP (w := 0) hk.2).2.2 0
theorem plV_GO (hW : WF f nF nT) : GOk (plV (ablN f nF nT) nF) f nF nT 0 := by
  intro j _ hj
  rcases plV_spec (A := ablN f nF nT) (n := nF) (g := j) with e | ⟨u, u16, e1, e2, e3⟩
  · exact Or.inl e
  · unfold ablN ableF at e2
    simp only [Bool.and_eq_true, decide_eq_true_eq] at e2
    have := canF_w e2.2.2
    exact Or.inr ⟨u, e2.2.1, e2.1, e1, this.2.2, this.2.1⟩
/-- one given out -/
theorem go_step {P g : Nat → Int32} {i : Nat} (hW : WF g nF nT) (hG : GOk P g nF nT i) (hD : ∀ j k u, u < 16 → P j = nI u → P (j + 1 + k) = nI u → False) (hi : i < 8) (h : P i ≠ m6) : ∃ t, P i = nI t ∧ t < nT ∧ i < nF ∧ WF (takesF g i t) nF nT ∧ GOk P (takesF g i t) nF nT (i + 1) := by
  have h16 := hW.1.2.2.2
  rcases hG i (Nat.le_refl _) hi with e | ⟨t, t1, t2, t3, t4, t5⟩
  · exact absurd e h
  · have hk : okT g t := (hW.2.2.1 t t1).okT
    refine ⟨t, t3, t1, t2, hW.takes t2 t1 t4 t5, fun j hj hj8 => ?_⟩
    rcases hG j (by omega) hj8 with e | ⟨u, u1, u2, u3, u4, u5⟩
    · exact Or.inl e
    · have hne : u ≠ t := fun e => by
        subst e
        have ej : j = i + 1 + (j - (i + 1)) := by omega
        rw [ej] at u3
        exact hD i (j - (i + 1)) u (by omega) t3 u3
      exact Or.inr ⟨u, u1, u2, u3, by rw [takes_F hk hi hj8 (by omega)]; exact u4, by rw [takes_T hk hi (by omega) hne]; exact u5⟩
theorem GOk.next {P g : Nat → Int32} {i : Nat} (hG : GOk P g nF nT i) : GOk P g nF nT (i + 1) := fun j hj hj8 => hG j (by omega) hj8
theorem goF_s {P : Nat → Int32} {i : Nat} : goF P f (i + 1) = if P i = m6 then goF P f i else if inStF (goF P f i).2 (nsF (goF P f i).2 (P i).toNatClampNeg 2) = true then ((goF P f i).1 + 1, takesF (goF P f i).2 i (P i).toNatClampNeg) else goF P f i := rfl
theorem goF_WF {P : Nat → Int32} (hW : WF f nF nT) (hG : GOk P f nF nT 0) (hD : ∀ j k u, u < 16 → P j = nI u → P (j + 1 + k) = nI u → False) : ∀ i, i ≤ 8 → WF (goF P f i).2 nF nT ∧ GOk P (goF P f i).2 nF nT i ∧ (goF P f i).1 ≤ i
  | 0, _ => ⟨hW, hG, Nat.le_refl _⟩
  | i + 1, hi => by
    have h16 := hW.1.2.2.2
    obtain ⟨w1, w2, w3⟩ := goF_WF hW hG hD i (by omega)
    rw [goF_s]
    by_cases h6 : P i = m6
    · rw [if_pos h6]
      exact ⟨w1, w2.next, by omega⟩
    · rw [if_neg h6]
      obtain ⟨t, t1, t2, t3, t4, t5⟩ := go_step w1 w2 hD (by omega) h6
      rw [t1, nI_clamp (by omega)]
      split
      · exact ⟨t4, t5, by simp only []; omega⟩
      · exact ⟨w1, w2.next, by omega⟩
theorem l_giveOut (hM : IsMo D) {P : Nat → Int32} (hW : WF f nF nT) (hG : GOk P f nF nT 0) (hD : ∀ j k u, u < 16 → P j = nI u → P (j + 1 + k) = nI u → False) {N : Nat} (hN : N = 8) (hp : ∀ j, j < 8 → m 865 j = P j) {Q : Value → vDD → vMM → vZZ → Prop} : ∀ (k i : Nat) (v : Value), i + k = N →
    Runs MX7_giveOut 12 [.ref 853, .int (nI (goF P f i).1), .int (nI i), v] [] D (eM m (goF P f i).2) z Q = Q (.int (nI (goF P f N).1)) D (eM m (goF P f N).2) z := by
  have h1 := hM
  simp only [IsMo] at h1
  intro k
  induction k with
  | zero =>
    intro i v hi
    obtain rfl : i = N := by omega
    have h8 : 8 ≤ i := by omega
    rw [sX7_giveOut_12]
    simp (disch := omega) only [sX7_giveOut_13, sX7_giveOut_15, sX7_giveOut_18, sX7_giveOut_19, sX7_giveOut_22, sX7_giveOut_23, sX7_giveOut_24, sX7_giveOut_25, sX7_giveOut_26, sX7_giveOut_28, sX7_giveOut_31, sX7_giveOut_32, sX7_giveOut_33, sX7_giveOut_34, sX7_giveOut_35, sX7_giveOut_38, sX7_giveOut_41, sX7_giveOut_44, sX7_giveOut_45, sX7_giveOut_46, sX7_giveOut_47, sX7_giveOut_50, sX7_giveOut_53, sX7_giveOut_56, sX7_giveOut_59, sX7_giveOut_60, h1, true_and, and_true, true_or, or_true, eq_self, ↓reduceIte, if_true, if_false, nI_add, nI_mul, inB_nI, nI_clamp, Nat.add_zero, eqI, ltI, leI, m6_ne, ne_m6, Nat.reduceEqDiff, reduceCtorEq, Nat.reduceLT, Nat.reduceLeDiff, Nat.reduceAdd, Nat.reduceMul, Nat.zero_add, Nat.mul_zero, nar_0, nar_1, nar_b, bI_t, bI_f, bI_0, bI_1, Bool.true_eq_false, Bool.false_eq_true, Bool.and_self, Bool.and_false, Bool.false_and, Bool.true_and, Bool.and_true, and_self, h8]
  | succ k ih =>
    intro i v hi
    have hlt : ¬ 8 ≤ i := by omega
    have h16 := hW.1.2.2.2
    have h8 := hW.1.2.1
    obtain ⟨w1, w2, w3⟩ := goF_WF hW hG hD i (by omega)
    have ih := fun v => ih (i + 1) v (by omega)
    rw [goF_s] at ih
    have rd : ∀ g, eM m g 865 i = P i := fun g => by rw [eM_oth (by decide) (by decide)]; exact hp i (by omega)
    rw [sX7_giveOut_12]
    by_cases h6 : P i = m6
    · rw [if_pos h6] at ih
      simp (disch := omega) only [sX7_giveOut_13, sX7_giveOut_15, sX7_giveOut_18, sX7_giveOut_19, sX7_giveOut_22, sX7_giveOut_23, sX7_giveOut_24, sX7_giveOut_25, sX7_giveOut_26, sX7_giveOut_28, sX7_giveOut_31, sX7_giveOut_32, sX7_giveOut_33, sX7_giveOut_34, sX7_giveOut_35, sX7_giveOut_38, sX7_giveOut_41, sX7_giveOut_44, sX7_giveOut_45, sX7_giveOut_46, sX7_giveOut_47, sX7_giveOut_50, sX7_giveOut_53, sX7_giveOut_56, h1, true_and, and_true, true_or, or_true, eq_self, ↓reduceIte, if_true, if_false, nI_add, nI_mul, inB_nI, nI_clamp, Nat.add_zero, eqI, ltI, leI, m6_ne, ne_m6, Nat.reduceEqDiff, reduceCtorEq, Nat.reduceLT, Nat.reduceLeDiff, Nat.reduceAdd, Nat.reduceMul, Nat.zero_add, Nat.mul_zero, nar_0, nar_1, nar_b, bI_t, bI_f, bI_0, bI_1, Bool.true_eq_false, Bool.false_eq_true, Bool.and_self, Bool.and_false, Bool.false_and, Bool.true_and, Bool.and_true, and_self, hlt, rd, h6, ih]
    · rw [if_neg h6] at ih
      obtain ⟨t, t1, t2, t3, t4, t5⟩ := go_step w1 w2 hD (by omega) h6
      rw [t1, nI_clamp (by omega)] at ih
      have hk : okT (goF P f i).2 t := (w1.2.2.1 t t2).okT
      generalize goF P f i = G at *
      obtain ⟨n, g⟩ := G
      simp only [] at w1 w3 ih hk ⊢
      have ns : ∀ Q, Runs MX7_nextStep 0 [.ref 853, .int (nI t), .int (nI 2)] [] D (eM m g) z Q = Q (.int (nsF g t 2)) D (eM m g) z := fun Q => c_nextStep hM (by omega) (by decide) hk.1
      have is : ∀ Q, Runs MX7_isInStock 0 [.ref 853, .int (nsF g t 2)] [] D (eM m g) z Q = Q (.int (bI (inStF g (nsF g t 2)))) D (eM m g) z := fun Q => c_isInStock hM hk.2
      have tk : ∀ Q, Runs MX7_takes 0 [.ref 853, .int (nI i), .int (nI t), vJ] [] D (eM m g) z Q = Q vJ D (eM m (takesF g i t)) z := fun Q => c_takes hM (by omega) (by omega) hk
      cases hb : inStF g (nsF g t 2)
      · rw [hb] at is ih
        simp only [Bool.false_eq_true, if_false] at ih
        simp (disch := omega) only [sX7_giveOut_13, sX7_giveOut_15, sX7_giveOut_18, sX7_giveOut_19, sX7_giveOut_22, sX7_giveOut_23, sX7_giveOut_24, sX7_giveOut_25, sX7_giveOut_26, sX7_giveOut_28, sX7_giveOut_31, sX7_giveOut_32, sX7_giveOut_33, sX7_giveOut_34, sX7_giveOut_35, sX7_giveOut_38, sX7_giveOut_41, sX7_giveOut_44, sX7_giveOut_45, sX7_giveOut_46, sX7_giveOut_47, sX7_giveOut_50, sX7_giveOut_53, sX7_giveOut_56, h1, true_and, and_true, true_or, or_true, eq_self, ↓reduceIte, if_true, if_false, nI_add, nI_mul, inB_nI, nI_clamp, Nat.add_zero, eqI, ltI, leI, m6_ne, ne_m6, Nat.reduceEqDiff, reduceCtorEq, Nat.reduceLT, Nat.reduceLeDiff, Nat.reduceAdd, Nat.reduceMul, Nat.zero_add, Nat.mul_zero, nar_0, nar_1, nar_b, bI_t, bI_f, bI_0, bI_1, Bool.true_eq_false, Bool.false_eq_true, Bool.and_self, Bool.and_false, Bool.false_and, Bool.true_and, Bool.and_true, and_self, hlt, rd, t1, ne_m6, ns, is, ih]
      · rw [hb] at is ih
        simp only [if_true] at ih
        simp (disch := omega) only [sX7_giveOut_13, sX7_giveOut_15, sX7_giveOut_18, sX7_giveOut_19, sX7_giveOut_22, sX7_giveOut_23, sX7_giveOut_24, sX7_giveOut_25, sX7_giveOut_26, sX7_giveOut_28, sX7_giveOut_31, sX7_giveOut_32, sX7_giveOut_33, sX7_giveOut_34, sX7_giveOut_35, sX7_giveOut_38, sX7_giveOut_41, sX7_giveOut_44, sX7_giveOut_45, sX7_giveOut_46, sX7_giveOut_47, sX7_giveOut_50, sX7_giveOut_53, sX7_giveOut_56, h1, true_and, and_true, true_or, or_true, eq_self, ↓reduceIte, if_true, if_false, nI_add, nI_mul, inB_nI, nI_clamp, Nat.add_zero, eqI, ltI, leI, m6_ne, ne_m6, Nat.reduceEqDiff, reduceCtorEq, Nat.reduceLT, Nat.reduceLeDiff, Nat.reduceAdd, Nat.reduceMul, Nat.zero_add, Nat.mul_zero, nar_0, nar_1, nar_b, bI_t, bI_f, bI_0, bI_1, Bool.true_eq_false, Bool.false_eq_true, Bool.and_self, Bool.and_false, Bool.false_and, Bool.true_and, Bool.and_true, and_self, hlt, rd, t1, ne_m6, ns, is, tk, ih]
theorem m_giveOut (hM : IsMo D) (hr : m 853 3 = nI r) (h6 : r ≤ 6) (hW : WF f nF nT) {N : Nat} (hN : N = 8) : ∃ m', CHm (recM m f r) m' ∧ WF (goF (plV (ablN f nF nT) nF) f N).2 nF nT ∧ ∀ Q, Runs MX7_giveOut 0 [.ref 853, vJ, vJ, vJ] [] D (eM m f) z Q = Q (.int (nI (goF (plV (ablN f nF nT) nF) f N).1)) D (eM m' (goF (plV (ablN f nF nT) nF) f N).2) z := by
  have h1 := hM
  simp only [IsMo] at h1
  obtain ⟨m', i1, i2, i3⟩ := c_findPlan (D := D) (m := recM m f r) (f := f) (z := z) hM hW
  have hD : ∀ j k u, u < 16 → plV (ablN f nF nT) nF j = nI u → plV (ablN f nF nT) nF (j + 1 + k) = nI u → False := fun j k u hu => plV_dis hu
  have hG := plV_GO hW
  have l := fun Q => l_giveOut (D := D) (m := m') (z := z) (Q := Q) hM hW hG hD hN i2 N 0 vJ (by omega)
  have wf := (goF_WF hW hG hD N (by omega)).1
  generalize plV (ablN f nF nT) nF = P at *
  have e0 : goF P f 0 = (0, f) := rfl
  rw [e0] at l
  refine ⟨m', i1, wf, fun Q => ?_⟩
  simp (disch := omega) only [sX7_giveOut_0, sX7_giveOut_1, sX7_giveOut_4, sX7_giveOut_5, sX7_giveOut_8, sX7_giveOut_9, sX7_giveOut_10, sX7_giveOut_11, h1, true_and, and_true, true_or, or_true, eq_self, ↓reduceIte, if_true, if_false, nI_add, nI_mul, inB_nI, nI_clamp, Nat.add_zero, eqI, ltI, leI, m6_ne, ne_m6, Nat.reduceEqDiff, reduceCtorEq, Nat.reduceLT, Nat.reduceLeDiff, Nat.reduceAdd, Nat.reduceMul, Nat.zero_add, Nat.mul_zero, nar_0, nar_1, nar_b, bI_t, bI_f, bI_0, bI_1, Bool.true_eq_false, Bool.false_eq_true, Bool.and_self, Bool.and_false, Bool.false_and, Bool.true_and, Bool.and_true, and_self, c_record hM hr h6, i3, l]
end PLANS2
