/-! the law's plan, its copy -/
section VAL
variable {f : Nat → Int32} {nF nT fr u s i : Nat}
theorem beh_ext {A A' : Nat → Nat → Bool} {n a : Nat} {S S' : Nat → Bool} (h : ∀ g t, g < n → t < 16 → A g t = A' g t) (hS : ∀ t, t < 16 → S t = S' t) : behF A n a S = behF A' n a S' := by
  unfold behF svF
  exact mn_ext _ _ _ (fun k t hk ht => by rw [h (a + k) t (by omega) ht, hS t ht]) (fun _ _ => rfl)
theorem ef_last {o : Int32} {t : Nat} : efA f nF nT o m1 nF t = false := by
  unfold efA
  rw [if_pos rfl, decide_eq_true m1_lt, Bool.not_true, Bool.false_and, Bool.and_false]
theorem mv_plan (hfr : fr ≤ nF) (h8 : nF ≤ 8) : mnR (rwU (fun k t => efA f nF nT m1 m1 (fr + k) t) u) 16 (nF + 1 - fr) noB = behF (ablN f nF nT) nF fr (fun t => !u.testBit t) := by
  have e : nF + 1 - fr = (nF - fr) + 1 := by omega
  rw [e, mn_none (fun t _ => by
    show (efA f nF nT m1 m1 (fr + (nF - fr)) t && !u.testBit t) = false
    rw [(by omega : fr + (nF - fr) = nF), ef_last]
    rfl)]
  unfold behF svF
  refine mn_ext _ _ _ (fun k t hk _ => ?_) (fun _ _ => rfl)
  unfold rwU efA ablN
  simp only []
  have h1 : ¬ nI (fr + k) = m1 := fun q => by
    have := m1_lt_nI (w := fr + k) (by omega)
    rw [q] at this
    exact absurd this (by decide +kernel)
  rw [decide_eq_false h1, if_neg (by omega), decide_eq_true (by omega : fr + k < nF), Bool.not_false]
theorem mv_out (hi : i < nF) (h8 : nF ≤ 8) : mnR (rwU (fun k t => efA f nF nT (nI i) m1 (0 + k) t) 0) 16 (nF + 1 - 0) noB = behF (fun g t => !(g == i) && ablN f nF nT g t) nF 0 (fun _ => true) := by
  rw [Nat.sub_zero, mn_none (fun t _ => by
    show (efA f nF nT (nI i) m1 (0 + nF) t && !Nat.testBit 0 t) = false
    rw [Nat.zero_add, ef_last]
    rfl)]
  unfold behF svF
  refine mn_ext _ _ _ (fun k t hk _ => ?_) (fun _ _ => rfl)
  unfold rwU efA ablN
  simp only []
  have h1 : decide (nI (0 + k) = nI i) = (0 + k == i) := by
    rw [Bool.eq_iff_iff, decide_eq_true_eq, beq_iff_eq, nI_eq (by omega) (by omega)]
  rw [h1, if_neg (by omega), decide_eq_true (by omega : 0 + k < nF), Bool.true_and, Nat.zero_testBit, Bool.not_false]
theorem mv_more (h8 : nF ≤ 8) (hs : s < 6) : mnR (rwU (fun k t => efA f nF nT m1 (nI s) (0 + k) t) 0) 16 (nF + 1 - 0) noB = bsV f nF nT s := by
  unfold bsV svF
  refine mn_ext _ _ _ (fun k t hk _ => ?_) (fun _ _ => rfl)
  unfold rwU efA
  simp only []
  have h1 : ¬ nI (0 + k) = m1 := fun q => by
    have := m1_lt_nI (w := 0 + k) (by omega)
    rw [q] at this
    exact absurd this (by decide +kernel)
  have h2 : ¬ nI s < nI 0 := by rw [ltI _ _ (by omega) (by decide)]; omega
  rw [decide_eq_false h1, decide_eq_false h2, Nat.zero_add, Nat.zero_testBit, Bool.not_false, Bool.true_and, Bool.and_true, Bool.true_and]
  rfl
end VAL
/-! a memory that holds the law's morning -/
def LB (M : vMM) (a : Nat) (f : Nat → Int32) : Prop := lM M a f = M
section LBS
variable {D : vDD} {M M' : vMM} {f : Nat → Int32} {z : vZZ} {Q : Value → vDD → vMM → vZZ → Prop} {nF nT a b p u fr : Nat} {R PL : Nat → Int32} {o mr : Int32}
theorem lM_lM {m : vMM} {g : Nat → Int32} : lM (lM m a g) a f = lM m a f := by
  funext x
  funext k
  unfold lM
  by_cases h : ixL a x k < 346
  · rw [if_pos h, if_pos h]
  · rw [if_neg h, if_neg h, if_neg h]
theorem LB.mk {m : vMM} : LB (lM m a f) a f := lM_lM
theorem LB.cong (h : LB M a f) (e : ∀ x, a ≤ x → x < a + 3 → M' x = M x) : LB M' a f := by
  funext x
  funext k
  by_cases hx : a ≤ x ∧ x < a + 3
  · have h1 := congrFun (congrFun h x) k
    unfold lM at h1 ⊢
    rw [e x hx.1 hx.2]
    exact h1
  · rw [l_o (by omega)]
theorem LB.sr (h : LB M a f) (hb : b < a ∨ a + 3 ≤ b) : LB (setR M b R) a f := h.cong (fun x _ _ => setR_ne (by omega))
theorem lM_sr (hb : b < a ∨ a + 3 ≤ b) : lM (setR M b R) a f = setR (lM M a f) b R := by
  funext x
  by_cases hx : x = b
  · subst hx
    rw [l_o hb, setR_eq, setR_eq]
  · rw [setR_ne hx]
    funext k
    unfold lM
    rw [setR_ne hx]
theorem Pk.at (hP : Pk M (a + 2) f nT) (hb : b < a ∨ a + 3 ≤ b) : Pk (setR M b R) (a + 2) f nT := hP.cong (fun t s _ _ => by rw [setR_ne (by omega)])
theorem z_most (hL : LB M a f) (hb : b < a ∨ a + 3 ≤ b) (hB : (D b).1 = 8 ∧ (D b).2.1 = 32) (hD : IsL D a) (hW : WF f nF nT) (h5 : nF ≤ 5) (h7 : nT ≤ 7) (hP : Pk M (a + 2) f nT) (hu : u < 128) (hfr : fr ≤ nF) (hmr : mr = m1 ∨ ∃ s, s < 6 ∧ mr = nI s) :
    ∃ R', ∀ Q, Runs ML_most 0 [.int (nI fr), .int o, .int mr, .ref a, .ref (a + 1), .ref (a + 2), .int (nI u), .ref b, vJ, vJ, vJ, vJ, vJ] [] D M z Q = Q (.int (nI (mnR (rwU (fun k t => efA f nF nT o mr (fr + k) t) u) 16 (nF + 1 - fr) noB))) D (setR M b R') z := by
  obtain ⟨R', y⟩ := y_most (D := D) (m := M) (z := z) (o := o) hb hB hD hW h5 h7 hP hu hfr hmr (M b)
  refine ⟨R', fun Q => ?_⟩
  rw [setR_self, lM_sr hb, show lM M a f = M from hL] at y
  exact y Q
/-- the row of the plan, the row of bytes -/
def MP (M : vMM) (b p : Nat) (R PL : Nat → Int32) : vMM := setR (setR M p PL) b R
theorem MP_p (hp : p ≠ b) : MP M b p R PL p = PL := by unfold MP; rw [setR_ne hp, setR_eq]
theorem MP_w (hp : p ≠ b) {k : Nat} {x : Int32} : up2 (MP M b p R PL) p k x = MP M b p R (upd PL k x) := by
  funext q
  unfold MP
  by_cases e : q = p
  · subst e
    rw [up2_eq, setR_ne hp, setR_eq, setR_ne hp, setR_eq]
  · rw [up2_ne e]
    by_cases e2 : q = b
    · subst e2
      rw [setR_eq, setR_eq]
    · rw [setR_ne e2, setR_ne e, setR_ne e2, setR_ne e]
theorem MP_R {R2 : Nat → Int32} : setR (MP M b p R PL) b R2 = MP M b p R2 PL := by unfold MP; rw [setR_R]
theorem MP_self (hp : p ≠ b) : MP M b p (M b) (M p) = M := by
  funext q
  unfold MP
  by_cases e2 : q = b
  · subst e2; rw [setR_eq]
  · rw [setR_ne e2, setR_self]
theorem ab_can (h7 : nT ≤ 7) {i t : Nat} (hi : i < nF) (ht : t < nT) : ablN f nF nT i t = canF f i t := by
  unfold ablN ableF
  rw [decide_eq_true hi, decide_eq_true ht, Bool.true_and, Bool.true_and]
theorem low_out {A : Nat → Nat → Bool} {n g : Nat} {S : Nat → Bool} {need : Int32} : ∀ k t, (∀ v, t ≤ v → A g v = false) → lowF A n g S need k t = m6
  | 0, _, _ => rfl
  | k + 1, t, h => by
    unfold lowF
    rw [h t (Nat.le_refl _), Bool.false_and, if_neg (by decide)]
    exact low_out k (t + 1) (fun v hv => h v (by omega))
theorem low_s {A : Nat → Nat → Bool} {n g t : Nat} {S : Nat → Bool} {need : Int32} (ht : t < 16) : lowF A n g S need (16 - t) t = if (A g t && (S t && (nI 1 + nI (behF A n (g + 1) (fun u => S u && !(u == t))) == need))) = true then nI t else lowF A n g S need (16 - (t + 1)) (t + 1) := by
  rw [(by omega : 16 - t = (16 - (t + 1)) + 1)]
  rfl
/-- one fixer's thing, from above -/
theorem l_Pl1 (hL : LB M a f) (hb : b < a ∨ a + 3 ≤ b) (hpa : p < a ∨ a + 3 ≤ p) (hpb : p ≠ b) (hB : (D b).1 = 8 ∧ (D b).2.1 = 32) (hp8 : (D p).1 = 8 ∧ (D p).2.1 = 8) (hD : IsL D a) (hW : WF f nF nT) (h5 : nF ≤ 5) (h7 : nT ≤ 7) (hP : Pk M (a + 2) f nT) (hu : u < 128) {i : Nat} (hi : i < nF)
    {S : Nat → Bool} {need : Int32} (hS : ∀ t, t < 16 → S t = !u.testBit t) : ∀ j (R PL : Nat → Int32), j ≤ nT → PL i = lowF (ablN f nF nT) nF i S need (16 - j) j →
    ∃ R' PL', PL' i = lowF (ablN f nF nT) nF i S need 16 0 ∧ (∀ k, k ≠ i → PL' k = PL k) ∧ ∀ Q, Runs ML_plan 41 [.ref a, .ref (a + 1), .ref (a + 2), .ref b, .ref p, .int (nI u), .int need, .int (nI i), .int (nI j - nI 1)] [] D (MP M b p R PL) z Q = Runs ML_plan 113 [.ref a, .ref (a + 1), .ref (a + 2), .ref b, .ref p, .int (nI u), .int need, .int (nI i), .int m1] [] D (MP M b p R' PL') z Q := by
  intro j
  induction j with
  | zero =>
    intro R PL hj h
    refine ⟨R, PL, h, fun _ _ => rfl, fun Q => ?_⟩
    rw [i0m1, sL_plan_41]
    simp (disch := omega) only [sL_plan_43, true_and, and_true, true_or, or_true, eq_self, ↓reduceIte, if_true, if_false, nI_add, nI_mul, inB_nI, nI_clamp, Nat.add_zero, eqI, ltI, leI, m6_ne, ne_m6, Nat.reduceEqDiff, reduceCtorEq, Nat.reduceLT, Nat.reduceLeDiff, Nat.reduceAdd, Nat.reduceMul, Nat.zero_add, Nat.mul_zero, nar_0, nar_1, nar_b, bI_t, bI_f, bI_0, bI_1, Bool.true_eq_false, Bool.false_eq_true, Bool.and_self, Bool.and_false, Bool.false_and, Bool.true_and, Bool.and_true, and_self, m1_lt]
  | succ j ih =>
    intro R PL hj h
    have ej : nI (j + 1) - nI 1 = nI j := nI_sub _ _ (by omega)
    have hn : ¬ j < 0 := Nat.not_lt_zero j
    have sb : (nI u >>> (nI j &&& 31)) &&& nI 1 = bI (u.testBit j) := by rw [sel_1, selB_nI (by omega)]
    have hL2 : LB (MP M b p R PL) a f := (hL.sr hpa).sr hb
    have hP2 : Pk (MP M b p R PL) (a + 2) f nT := (hP.at hpa).at hb
    have ls := low_s (A := ablN f nF nT) (n := nF) (g := i) (S := S) (need := need) (t := j) (by omega)
    have ya := fun Q => y_able (D := D) (m := MP M b p R PL) (z := z) (Q := Q) hD hW h5 h7 hP2 hi (t := j) (by omega)
    rw [show lM (MP M b p R PL) a f = MP M b p R PL from hL2] at ya
    rw [ab_can h7 hi (by omega), hS j (by omega)] at ls
    cases hbt : u.testBit j
    · rw [hbt] at sb ls
      cases hc : canF f i j
      · rw [hc] at ya ls
        rw [Bool.false_and, if_neg (by decide)] at ls
        obtain ⟨R', PL', r1, r2, r3⟩ := ih R PL (by omega) (by rw [ls]; exact h)
        refine ⟨R', PL', r1, r2, fun Q => ?_⟩
        rw [ej, sL_plan_41]
        simp (disch := omega) only [sL_plan_43, sL_plan_46, sL_plan_48, sL_plan_50, sL_plan_51, sL_plan_52, sL_plan_53, sL_plan_54, sL_plan_57, sL_plan_59, sL_plan_61, sL_plan_62, sL_plan_63, sL_plan_64, sL_plan_67, sL_plan_70, sL_plan_73, sL_plan_74, sL_plan_76, sL_plan_77, sL_plan_78, sL_plan_79, sL_plan_80, sL_plan_81, sL_plan_82, sL_plan_83, sL_plan_85, sL_plan_86, sL_plan_88, sL_plan_89, sL_plan_90, sL_plan_91, sL_plan_94, sL_plan_95, sL_plan_97, sL_plan_100, sL_plan_102, sL_plan_104, sL_plan_106, sL_plan_107, sL_plan_110, true_and, and_true, true_or, or_true, eq_self, ↓reduceIte, if_true, if_false, nI_add, nI_mul, inB_nI, nI_clamp, Nat.add_zero, eqI, ltI, leI, m6_ne, ne_m6, Nat.reduceEqDiff, reduceCtorEq, Nat.reduceLT, Nat.reduceLeDiff, Nat.reduceAdd, Nat.reduceMul, Nat.zero_add, Nat.mul_zero, nar_0, nar_1, nar_b, bI_t, bI_f, bI_0, bI_1, Bool.true_eq_false, Bool.false_eq_true, Bool.and_self, Bool.and_false, Bool.false_and, Bool.true_and, Bool.and_true, and_self, hn, sb, ya, add_m1, r3, Nat.zero_ne_one]
      · rw [hc] at ya ls
        have eo : nI u ||| nI 1 <<< (nI j &&& 31) = nI (u ||| 2 ^ j) := by rw [nI_shl (by omega), nI_or]
        obtain ⟨R1, ym⟩ := z_most (D := D) (M := MP M b p R PL) (z := z) (fr := i + 1) (o := m1) (mr := m1) hL2 hb hB hD hW h5 h7 hP2 (or_lt hu (by omega : j < 7)) (by omega) (Or.inl rfl)
        rw [mv_plan (by omega) (by omega), MP_R] at ym
        have eb : behF (ablN f nF nT) nF (i + 1) (fun t => !(u ||| 2 ^ j).testBit t) = behF (ablN f nF nT) nF (i + 1) (fun t => S t && !(t == j)) := beh_ext (fun _ _ _ _ => rfl) (fun t ht => by
          rw [tb_or, hS t ht, Bool.not_or])
        rw [eb] at ym
        rw [Bool.true_and, Bool.not_false, Bool.true_and] at ls
        generalize behF (ablN f nF nT) nF (i + 1) (fun t => S t && !(t == j)) = V at ym ls
        by_cases hq : nI 1 + nI V = need
        · rw [if_pos (beq_iff_eq.mpr hq)] at ls
          obtain ⟨R', PL', r1, r2, r3⟩ := ih R1 (upd PL i (nI j)) (by omega) (by rw [ls, upd_eq])
          have hq2 : nI (1 + V) = need := by rw [← hq, nI_add]
          refine ⟨R', PL', r1, fun k hk => by rw [r2 k hk, upd_ne _ _ hk], fun Q => ?_⟩
          rw [ej, sL_plan_41]
          simp (disch := omega) only [sL_plan_43, sL_plan_46, sL_plan_48, sL_plan_50, sL_plan_51, sL_plan_52, sL_plan_53, sL_plan_54, sL_plan_57, sL_plan_59, sL_plan_61, sL_plan_62, sL_plan_63, sL_plan_64, sL_plan_67, sL_plan_70, sL_plan_73, sL_plan_74, sL_plan_76, sL_plan_77, sL_plan_78, sL_plan_79, sL_plan_80, sL_plan_81, sL_plan_82, sL_plan_83, sL_plan_85, sL_plan_86, sL_plan_88, sL_plan_89, sL_plan_90, sL_plan_91, sL_plan_94, sL_plan_95, sL_plan_97, sL_plan_100, sL_plan_102, sL_plan_104, sL_plan_106, sL_plan_107, sL_plan_110, hp8, true_and, and_true, true_or, or_true, eq_self, ↓reduceIte, if_true, if_false, nI_add, nI_mul, inB_nI, nI_clamp, Nat.add_zero, eqI, ltI, leI, m6_ne, ne_m6, Nat.reduceEqDiff, reduceCtorEq, Nat.reduceLT, Nat.reduceLeDiff, Nat.reduceAdd, Nat.reduceMul, Nat.zero_add, Nat.mul_zero, nar_0, nar_1, nar_b, bI_t, bI_f, bI_0, bI_1, Bool.true_eq_false, Bool.false_eq_true, Bool.and_self, Bool.and_false, Bool.false_and, Bool.true_and, Bool.and_true, and_self, hn, sb, ya, eo, ym, hq2, MP_w hpb, add_m1, r3, Nat.zero_ne_one, Nat.one_ne_zero]
        · rw [if_neg (fun q => hq (beq_iff_eq.mp q))] at ls
          obtain ⟨R', PL', r1, r2, r3⟩ := ih R1 PL (by omega) (by rw [ls]; exact h)
          have hq2 : ¬ nI (1 + V) = need := fun q => hq (by rw [nI_add]; exact q)
          refine ⟨R', PL', r1, r2, fun Q => ?_⟩
          rw [ej, sL_plan_41]
          simp (disch := omega) only [sL_plan_43, sL_plan_46, sL_plan_48, sL_plan_50, sL_plan_51, sL_plan_52, sL_plan_53, sL_plan_54, sL_plan_57, sL_plan_59, sL_plan_61, sL_plan_62, sL_plan_63, sL_plan_64, sL_plan_67, sL_plan_70, sL_plan_73, sL_plan_74, sL_plan_76, sL_plan_77, sL_plan_78, sL_plan_79, sL_plan_80, sL_plan_81, sL_plan_82, sL_plan_83, sL_plan_85, sL_plan_86, sL_plan_88, sL_plan_89, sL_plan_90, sL_plan_91, sL_plan_94, sL_plan_95, sL_plan_97, sL_plan_100, sL_plan_102, sL_plan_104, sL_plan_106, sL_plan_107, sL_plan_110, hp8, true_and, and_true, true_or, or_true, eq_self, ↓reduceIte, if_true, if_false, nI_add, nI_mul, inB_nI, nI_clamp, Nat.add_zero, eqI, ltI, leI, m6_ne, ne_m6, Nat.reduceEqDiff, reduceCtorEq, Nat.reduceLT, Nat.reduceLeDiff, Nat.reduceAdd, Nat.reduceMul, Nat.zero_add, Nat.mul_zero, nar_0, nar_1, nar_b, bI_t, bI_f, bI_0, bI_1, Bool.true_eq_false, Bool.false_eq_true, Bool.and_self, Bool.and_false, Bool.false_and, Bool.true_and, Bool.and_true, and_self, hn, sb, ya, eo, ym, hq2, add_m1, r3, Nat.zero_ne_one, Nat.one_ne_zero]
    · rw [hbt] at sb ls
      rw [Bool.not_true, Bool.false_and, Bool.and_false, if_neg (by decide)] at ls
      obtain ⟨R', PL', r1, r2, r3⟩ := ih R PL (by omega) (by rw [ls]; exact h)
      refine ⟨R', PL', r1, r2, fun Q => ?_⟩
      rw [ej, sL_plan_41]
      simp (disch := omega) only [sL_plan_43, sL_plan_46, sL_plan_48, sL_plan_50, sL_plan_51, sL_plan_52, sL_plan_53, sL_plan_54, sL_plan_57, sL_plan_59, sL_plan_61, sL_plan_62, sL_plan_63, sL_plan_64, sL_plan_67, sL_plan_70, sL_plan_73, sL_plan_74, sL_plan_76, sL_plan_77, sL_plan_78, sL_plan_79, sL_plan_80, sL_plan_81, sL_plan_82, sL_plan_83, sL_plan_85, sL_plan_86, sL_plan_88, sL_plan_89, sL_plan_90, sL_plan_91, sL_plan_94, sL_plan_95, sL_plan_97, sL_plan_100, sL_plan_102, sL_plan_104, sL_plan_106, sL_plan_107, sL_plan_110, true_and, and_true, true_or, or_true, eq_self, ↓reduceIte, if_true, if_false, nI_add, nI_mul, inB_nI, nI_clamp, Nat.add_zero, eqI, ltI, leI, m6_ne, ne_m6, Nat.reduceEqDiff, reduceCtorEq, Nat.reduceLT, Nat.reduceLeDiff, Nat.reduceAdd, Nat.reduceMul, Nat.zero_add, Nat.mul_zero, nar_0, nar_1, nar_b, bI_t, bI_f, bI_0, bI_1, Bool.true_eq_false, Bool.false_eq_true, Bool.and_self, Bool.and_false, Bool.false_and, Bool.true_and, Bool.and_true, and_self, hn, sb, add_m1, r3]
theorem l_Pl2 (hL : LB M a f) (hb : b < a ∨ a + 3 ≤ b) (hpa : p < a ∨ a + 3 ≤ p) (hpb : p ≠ b) (hB : (D b).1 = 8 ∧ (D b).2.1 = 32) (hp8 : (D p).1 = 8 ∧ (D p).2.1 = 8) (hD : IsL D a) (hW : WF f nF nT) (h5 : nF ≤ 5) (h7 : nT ≤ 7) (hP : Pk M (a + 2) f nT) : ∀ k i (u : Nat) (need : Int32) (R PL : Nat → Int32) (v8 : Value), i + k = nF → u < 128 → (∀ t, t < 16 → (plS (ablN f nF nT) nF i).1 t = !u.testBit t) → need = (plS (ablN f nF nT) nF i).2 → (∀ j, j < i → PL j = plV (ablN f nF nT) nF j) →
    ∃ R' PL', (∀ j, j < nF → PL' j = plV (ablN f nF nT) nF j) ∧ ∀ Q, Runs ML_plan 19 [.ref a, .ref (a + 1), .ref (a + 2), .ref b, .ref p, .int (nI u), .int need, .int (nI i), v8] [] D (MP M b p R PL) z Q = Q vJ D (MP M b p R' PL') z := by
  have hD0 := hD
  have g2 := hW.1.1
  have g3 := hW.1.2.2.1
  simp only [IsL] at hD
  intro k
  induction k with
  | zero =>
    intro i u need R PL v8 hk hu hS hne hPL
    obtain rfl : i = nF := by omega
    have hL2 : LB (MP M b p R PL) a f := (hL.sr hpa).sr hb
    have q2 : MP M b p R PL a 2 = gG f 2 := by rw [← show lM (MP M b p R PL) a f = MP M b p R PL from hL2]; exact l_q (by decide)
    refine ⟨R, PL, hPL, fun Q => ?_⟩
    rw [sL_plan_19]
    simp (disch := omega) only [sL_plan_21, sL_plan_22, sL_plan_23, sL_plan_24, sL_plan_27, sL_plan_29, sL_plan_31, sL_plan_33, sL_plan_145, hD, true_and, and_true, true_or, or_true, eq_self, ↓reduceIte, if_true, if_false, nI_add, nI_mul, inB_nI, nI_clamp, Nat.add_zero, eqI, ltI, leI, m6_ne, ne_m6, Nat.reduceEqDiff, reduceCtorEq, Nat.reduceLT, Nat.reduceLeDiff, Nat.reduceAdd, Nat.reduceMul, Nat.zero_add, Nat.mul_zero, nar_0, nar_1, nar_b, bI_t, bI_f, bI_0, bI_1, Bool.true_eq_false, Bool.false_eq_true, Bool.and_self, Bool.and_false, Bool.false_and, Bool.true_and, Bool.and_true, and_self, q2, g2, Nat.le_refl]
  | succ k ih =>
    intro i u need R PL v8 hk hu hS hne hPL
    have hlt : ¬ nF ≤ i := by omega
    have hi5 : i < 8 := by omega
    have hl := fun (R PL : Nat → Int32) => (show lM (MP M b p R PL) a f = MP M b p R PL from (hL.sr hpa).sr hb)
    have q2 : ∀ R PL, MP M b p R PL a 2 = gG f 2 := fun R PL => by rw [← hl R PL]; exact l_q (by decide)
    have q3 : ∀ R PL, MP M b p R PL a 3 = gG f 3 := fun R PL => by rw [← hl R PL]; exact l_q (by decide)
    obtain ⟨R1, PL1, r1, r2, r3⟩ := l_Pl1 (D := D) (M := M) (z := z) (u := u) hL hb hpa hpb hB hp8 hD0 hW h5 h7 hP hu (i := i) (by omega) hS (need := need) nT R (upd PL i m6) (Nat.le_refl _) (by
      rw [upd_eq]
      exact (low_out _ _ (fun v hv => by unfold ablN ableF; rw [decide_eq_false (by omega : ¬ v < nT), Bool.false_and, Bool.and_false])).symm)
    have e1 : PL1 i = plV (ablN f nF nT) nF i := by rw [r1, hne]; rfl
    have hPL2 : ∀ j, j < i + 1 → PL1 j = plV (ablN f nF nT) nF j := fun j hj => by
      by_cases e : j = i
      · subst e; exact e1
      · rw [r2 j e, upd_ne _ _ e]; exact hPL j (by omega)
    have ps := plS_s (A := ablN f nF nT) (n := nF) (g := i)
    have pi : ∀ R, MP M b p R PL1 p i = plV (ablN f nF nT) nF i := fun R => by rw [MP_p hpb]; exact e1
    rcases plV_spec (A := ablN f nF nT) (n := nF) (g := i) with e | ⟨v, hv, e, hav, hsv⟩
    · rw [if_pos e] at ps
      obtain ⟨R', PL', s1, s2⟩ := ih (i + 1) u need R1 PL1 (.int m1) (by omega) hu (by rw [ps]; exact hS) (by rw [ps]; exact hne) hPL2
      refine ⟨R', PL', s1, fun Q => ?_⟩
      rw [e] at pi
      rw [sL_plan_19]
      simp (disch := omega) only [sL_plan_21, sL_plan_22, sL_plan_23, sL_plan_24, sL_plan_27, sL_plan_29, sL_plan_31, sL_plan_33, sL_plan_34, sL_plan_35, sL_plan_36, sL_plan_37, sL_plan_38, sL_plan_39, hD, hp8, true_and, and_true, true_or, or_true, eq_self, ↓reduceIte, if_true, if_false, nI_add, nI_mul, inB_nI, nI_clamp, Nat.add_zero, eqI, ltI, leI, m6_ne, ne_m6, Nat.reduceEqDiff, reduceCtorEq, Nat.reduceLT, Nat.reduceLeDiff, Nat.reduceAdd, Nat.reduceMul, Nat.zero_add, Nat.mul_zero, nar_0, nar_1, nar_b, bI_t, bI_f, bI_0, bI_1, Bool.true_eq_false, Bool.false_eq_true, Bool.and_self, Bool.and_false, Bool.false_and, Bool.true_and, Bool.and_true, and_self, q2, g2, hlt, MP_w hpb, q3, g3, r3, sL_plan_113, sL_plan_115, sL_plan_117, sL_plan_118, sL_plan_121, sL_plan_124, sL_plan_126, sL_plan_127, sL_plan_129, sL_plan_131, sL_plan_132, sL_plan_133, sL_plan_134, sL_plan_136, sL_plan_139, sL_plan_142, pi, m6_nge, s2]
    · have hv7 : v < nT := by
        unfold ablN ableF at hav
        simp only [Bool.and_eq_true, decide_eq_true_eq] at hav
        exact hav.2.1
      rw [if_neg (by rw [e]; exact nI_nm6 (by omega)), e, nI_clamp (by omega)] at ps
      have eo : nI u ||| nI 1 <<< (nI v &&& 31) = nI (u ||| 2 ^ v) := by rw [nI_shl (by omega), nI_or]
      obtain ⟨R', PL', s1, s2⟩ := ih (i + 1) (u ||| 2 ^ v) (need - nI 1) R1 PL1 (.int m1) (by omega) (or_lt hu (by omega)) (fun t ht => by rw [ps, tb_or]; simp only []; rw [hS t ht, Bool.not_or]) (by rw [ps, hne]) hPL2
      refine ⟨R', PL', s1, fun Q => ?_⟩
      rw [e] at pi
      rw [sL_plan_19]
      simp (disch := omega) only [sL_plan_21, sL_plan_22, sL_plan_23, sL_plan_24, sL_plan_27, sL_plan_29, sL_plan_31, sL_plan_33, sL_plan_34, sL_plan_35, sL_plan_36, sL_plan_37, sL_plan_38, sL_plan_39, hD, hp8, true_and, and_true, true_or, or_true, eq_self, ↓reduceIte, if_true, if_false, nI_add, nI_mul, inB_nI, nI_clamp, Nat.add_zero, eqI, ltI, leI, m6_ne, ne_m6, Nat.reduceEqDiff, reduceCtorEq, Nat.reduceLT, Nat.reduceLeDiff, Nat.reduceAdd, Nat.reduceMul, Nat.zero_add, Nat.mul_zero, nar_0, nar_1, nar_b, bI_t, bI_f, bI_0, bI_1, Bool.true_eq_false, Bool.false_eq_true, Bool.and_self, Bool.and_false, Bool.false_and, Bool.true_and, Bool.and_true, and_self, q2, g2, hlt, MP_w hpb, q3, g3, r3, sL_plan_113, sL_plan_115, sL_plan_117, sL_plan_118, sL_plan_121, sL_plan_124, sL_plan_126, sL_plan_127, sL_plan_129, sL_plan_131, sL_plan_132, sL_plan_133, sL_plan_134, sL_plan_136, sL_plan_139, sL_plan_142, pi, Nat.zero_le, eo, add_m1, s2]
theorem z_plan (hL : LB M a f) (hb : b < a ∨ a + 3 ≤ b) (hpa : p < a ∨ a + 3 ≤ p) (hpb : p ≠ b) (hB : (D b).1 = 8 ∧ (D b).2.1 = 32) (hp8 : (D p).1 = 8 ∧ (D p).2.1 = 8) (hD : IsL D a) (hW : WF f nF nT) (h5 : nF ≤ 5) (h7 : nT ≤ 7) (hP : Pk M (a + 2) f nT) :
    ∃ M', (∀ x, x ≠ b → x ≠ p → M' x = M x) ∧ (∀ j, j < nF → M' p j = plV (ablN f nF nT) nF j) ∧ ∀ Q, Runs ML_plan 0 [.ref a, .ref (a + 1), .ref (a + 2), .ref b, .ref p, vJ, vJ, vJ, vJ] [] D M z Q = Q vJ D M' z := by
  obtain ⟨R1, ym⟩ := z_most (D := D) (M := M) (z := z) (fr := 0) (u := 0) (o := m1) (mr := m1) hL hb hB hD hW h5 h7 hP (by decide) (Nat.zero_le _) (Or.inl rfl)
  rw [mv_plan (Nat.zero_le _) (by omega)] at ym
  have e0 : setR M b R1 = MP M b p R1 (M p) := by
    unfold MP
    rw [setR_self]
  have eb : behF (ablN f nF nT) nF 0 (fun t => !Nat.testBit 0 t) = behF (ablN f nF nT) nF 0 (fun _ => true) := beh_ext (fun _ _ _ _ => rfl) (fun t _ => by rw [Nat.zero_testBit]; rfl)
  rw [e0, eb] at ym
  obtain ⟨R', PL', s1, s2⟩ := l_Pl2 (D := D) (M := M) (z := z) hL hb hpa hpb hB hp8 hD hW h5 h7 hP nF 0 0 (nI (behF (ablN f nF nT) nF 0 (fun _ => true))) R1 (M p) vJ (by omega) (by decide) (fun t _ => by rw [Nat.zero_testBit]; rfl) rfl (fun j hj => absurd hj (Nat.not_lt_zero j))
  refine ⟨MP M b p R' PL', fun x h1 h2 => ?_, fun j hj => by rw [MP_p hpb]; exact s1 j hj, fun Q => ?_⟩
  · unfold MP
    rw [setR_ne h1, setR_ne h2]
  · simp (disch := omega) only [sL_plan_0, sL_plan_1, sL_plan_3, sL_plan_4, sL_plan_5, sL_plan_6, sL_plan_7, sL_plan_8, sL_plan_9, sL_plan_10, sL_plan_11, sL_plan_14, sL_plan_16, sL_plan_17, ym, s2]
end LBS
/-! the copy -/
def cpR (s d : Nat → Int32) (k : Nat) : Nat → Int32 := fun j => if j < k then s j else d j
section CPY
variable {D : vDD} {M : vMM} {f : Nat → Int32} {z : vZZ} {Q : Value → vDD → vMM → vZZ → Prop} {nF nT a b k : Nat}
theorem cpR_0 {s d : Nat → Int32} : cpR s d 0 = d := by
  funext j
  unfold cpR
  rw [if_neg (by omega)]
theorem cpR_s {s d : Nat → Int32} : upd (cpR s d k) k (s k) = cpR s d (k + 1) := by
  funext j
  show (if j = k then s k else (if j < k then s j else d j)) = if j < k + 1 then s j else d j
  by_cases e : j = k
  · rw [if_pos e, if_pos (by omega), e]
  · rw [if_neg e]
    by_cases h : j < k
    · rw [if_pos h, if_pos (by omega)]
    · rw [if_neg h, if_neg (by omega)]
theorem l_Cp1 {x y : Nat} (hxy : x ≠ y) (hx : (D x).1 = 8 ∧ (D x).2.1 = 10) (hy : (D y).1 = 8 ∧ (D y).2.1 = 10) {v1 v2 v4 v5 : Value} {N : Nat} (hN : N = 10) : ∀ d k, k + d = N → Runs ML_copy 3 [.ref x, v1, v2, .ref y, v4, v5, .int (nI k)] [] D (setR M y (cpR (M x) (M y) k)) z Q = Runs ML_copy 24 [.ref x, v1, v2, .ref y, v4, v5, .int (nI N)] [] D (setR M y (cpR (M x) (M y) N)) z Q := by
  intro d
  induction d with
  | zero =>
    intro k hk
    obtain rfl : k = N := by omega
    have hge : 10 ≤ k := by omega
    rw [sL_copy_3]
    simp (disch := omega) only [sL_copy_5, sL_copy_7, sL_copy_10, sL_copy_11, sL_copy_13, sL_copy_14, sL_copy_16, sL_copy_17, sL_copy_18, sL_copy_21, true_and, and_true, true_or, or_true, eq_self, ↓reduceIte, if_true, if_false, nI_add, nI_mul, inB_nI, nI_clamp, Nat.add_zero, eqI, ltI, leI, m6_ne, ne_m6, Nat.reduceEqDiff, reduceCtorEq, Nat.reduceLT, Nat.reduceLeDiff, Nat.reduceAdd, Nat.reduceMul, Nat.zero_add, Nat.mul_zero, nar_0, nar_1, nar_b, bI_t, bI_f, bI_0, bI_1, Bool.true_eq_false, Bool.false_eq_true, Bool.and_self, Bool.and_false, Bool.false_and, Bool.true_and, Bool.and_true, and_self, hge]
  | succ d ih =>
    intro k hk
    have ih := ih (k + 1) (by omega)
    have hlt : ¬ 10 ≤ k := by omega
    have ex : ∀ r, setR M y r x = M x := fun r => setR_ne hxy
    rw [sL_copy_3]
    simp (disch := omega) only [sL_copy_5, sL_copy_7, sL_copy_10, sL_copy_11, sL_copy_13, sL_copy_14, sL_copy_16, sL_copy_17, sL_copy_18, sL_copy_21, hx, hy, true_and, and_true, true_or, or_true, eq_self, ↓reduceIte, if_true, if_false, nI_add, nI_mul, inB_nI, nI_clamp, Nat.add_zero, eqI, ltI, leI, m6_ne, ne_m6, Nat.reduceEqDiff, reduceCtorEq, Nat.reduceLT, Nat.reduceLeDiff, Nat.reduceAdd, Nat.reduceMul, Nat.zero_add, Nat.mul_zero, nar_0, nar_1, nar_b, bI_t, bI_f, bI_0, bI_1, Bool.true_eq_false, Bool.false_eq_true, Bool.and_self, Bool.and_false, Bool.false_and, Bool.true_and, Bool.and_true, and_self, hlt, ex, up2_setR, cpR_s, ih]
theorem l_Cp2 {x y : Nat} (hxy : x ≠ y) (hx : (D x).1 = 8 ∧ (D x).2.1 = 30) (hy : (D y).1 = 8 ∧ (D y).2.1 = 30) {v1 v2 v4 v5 : Value} {N : Nat} (hN : N = 30) : ∀ d k, k + d = N → Runs ML_copy 27 [v1, .ref x, v2, v4, .ref y, v5, .int (nI k)] [] D (setR M y (cpR (M x) (M y) k)) z Q = Runs ML_copy 49 [v1, .ref x, v2, v4, .ref y, v5, .int (nI N)] [] D (setR M y (cpR (M x) (M y) N)) z Q := by
  intro d
  induction d with
  | zero =>
    intro k hk
    obtain rfl : k = N := by omega
    have hge : 30 ≤ k := by omega
    rw [sL_copy_27]
    simp (disch := omega) only [sL_copy_29, sL_copy_31, sL_copy_34, sL_copy_36, sL_copy_38, sL_copy_39, sL_copy_41, sL_copy_42, sL_copy_43, sL_copy_46, true_and, and_true, true_or, or_true, eq_self, ↓reduceIte, if_true, if_false, nI_add, nI_mul, inB_nI, nI_clamp, Nat.add_zero, eqI, ltI, leI, m6_ne, ne_m6, Nat.reduceEqDiff, reduceCtorEq, Nat.reduceLT, Nat.reduceLeDiff, Nat.reduceAdd, Nat.reduceMul, Nat.zero_add, Nat.mul_zero, nar_0, nar_1, nar_b, bI_t, bI_f, bI_0, bI_1, Bool.true_eq_false, Bool.false_eq_true, Bool.and_self, Bool.and_false, Bool.false_and, Bool.true_and, Bool.and_true, and_self, hge]
  | succ d ih =>
    intro k hk
    have ih := ih (k + 1) (by omega)
    have hlt : ¬ 30 ≤ k := by omega
    have ex : ∀ r, setR M y r x = M x := fun r => setR_ne hxy
    rw [sL_copy_27]
    simp (disch := omega) only [sL_copy_29, sL_copy_31, sL_copy_34, sL_copy_36, sL_copy_38, sL_copy_39, sL_copy_41, sL_copy_42, sL_copy_43, sL_copy_46, hx, hy, true_and, and_true, true_or, or_true, eq_self, ↓reduceIte, if_true, if_false, nI_add, nI_mul, inB_nI, nI_clamp, Nat.add_zero, eqI, ltI, leI, m6_ne, ne_m6, Nat.reduceEqDiff, reduceCtorEq, Nat.reduceLT, Nat.reduceLeDiff, Nat.reduceAdd, Nat.reduceMul, Nat.zero_add, Nat.mul_zero, nar_0, nar_1, nar_b, bI_t, bI_f, bI_0, bI_1, Bool.true_eq_false, Bool.false_eq_true, Bool.and_self, Bool.and_false, Bool.false_and, Bool.true_and, Bool.and_true, and_self, hlt, ex, up2_setR, cpR_s, ih]
theorem l_Cp3 {x y : Nat} (hxy : x ≠ y) (hx : (D x).1 = 8 ∧ (D x).2.1 = 63) (hy : (D y).1 = 8 ∧ (D y).2.1 = 63) {v1 v2 v4 v5 : Value} {N : Nat} (hN : N = 63) : ∀ d k, k + d = N → Runs ML_copy 52 [v1, v2, .ref x, v4, v5, .ref y, .int (nI k)] [] D (setR M y (cpR (M x) (M y) k)) z Q = Q vJ D (setR M y (cpR (M x) (M y) N)) z := by
  intro d
  induction d with
  | zero =>
    intro k hk
    obtain rfl : k = N := by omega
    have hge : 63 ≤ k := by omega
    rw [sL_copy_52]
    simp (disch := omega) only [sL_copy_54, sL_copy_56, sL_copy_59, sL_copy_61, sL_copy_63, sL_copy_64, sL_copy_66, sL_copy_67, sL_copy_68, sL_copy_71, sL_copy_74, true_and, and_true, true_or, or_true, eq_self, ↓reduceIte, if_true, if_false, nI_add, nI_mul, inB_nI, nI_clamp, Nat.add_zero, eqI, ltI, leI, m6_ne, ne_m6, Nat.reduceEqDiff, reduceCtorEq, Nat.reduceLT, Nat.reduceLeDiff, Nat.reduceAdd, Nat.reduceMul, Nat.zero_add, Nat.mul_zero, nar_0, nar_1, nar_b, bI_t, bI_f, bI_0, bI_1, Bool.true_eq_false, Bool.false_eq_true, Bool.and_self, Bool.and_false, Bool.false_and, Bool.true_and, Bool.and_true, and_self, hge]
  | succ d ih =>
    intro k hk
    have ih := ih (k + 1) (by omega)
    have hlt : ¬ 63 ≤ k := by omega
    have ex : ∀ r, setR M y r x = M x := fun r => setR_ne hxy
    rw [sL_copy_52]
    simp (disch := omega) only [sL_copy_54, sL_copy_56, sL_copy_59, sL_copy_61, sL_copy_63, sL_copy_64, sL_copy_66, sL_copy_67, sL_copy_68, sL_copy_71, sL_copy_74, hx, hy, true_and, and_true, true_or, or_true, eq_self, ↓reduceIte, if_true, if_false, nI_add, nI_mul, inB_nI, nI_clamp, Nat.add_zero, eqI, ltI, leI, m6_ne, ne_m6, Nat.reduceEqDiff, reduceCtorEq, Nat.reduceLT, Nat.reduceLeDiff, Nat.reduceAdd, Nat.reduceMul, Nat.zero_add, Nat.mul_zero, nar_0, nar_1, nar_b, bI_t, bI_f, bI_0, bI_1, Bool.true_eq_false, Bool.false_eq_true, Bool.and_self, Bool.and_false, Bool.false_and, Bool.true_and, Bool.and_true, and_self, hlt, ex, up2_setR, cpR_s, ih]
theorem z_copy (hL : LB M a f) (hab : a + 3 ≤ b ∨ b + 3 ≤ a) (hD : IsL D a) (hE : IsL D b) (h7 : nT ≤ 7) (hP : Pk M (a + 2) f nT) : ∃ M', LB M' b f ∧ Pk M' (b + 2) f nT ∧ (∀ x, x < b ∨ b + 3 ≤ x → M' x = M x) ∧ ∀ Q, Runs ML_copy 0 [.ref a, .ref (a + 1), .ref (a + 2), .ref b, .ref (b + 1), .ref (b + 2), vJ] [] D M z Q = Q vJ D M' z := by
  generalize h1 : setR M b (cpR (M a) (M b) 10) = M1
  generalize h2 : setR M1 (b + 1) (cpR (M1 (a + 1)) (M1 (b + 1)) 30) = M2
  generalize h3 : setR M2 (b + 2) (cpR (M2 (a + 2)) (M2 (b + 2)) 63) = M3
  have o1 : ∀ x, x ≠ b → M1 x = M x := fun x hx => by rw [← h1, setR_ne hx]
  have o2 : ∀ x, x ≠ b → x ≠ b + 1 → M2 x = M x := fun x hx hx2 => by rw [← h2, setR_ne hx2, o1 x hx]
  have o3 : ∀ x, x ≠ b → x ≠ b + 1 → x ≠ b + 2 → M3 x = M x := fun x hx hx2 hx3 => by rw [← h3, setR_ne hx3, o2 x hx hx2]
  have r0 : ∀ j, j < 10 → M3 b j = M a j := fun j hj => by
    rw [← h3, setR_ne (by omega), ← h2, setR_ne (by omega), ← h1, setR_eq]
    exact if_pos hj
  have r1 : ∀ j, j < 30 → M3 (b + 1) j = M (a + 1) j := fun j hj => by
    rw [← h3, setR_ne (by omega), ← h2, setR_eq, ← o1 (a + 1) (by omega)]
    exact if_pos hj
  have r2 : ∀ j, j < 63 → M3 (b + 2) j = M (a + 2) j := fun j hj => by
    rw [← h3, setR_eq, ← o2 (a + 2) (by omega) (by omega)]
    exact if_pos hj
  have hM : ∀ x k, ixL a x k < 346 → M x k = f (ixL a x k) := fun x k hx => by
    rw [← show lM M a f = M from hL]
    exact lM_rd rfl hx
  refine ⟨M3, ?_, ?_, fun x hx => o3 x (by omega) (by omega) (by omega), fun Q => ?_⟩
  · funext x
    funext k
    unfold lM
    by_cases hx : ixL b x k < 346
    · rw [if_pos hx]
      unfold ixL at hx ⊢
      by_cases e0 : x = b
      · rw [if_pos e0] at hx ⊢
        by_cases hk : k < 10
        · rw [if_pos hk, e0, r0 k hk, hM a k (by rw [ixL_q hk]; omega), ixL_q hk]
        · rw [if_neg hk] at hx; omega
      · rw [if_neg e0] at hx ⊢
        by_cases e1 : x = b + 1
        · rw [if_pos e1] at hx ⊢
          by_cases hk : k < 30
          · have ek : ixL a (a + 1) k = 10 + k := by unfold ixL; rw [if_neg (by omega), if_pos rfl, if_pos hk]
            rw [if_pos hk, e1, r1 k hk, hM (a + 1) k (by rw [ek]; omega), ek]
          · rw [if_neg hk] at hx; omega
        · rw [if_neg e1] at hx ⊢
          by_cases e2 : x = b + 2
          · rw [if_pos e2] at hx ⊢
            by_cases hk : k < 63 ∧ k % 9 < 6
            · have ek : ixL a (a + 2) k = 58 + 18 * (k / 9) + k % 9 := by unfold ixL; rw [if_neg (by omega), if_neg (by omega), if_pos rfl, if_pos hk]
              rw [if_pos hk] at hx ⊢
              rw [e2, r2 k hk.1, hM (a + 2) k (by rw [ek]; omega), ek]
            · rw [if_neg hk] at hx; omega
          · rw [if_neg e2] at hx; omega
    · rw [if_neg hx]
  · intro t ht
    obtain ⟨n, p1, p2, p3⟩ := hP t ht
    refine ⟨n, p1, p2, fun s hs => ?_⟩
    obtain ⟨sk, wk, pt, q1, q2, q3⟩ := p3 s hs
    exact ⟨sk, wk, pt, q1, by rw [r2 _ (by omega)]; exact q2, q3⟩
  · simp only [IsL] at hD hE
    have l1 := l_Cp1 (D := D) (M := M) (z := z) (Q := Q) (x := a) (y := b) (by omega) hD.1 hE.1 (v1 := .ref (a + 1)) (v2 := .ref (a + 2)) (v4 := .ref (b + 1)) (v5 := .ref (b + 2)) (N := 10) rfl 10 0 (by decide)
    have l2 := l_Cp2 (D := D) (M := M1) (z := z) (Q := Q) (x := a + 1) (y := b + 1) (by omega) hD.2.1 hE.2.1 (v1 := .ref a) (v2 := .ref (a + 2)) (v4 := .ref b) (v5 := .ref (b + 2)) (N := 30) rfl 30 0 (by decide)
    have l3 := l_Cp3 (D := D) (M := M2) (z := z) (Q := Q) (x := a + 2) (y := b + 2) (by omega) hD.2.2 hE.2.2 (v1 := .ref a) (v2 := .ref (a + 1)) (v4 := .ref b) (v5 := .ref (b + 1)) (N := 63) rfl 63 0 (by decide)
    rw [cpR_0, setR_self] at l1 l2 l3
    rw [h1] at l1
    rw [h2] at l2
    rw [h3] at l3
    simp (disch := omega) only [sL_copy_0, sL_copy_1, l1, sL_copy_24, sL_copy_25, l2, sL_copy_49, sL_copy_50, l3]
end CPY
