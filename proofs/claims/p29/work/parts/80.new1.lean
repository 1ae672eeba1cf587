/-! what is made: things, mornings -/
section NEW
variable {D : vDD} {m : vMM} {z : vZZ} {a b n q x : Nat}
theorem nwD_e {d : Nat × Nat × (Nat → Option Nat)} : nwD D a d a = d := if_pos rfl
theorem nwD_o {d : Nat × Nat × (Nat → Option Nat)} (h : q ≠ a) : nwD D a d q = D q := if_neg h
theorem nwM_e : nwM m a a = fun _ => 0 := if_pos rfl
theorem nwM_o (h : q ≠ a) : nwM m a q = m q := if_neg h
theorem x_newFixer {Q : Value → vDD → vMM → vZZ → Prop} : Runs MX0_init 0 [.ref a] [] D m z Q = Q vJ D m z := by
  simp only [sX0_init_0, sX0_init_1, sX0_init_4]
theorem x_newThing (h5 : (D a).1 = 5) : ∃ D' m', IsT D' a ∧ (∀ q, q < a ∨ a + 4 ≤ q → D' q = D q ∧ m' q = m q) ∧ ∀ Q, Runs MX5_init 0 [.ref a] [] D m (a + 1, n) Q = Q vJ D' m' (a + 4, n + 12) := by
  refine ⟨upR (nwD (upR (nwD (upR (nwD D (a + 1) (8, 4, fun _ => none)) a 0 (some (a + 1))) (a + 2) (8, 4, fun _ => none)) a 1 (some (a + 2))) (a + 3) (8, 4, fun _ => none)) a 2 (some (a + 3)), nwM (nwM (nwM m (a + 1)) (a + 2)) (a + 3), ?_, fun q hq => ⟨?_, ?_⟩, fun Q => ?_⟩
  · unfold IsT
    simp (disch := omega) only [upR_1, upR_2, upR_e, upR_k, upR_q, nwD_o, nwD_e, h5, and_self]
  · simp (disch := omega) only [upR_q, nwD_o]
  · simp (disch := omega) only [nwM_o]
  · simp (disch := omega) only [sX5_init_0, sX5_init_1, sX5_init_4, sX5_init_5, sX5_init_6, sX5_init_8, sX5_init_11, sX5_init_12, sX5_init_13, sX5_init_15, sX5_init_18, sX5_init_19, sX5_init_20, sX5_init_22, sX5_init_25, upR_1, nwD_o, h5, true_and, Nat.add_assoc, Nat.reduceAdd]
/-- a morning that is being made: its lists up to i fixers, t things -/
def MoP (D : vDD) (b i t : Nat) : Prop := ((D b).1 = 2 ∧ (D b).2.2 0 = some (b + 1) ∧ (D b).2.2 1 = some (b + 2) ∧ (D b).2.2 2 = some (b + 3)) ∧ ((D (b + 1)).1 = 10 ∧ (D (b + 1)).2.1 = 8 ∧ (D (b + 2)).1 = 12 ∧ (D (b + 2)).2.1 = 16 ∧ (D (b + 3)).1 = 8 ∧ (D (b + 3)).2.1 = 4) ∧
  (∀ j, j < i → (D (b + 1)).2.2 j = some (b + 4 + j) ∧ (D (b + 4 + j)).1 = 0) ∧ ∀ j, j < t → (D (b + 2)).2.2 j = some (b + 12 + 4 * j) ∧ IsT D (b + 12 + 4 * j)
theorem MoP.is (h : MoP D b 8 16) : IsM D b := by
  obtain ⟨h1, h2, h3, h4⟩ := h
  refine ⟨h1, h2, fun i hi => (h3 i hi).1, fun i hi => (h3 i hi).2, fun t ht => (h4 t ht).1, fun t ht => (h4 t ht).2.1.1, fun t ht => (h4 t ht).2.1.2.1, fun t ht => (h4 t ht).2.1.2.2.1, fun t ht => (h4 t ht).2.1.2.2.2, fun t ht => (h4 t ht).2.2.1.1, fun t ht => (h4 t ht).2.2.1.2.1, fun t ht => (h4 t ht).2.2.1.2.2, fun t ht => (h4 t ht).2.2.2.1, fun t ht => (h4 t ht).2.2.2.2.1, fun t ht => (h4 t ht).2.2.2.2.2⟩
theorem elK10 : elK 10 = 0 := rfl
theorem elK12 : elK 12 = 5 := rfl
theorem l_new1 : ∀ k i (D : vDD) (m : vMM) (n : Nat), i + k = 8 → MoP D b i 0 → ∃ D' m', MoP D' b 8 0 ∧ (∀ q, q < b + 1 ∨ b + 12 ≤ q → D' q = D q) ∧ (∀ q, q < b + 4 ∨ b + 12 ≤ q → m' q = m q) ∧
    ∀ Q, Runs MX2_init 42 [.ref b, .int (nI i)] [] D m (b + 4 + i, n) Q = Runs MX2_init 67 [.ref b, .int (nI 8)] [] D' m' (b + 12, n + 6 * k) Q := by
  intro k
  induction k with
  | zero =>
    intro i D m n hi h
    obtain rfl : i = 8 := by omega
    refine ⟨D, m, h, fun _ _ => rfl, fun _ _ => rfl, fun Q => ?_⟩
    rw [sX2_init_42]
    simp (disch := omega) only [sX2_init_43, sX2_init_45, sX2_init_48, sX2_init_49, sX2_init_52, sX2_init_53, sX2_init_56, sX2_init_57, sX2_init_60, sX2_init_61, sX2_init_64, true_and, and_true, true_or, or_true, eq_self, ↓reduceIte, if_true, if_false, nI_add, nI_mul, inB_nI, nI_clamp, Nat.add_zero, eqI, ltI, leI, m6_ne, ne_m6, Nat.reduceEqDiff, reduceCtorEq, Nat.reduceLT, Nat.reduceLeDiff, Nat.reduceAdd, Nat.reduceMul, Nat.zero_add, Nat.mul_zero, nar_0, nar_1, nar_b, bI_t, bI_f, bI_0, bI_1, Bool.true_eq_false, Bool.false_eq_true, Bool.and_self, Bool.and_false, Bool.false_and, Bool.true_and, Bool.and_true, and_self, Nat.le_refl]
  | succ k ih =>
    intro i D m n hi h
    have hlt : ¬ 8 ≤ i := by omega
    obtain ⟨⟨a1, a2, a3, a4⟩, ⟨a5, a6, a7, a8, a9, a10⟩, a11, -⟩ := h
    have h2 : MoP (upR (nwD D (b + 4 + i) (0, 0, fun _ => none)) (b + 1) i (some (b + 4 + i))) b (i + 1) 0 := by
      refine ⟨?_, ?_, fun j hj => ?_, fun j hj => absurd hj (Nat.not_lt_zero j)⟩
      · simp (disch := omega) only [upR_1, upR_2, upR_e, upR_k, upR_q, nwD_o, nwD_e, a1, a2, a3, a4, and_self]
      · simp (disch := omega) only [upR_1, upR_2, upR_e, upR_k, upR_q, nwD_o, nwD_e, a5, a6, a7, a8, a9, a10, and_self]
      · by_cases e : j = i
        · subst e
          simp (disch := omega) only [upR_e, upR_q, nwD_o, nwD_e, and_self]
        · obtain ⟨c1, c2⟩ := a11 j (by omega)
          simp (disch := omega) only [upR_k, upR_q, nwD_o, c1, c2, and_self]
    obtain ⟨D', m', r1, r2, r3, y⟩ := ih (i + 1) _ (nwM m (b + 4 + i)) (n + 6) (by omega) h2
    have y' : ∀ Q, Runs MX2_init 42 [.ref b, .int (nI (i + 1))] [] (upR (nwD D (b + 4 + i) (0, 0, fun _ => none)) (b + 1) i (some (b + 4 + i))) (nwM m (b + 4 + i)) (b + 4 + i + 1, n + 6) Q = Runs MX2_init 67 [.ref b, .int (nI 8)] [] D' m' (b + 12, n + 6 * (k + 1)) Q := fun Q => by
      have e : n + 6 * (k + 1) = n + 6 + 6 * k := by omega
      rw [e]
      exact y Q
    refine ⟨D', m', r1, fun q hq => ?_, fun q hq => ?_, fun Q => ?_⟩
    · rw [r2 q hq, upR_q (by omega), nwD_o (by omega)]
    · rw [r3 q hq, nwM_o (by omega)]
    · rw [sX2_init_42]
      simp (disch := omega) only [sX2_init_43, sX2_init_45, sX2_init_48, sX2_init_49, sX2_init_52, sX2_init_53, sX2_init_56, sX2_init_57, sX2_init_60, sX2_init_61, sX2_init_64, true_and, and_true, true_or, or_true, eq_self, ↓reduceIte, if_true, if_false, nI_add, nI_mul, inB_nI, nI_clamp, Nat.add_zero, eqI, ltI, leI, m6_ne, ne_m6, Nat.reduceEqDiff, reduceCtorEq, Nat.reduceLT, Nat.reduceLeDiff, Nat.reduceAdd, Nat.reduceMul, Nat.zero_add, Nat.mul_zero, nar_0, nar_1, nar_b, bI_t, bI_f, bI_0, bI_1, Bool.true_eq_false, Bool.false_eq_true, Bool.and_self, Bool.and_false, Bool.false_and, Bool.true_and, Bool.and_true, and_self, hlt, a1, a2, a5, a6, upR_1, upR_2, upR_q, upR_k, nwD_o, nwD_e, x_newFixer, elK10, y', Nat.le_refl, Nat.reduceLeDiff]
theorem l_new2 : ∀ k t (D : vDD) (m : vMM) (n : Nat), t + k = 16 → MoP D b 8 t → ∃ D' m', MoP D' b 8 16 ∧ (∀ q, q < b + 1 ∨ b + 76 ≤ q → D' q = D q) ∧ (∀ q, q < b + 4 ∨ b + 76 ≤ q → m' q = m q) ∧
    ∀ Q, Runs MX2_init 69 [.ref b, .int (nI t)] [] D m (b + 12 + 4 * t, n) Q = Runs MX2_init 94 [.ref b, .int (nI 16)] [] D' m' (b + 76, n + 21 * k) Q := by
  intro k
  induction k with
  | zero =>
    intro t D m n hi h
    obtain rfl : t = 16 := by omega
    refine ⟨D, m, h, fun _ _ => rfl, fun _ _ => rfl, fun Q => ?_⟩
    rw [sX2_init_69]
    simp (disch := omega) only [sX2_init_70, sX2_init_72, sX2_init_75, sX2_init_76, sX2_init_79, sX2_init_80, sX2_init_83, sX2_init_84, sX2_init_87, sX2_init_88, sX2_init_91, true_and, and_true, true_or, or_true, eq_self, ↓reduceIte, if_true, if_false, nI_add, nI_mul, inB_nI, nI_clamp, Nat.add_zero, eqI, ltI, leI, m6_ne, ne_m6, Nat.reduceEqDiff, reduceCtorEq, Nat.reduceLT, Nat.reduceLeDiff, Nat.reduceAdd, Nat.reduceMul, Nat.zero_add, Nat.mul_zero, nar_0, nar_1, nar_b, bI_t, bI_f, bI_0, bI_1, Bool.true_eq_false, Bool.false_eq_true, Bool.and_self, Bool.and_false, Bool.false_and, Bool.true_and, Bool.and_true, and_self, Nat.le_refl]
  | succ k ih =>
    intro t D m n hi h
    have hlt : ¬ 16 ≤ t := by omega
    obtain ⟨⟨a1, a2, a3, a4⟩, ⟨a5, a6, a7, a8, a9, a10⟩, a11, a12⟩ := h
    obtain ⟨D1, m1, T1, T2, T3⟩ := x_newThing (D := nwD D (b + 12 + 4 * t) (5, 0, fun _ => none)) (m := nwM m (b + 12 + 4 * t)) (a := b + 12 + 4 * t) (n := n + 9) (by rw [nwD_e])
    have f1 : ∀ q, q < b + 12 + 4 * t ∨ b + 12 + 4 * t + 4 ≤ q → D1 q = D q := fun q hq => by rw [(T2 q hq).1, nwD_o (by omega)]
    have g0 := f1 b (by omega)
    have g1 := f1 (b + 1) (by omega)
    have g2 := f1 (b + 2) (by omega)
    have g3 := f1 (b + 3) (by omega)
    have h2 : MoP (upR D1 (b + 2) t (some (b + 12 + 4 * t))) b 8 (t + 1) := by
      refine ⟨?_, ?_, fun j hj => ?_, fun j hj => ?_⟩
      · simp (disch := omega) only [upR_1, upR_2, upR_e, upR_k, upR_q, g0, a1, a2, a3, a4, and_self]
      · simp (disch := omega) only [upR_1, upR_2, upR_e, upR_k, upR_q, g1, g2, g3, a5, a6, a7, a8, a9, a10, and_self]
      · obtain ⟨c1, c2⟩ := a11 j hj
        rw [upR_q (by omega), upR_q (by omega), g1, f1 (b + 4 + j) (by omega)]
        exact ⟨c1, c2⟩
      · by_cases e : j = t
        · subst e
          exact ⟨upR_e, T1.cong (fun q h1 h2 => upR_q (by omega))⟩
        · obtain ⟨c1, c2⟩ := a12 j (by omega)
          rw [upR_k e, g2]
          exact ⟨c1, c2.cong (fun q h1 h2 => by rw [upR_q (by omega), f1 q (by omega)])⟩
    obtain ⟨D', m', r1, r2, r3, y⟩ := ih (t + 1) _ m1 (n + 9 + 12) (by omega) h2
    have y' : ∀ Q, Runs MX2_init 69 [.ref b, .int (nI (t + 1))] [] (upR D1 (b + 2) t (some (b + 12 + 4 * t))) m1 (b + 12 + 4 * t + 4, n + 9 + 12) Q = Runs MX2_init 94 [.ref b, .int (nI 16)] [] D' m' (b + 76, n + 21 * (k + 1)) Q := fun Q => by
      have e : n + 21 * (k + 1) = n + 9 + 12 + 21 * k := by omega
      have e2 : b + 12 + 4 * t + 4 = b + 12 + 4 * (t + 1) := by omega
      rw [e, e2]
      exact y Q
    have k5 := T1.1.1
    refine ⟨D', m', r1, fun q hq => ?_, fun q hq => ?_, fun Q => ?_⟩
    · rw [r2 q hq, upR_q (by omega), f1 q (by omega)]
    · rw [r3 q hq, (T2 q (by omega)).2, nwM_o (by omega)]
    · generalize hw : b + 12 + 4 * t = w at *
      rw [sX2_init_69]
      simp (disch := omega) only [sX2_init_70, sX2_init_72, sX2_init_75, sX2_init_76, sX2_init_79, sX2_init_80, sX2_init_83, sX2_init_84, sX2_init_87, sX2_init_88, sX2_init_91, true_and, and_true, true_or, or_true, eq_self, ↓reduceIte, if_true, if_false, nI_add, nI_mul, inB_nI, nI_clamp, Nat.add_zero, eqI, ltI, leI, m6_ne, ne_m6, Nat.reduceEqDiff, reduceCtorEq, Nat.reduceLT, Nat.reduceLeDiff, Nat.reduceAdd, Nat.reduceMul, Nat.zero_add, Nat.mul_zero, nar_0, nar_1, nar_b, bI_t, bI_f, bI_0, bI_1, Bool.true_eq_false, Bool.false_eq_true, Bool.and_self, Bool.and_false, Bool.false_and, Bool.true_and, Bool.and_true, and_self, hlt, a1, a3, a7, a8, nwD_o, nwD_e, T3, g2, k5, elK12, y', Nat.le_refl, Nat.reduceLeDiff]
theorem l_new3 (h1 : (D b).1 = 2 ∧ (D b).2.2 2 = some (b + 3)) (h2 : (D (b + 3)).1 = 8 ∧ (D (b + 3)).2.1 = 4) : ∀ k i (m : vMM), i + k = 4 → (∀ j, j < i → m (b + 3) j = nI 2) → ∃ m', (∀ j, j < 4 → m' (b + 3) j = nI 2) ∧ (∀ q, q ≠ b + 3 → m' q = m q) ∧ ∀ Q, Runs MX2_init 96 [.ref b, .int (nI i)] [] D m z Q = Q vJ D m' z := by
  intro k
  induction k with
  | zero =>
    intro i m hi h
    obtain rfl : i = 4 := by omega
    refine ⟨m, h, fun _ _ => rfl, fun Q => ?_⟩
    rw [sX2_init_96]
    simp (disch := omega) only [sX2_init_97, sX2_init_98, sX2_init_101, sX2_init_102, sX2_init_105, sX2_init_106, sX2_init_107, sX2_init_108, sX2_init_111, sX2_init_114, true_and, and_true, true_or, or_true, eq_self, ↓reduceIte, if_true, if_false, nI_add, nI_mul, inB_nI, nI_clamp, Nat.add_zero, eqI, ltI, leI, m6_ne, ne_m6, Nat.reduceEqDiff, reduceCtorEq, Nat.reduceLT, Nat.reduceLeDiff, Nat.reduceAdd, Nat.reduceMul, Nat.zero_add, Nat.mul_zero, nar_0, nar_1, nar_b, bI_t, bI_f, bI_0, bI_1, Bool.true_eq_false, Bool.false_eq_true, Bool.and_self, Bool.and_false, Bool.false_and, Bool.true_and, Bool.and_true, and_self, Nat.le_refl]
  | succ k ih =>
    intro i m hi h
    have hlt : ¬ 4 ≤ i := by omega
    obtain ⟨m', r1, r2, y⟩ := ih (i + 1) (up2 m (b + 3) i (nI 2)) (by omega) (fun j hj => by
      rw [up2_eq]
      by_cases e : j = i
      · subst e; rw [upd_eq]
      · rw [upd_ne _ _ e]; exact h j (by omega))
    refine ⟨m', r1, fun q hq => by rw [r2 q hq, up2_ne hq], fun Q => ?_⟩
    rw [sX2_init_96]
    simp (disch := omega) only [sX2_init_97, sX2_init_98, sX2_init_101, sX2_init_102, sX2_init_105, sX2_init_106, sX2_init_107, sX2_init_108, sX2_init_111, sX2_init_114, h1, h2, true_and, and_true, true_or, or_true, eq_self, ↓reduceIte, if_true, if_false, nI_add, nI_mul, inB_nI, nI_clamp, Nat.add_zero, eqI, ltI, leI, m6_ne, ne_m6, Nat.reduceEqDiff, reduceCtorEq, Nat.reduceLT, Nat.reduceLeDiff, Nat.reduceAdd, Nat.reduceMul, Nat.zero_add, Nat.mul_zero, nar_0, nar_1, nar_b, bI_t, bI_f, bI_0, bI_1, Bool.true_eq_false, Bool.false_eq_true, Bool.and_self, Bool.and_false, Bool.false_and, Bool.true_and, Bool.and_true, and_self, hlt, y]
def INI (m : vMM) (b : Nat) : Prop := (m b 3 = nI 0 ∧ m b 4 = nI 0 ∧ m b 5 = nI 6 ∧ m b 6 = nI 2 ∧ m b 7 = nI 0 ∧ m b 8 = nI 0) ∧ ∀ k, k < 4 → m (b + 3) k = nI 2
theorem x_newMorning (h2 : (D b).1 = 2) (hm : m b = fun _ => 0) : ∃ D' m', IsM D' b ∧ INI m' b ∧ (∀ q, q < b ∨ b + 76 ≤ q → D' q = D q ∧ m' q = m q) ∧ ∀ Q, Runs MX2_init 0 [.ref b, vJ] [] D m (b + 1, n) Q = Q vJ D' m' (b + 76, n + 412) := by
  generalize hD1 : upR (nwD (upR (nwD (upR (nwD D (b + 1) (10, 8, fun _ => none)) b 0 (some (b + 1))) (b + 2) (12, 16, fun _ => none)) b 1 (some (b + 2))) (b + 3) (8, 4, fun _ => none)) b 2 (some (b + 3)) = D1
  generalize hm1 : up2 (up2 (nwM (nwM (nwM m (b + 1)) (b + 2)) (b + 3)) b 5 (nI 6)) b 6 (nI 2) = m1
  have p1 : MoP D1 b 0 0 := by
    rw [← hD1]
    refine ⟨?_, ?_, fun j hj => absurd hj (Nat.not_lt_zero j), fun j hj => absurd hj (Nat.not_lt_zero j)⟩
    · simp (disch := omega) only [upR_1, upR_2, upR_e, upR_k, upR_q, nwD_o, nwD_e, h2, and_self]
    · simp (disch := omega) only [upR_1, upR_2, upR_e, upR_k, upR_q, nwD_o, nwD_e, and_self]
  obtain ⟨D2, m2', q1, q2, q3, y1⟩ := l_new1 8 0 D1 m1 (n + 8 + 16 + 4) (by decide) p1
  obtain ⟨D3, m3', s1, s2, s3, y2⟩ := l_new2 16 0 D2 m2' (n + 8 + 16 + 4 + 6 * 8) (by decide) q1
  obtain ⟨m4', u1, u2, y3⟩ := l_new3 (D := D3) (b := b) (z := (b + 76, n + 8 + 16 + 4 + 6 * 8 + 21 * 16)) ⟨s1.1.1, s1.1.2.2.2⟩ ⟨s1.2.1.2.2.2.2.1, s1.2.1.2.2.2.2.2⟩ 4 0 m3' (by decide) (fun j hj => absurd hj (Nat.not_lt_zero j))
  have mb : m4' b = m1 b := by rw [u2 b (by omega), s3 b (by omega), q3 b (by omega)]
  have fm1 : ∀ q, q < b ∨ b + 76 ≤ q → m1 q = m q := fun q hq => by
    rw [← hm1, up2_ne (by omega), up2_ne (by omega), nwM_o (by omega), nwM_o (by omega), nwM_o (by omega)]
  have m1b : ∀ k, m1 b k = if k = 6 then nI 2 else if k = 5 then nI 6 else 0 := fun k => by
    rw [← hm1, up2_eq]
    unfold upd
    by_cases e6 : k = 6
    · rw [if_pos e6, if_pos e6]
    · rw [if_neg e6, if_neg e6, up2_eq]
      unfold upd
      by_cases e5 : k = 5
      · rw [if_pos e5, if_pos e5]
      · rw [if_neg e5, if_neg e5, nwM_o (by omega), nwM_o (by omega), nwM_o (by omega), hm]
  refine ⟨D3, m4', s1.is, ⟨⟨?_, ?_, ?_, ?_, ?_, ?_⟩, u1⟩, fun q hq => ⟨?_, ?_⟩, fun Q => ?_⟩
  · rw [mb, m1b]; rfl
  · rw [mb, m1b]; rfl
  · rw [mb, m1b]; rfl
  · rw [mb, m1b]; rfl
  · rw [mb, m1b]; rfl
  · rw [mb, m1b]; rfl
  · rw [s2 q (by omega), q2 q (by omega), ← hD1, upR_q (by omega), nwD_o (by omega), upR_q (by omega), nwD_o (by omega), upR_q (by omega), nwD_o (by omega)]
  · rw [u2 q (by omega), s3 q (by omega), q3 q (by omega), fm1 q hq]
  · have ez : n + 412 = n + 8 + 16 + 4 + 6 * 8 + 21 * 16 := by omega
    have y1' : ∀ Q, Runs MX2_init 42 [.ref b, .int (nI 0)] [] D1 m1 (b + 4, n + 8 + 16 + 4) Q = Runs MX2_init 67 [.ref b, .int (nI 8)] [] D2 m2' (b + 12, n + 8 + 16 + 4 + 6 * 8) Q := y1
    have y2' : ∀ Q, Runs MX2_init 69 [.ref b, .int (nI 0)] [] D2 m2' (b + 12, n + 8 + 16 + 4 + 6 * 8) Q = Runs MX2_init 94 [.ref b, .int (nI 16)] [] D3 m3' (b + 76, n + 8 + 16 + 4 + 6 * 8 + 21 * 16) Q := y2
    rw [ez]
    simp only [Nat.add_assoc, Nat.reduceAdd, Nat.reduceMul] at y1' y2' y3 ⊢
    simp (disch := omega) only [sX2_init_0, sX2_init_1, sX2_init_4, sX2_init_5, sX2_init_7, sX2_init_10, sX2_init_13, sX2_init_14, sX2_init_16, sX2_init_19, sX2_init_22, sX2_init_23, sX2_init_24, sX2_init_26, sX2_init_29, sX2_init_30, sX2_init_32, sX2_init_35, sX2_init_36, sX2_init_37, sX2_init_40, sX2_init_41, upR_1, upR_q, nwD_o, nwD_e, h2, p1.1.1, true_and, Nat.add_assoc, Nat.reduceAdd, hD1, hm1, y1', sX2_init_67, sX2_init_68, y2', sX2_init_94, sX2_init_95, y3]
end NEW
