/-! what is made: history, pad, planner, the class's object, the model -/
section NEW2
variable {D : vDD} {m : vMM} {z : vZZ} {n : Nat}
def HiP (D : vDD) (i : Nat) : Prop := ((D 308).1 = 1 ∧ (D 308).2.2 0 = some 309) ∧ ((D 309).1 = 11 ∧ (D 309).2.1 = 6) ∧ ∀ j, j < i → (D 309).2.2 j = some (310 + 76 * j) ∧ IsM D (310 + 76 * j)
theorem l_newHi : ∀ k i (D : vDD) (m : vMM) (n : Nat), i + k = 6 → HiP D i → ∃ D' m', HiP D' 6 ∧ (∀ q, q < 309 ∨ 766 ≤ q → D' q = D q ∧ m' q = m q) ∧
    ∀ Q, Runs MX1_init 15 [.ref 308, .int (nI i)] [] D m (310 + 76 * i, n) Q = Q vJ D' m' (766, n + 421 * k) := by
  intro k
  induction k with
  | zero =>
    intro i D m n hi h
    obtain rfl : i = 6 := by omega
    refine ⟨D, m, h, fun _ _ => ⟨rfl, rfl⟩, fun Q => ?_⟩
    rw [sX1_init_15]
    simp (disch := omega) only [sX1_init_16, sX1_init_18, sX1_init_21, sX1_init_22, sX1_init_25, sX1_init_26, sX1_init_29, sX1_init_30, sX1_init_33, sX1_init_34, sX1_init_37, sX1_init_40, true_and, and_true, true_or, or_true, eq_self, ↓reduceIte, if_true, if_false, nI_add, nI_mul, inB_nI, nI_clamp, Nat.add_zero, eqI, ltI, leI, m6_ne, ne_m6, Nat.reduceEqDiff, reduceCtorEq, Nat.reduceLT, Nat.reduceLeDiff, Nat.reduceAdd, Nat.reduceMul, Nat.zero_add, Nat.mul_zero, nar_0, nar_1, nar_b, bI_t, bI_f, bI_0, bI_1, Bool.true_eq_false, Bool.false_eq_true, Bool.and_self, Bool.and_false, Bool.false_and, Bool.true_and, Bool.and_true, and_self, Nat.le_refl]
  | succ k ih =>
    intro i D m n hi h
    have hlt : ¬ 6 ≤ i := by omega
    obtain ⟨⟨a1, a2⟩, ⟨a3, a4⟩, a5⟩ := h
    obtain ⟨D1, m1, M1, M2, M3, y1⟩ := x_newMorning (D := nwD D (310 + 76 * i) (2, 0, fun _ => none)) (m := nwM m (310 + 76 * i)) (b := 310 + 76 * i) (n := n + 9) (by rw [nwD_e]) nwM_e
    have f1 : ∀ q, q < 310 + 76 * i ∨ 310 + 76 * i + 76 ≤ q → D1 q = D q := fun q hq => by rw [(M3 q hq).1, nwD_o (by omega)]
    have g1 := f1 308 (by omega)
    have g2 := f1 309 (by omega)
    have h2 : HiP (upR D1 309 i (some (310 + 76 * i))) (i + 1) := by
      refine ⟨?_, ?_, fun j hj => ?_⟩
      · rw [upR_q (by decide), g1]; exact ⟨a1, a2⟩
      · rw [upR_1, upR_2, g2]; exact ⟨a3, a4⟩
      · by_cases e : j = i
        · subst e
          exact ⟨upR_e, M1.cong (fun q h1 h2 => upR_q (by omega))⟩
        · obtain ⟨c1, c2⟩ := a5 j (by omega)
          rw [upR_k e, g2]
          exact ⟨c1, c2.cong (fun q h1 h2 => by rw [upR_q (by omega), f1 q (by omega)])⟩
    obtain ⟨D', m', r1, r2, y⟩ := ih (i + 1) _ m1 (n + 9 + 412) (by omega) h2
    have y' : ∀ Q, Runs MX1_init 15 [.ref 308, .int (nI (i + 1))] [] (upR D1 309 i (some (310 + 76 * i))) m1 (310 + 76 * i + 76, n + 9 + 412) Q = Q vJ D' m' (766, n + 421 * (k + 1)) := fun Q => by
      have e : n + 421 * (k + 1) = n + 9 + 412 + 421 * k := by omega
      have e2 : 310 + 76 * i + 76 = 310 + 76 * (i + 1) := by omega
      rw [e, e2]
      exact y Q
    have k2 := M1.1.1
    refine ⟨D', m', r1, fun q hq => ⟨?_, ?_⟩, fun Q => ?_⟩
    · rw [(r2 q hq).1, upR_q (by omega), f1 q (by omega)]
    · rw [(r2 q hq).2, (M3 q (by omega)).2, nwM_o (by omega)]
    · generalize hw : 310 + 76 * i = w at *
      have w1 : w ≠ 308 := by omega
      rw [sX1_init_15]
      simp (disch := omega) only [sX1_init_16, sX1_init_18, sX1_init_21, sX1_init_22, sX1_init_25, sX1_init_26, sX1_init_29, sX1_init_30, sX1_init_33, sX1_init_34, sX1_init_37, sX1_init_40, true_and, and_true, true_or, or_true, eq_self, ↓reduceIte, if_true, if_false, nI_add, nI_mul, inB_nI, nI_clamp, Nat.add_zero, eqI, ltI, leI, m6_ne, ne_m6, Nat.reduceEqDiff, reduceCtorEq, Nat.reduceLT, Nat.reduceLeDiff, Nat.reduceAdd, Nat.reduceMul, Nat.zero_add, Nat.mul_zero, nar_0, nar_1, nar_b, bI_t, bI_f, bI_0, bI_1, Bool.true_eq_false, Bool.false_eq_true, Bool.and_self, Bool.and_false, Bool.false_and, Bool.true_and, Bool.and_true, and_self, hlt, a1, a2, a3, a4, nwD_o, nwD_e, y1, g2, k2, elK11, y', Nat.le_refl, Nat.reduceLeDiff]
theorem x_newHistory (h1 : (D 308).1 = 1) : ∃ D' m', HiP D' 6 ∧ (∀ q, q < 308 ∨ 766 ≤ q → D' q = D q ∧ m' q = m q) ∧ m' 308 = m 308 ∧ ∀ Q, Runs MX1_init 0 [.ref 308, vJ] [] D m (309, n) Q = Q vJ D' m' (766, n + 2532) := by
  obtain ⟨D', m', r1, r2, y⟩ := l_newHi 6 0 (upR (nwD D 309 (11, 6, fun _ => none)) 308 0 (some 309)) (nwM m 309) (n + 6) (by decide) (by
    refine ⟨?_, ?_, fun j hj => absurd hj (Nat.not_lt_zero j)⟩
    · simp (disch := omega) only [upR_1, upR_e, nwD_o, h1, and_self]
    · simp (disch := omega) only [upR_q, nwD_e, and_self])
  refine ⟨D', m', r1, fun q hq => ⟨?_, ?_⟩, ?_, fun Q => ?_⟩
  · rw [(r2 q (by omega)).1, upR_q (by omega), nwD_o (by omega)]
  · rw [(r2 q (by omega)).2, nwM_o (by omega)]
  · rw [(r2 308 (by omega)).2, nwM_o (by omega)]
  · have y' : ∀ Q, Runs MX1_init 15 [.ref 308, .int (nI 0)] [] (upR (nwD D 309 (11, 6, fun _ => none)) 308 0 (some 309)) (nwM m 309) (310, n + 6) Q = Q vJ D' m' (766, n + 6 + 2526) := y
    have e : n + 2532 = n + 6 + 2526 := by omega
    rw [e]
    simp (disch := omega) only [sX1_init_0, sX1_init_1, sX1_init_4, sX1_init_5, sX1_init_7, sX1_init_10, sX1_init_13, sX1_init_14, nwD_o, h1, true_and, Nat.reduceAdd, y']
def PaP (D : vDD) (i : Nat) : Prop := ((D 766).1 = 3 ∧ (D 766).2.2 0 = some 767 ∧ (D 766).2.2 1 = some 768) ∧ ((D 767).1 = 8 ∧ (D 767).2.1 = 60 ∧ (D 768).1 = 12 ∧ (D 768).2.1 = 20) ∧ ∀ j, j < i → (D 768).2.2 j = some (769 + 4 * j) ∧ IsT D (769 + 4 * j)
theorem l_newPa : ∀ k i (D : vDD) (m : vMM) (n : Nat), i + k = 20 → PaP D i → ∃ D' m', PaP D' 20 ∧ (∀ q, q < 768 ∨ 849 ≤ q → D' q = D q) ∧ (∀ q, q < 769 ∨ 849 ≤ q → m' q = m q) ∧
    ∀ Q, Runs MX3_init 23 [.ref 766, .int (nI i)] [] D m (769 + 4 * i, n) Q = Runs MX3_init 48 [.ref 766, .int (nI 20)] [] D' m' (849, n + 21 * k) Q := by
  intro k
  induction k with
  | zero =>
    intro i D m n hi h
    obtain rfl : i = 20 := by omega
    refine ⟨D, m, h, fun _ _ => rfl, fun _ _ => rfl, fun Q => ?_⟩
    rw [sX3_init_23]
    simp (disch := omega) only [sX3_init_24, sX3_init_26, sX3_init_29, sX3_init_30, sX3_init_33, sX3_init_34, sX3_init_37, sX3_init_38, sX3_init_41, sX3_init_42, sX3_init_45, true_and, and_true, true_or, or_true, eq_self, ↓reduceIte, if_true, if_false, nI_add, nI_mul, inB_nI, nI_clamp, Nat.add_zero, eqI, ltI, leI, m6_ne, ne_m6, Nat.reduceEqDiff, reduceCtorEq, Nat.reduceLT, Nat.reduceLeDiff, Nat.reduceAdd, Nat.reduceMul, Nat.zero_add, Nat.mul_zero, nar_0, nar_1, nar_b, bI_t, bI_f, bI_0, bI_1, Bool.true_eq_false, Bool.false_eq_true, Bool.and_self, Bool.and_false, Bool.false_and, Bool.true_and, Bool.and_true, and_self, Nat.le_refl]
  | succ k ih =>
    intro i D m n hi h
    have hlt : ¬ 20 ≤ i := by omega
    obtain ⟨⟨a1, a2, a2'⟩, ⟨a3, a4, a5, a6⟩, a7⟩ := h
    obtain ⟨D1, m1, T1, T2, T3⟩ := x_newThing (D := nwD D (769 + 4 * i) (5, 0, fun _ => none)) (m := nwM m (769 + 4 * i)) (a := 769 + 4 * i) (n := n + 9) (by rw [nwD_e])
    have f1 : ∀ q, q < 769 + 4 * i ∨ 769 + 4 * i + 4 ≤ q → D1 q = D q := fun q hq => by rw [(T2 q hq).1, nwD_o (by omega)]
    have g1 := f1 766 (by omega)
    have g2 := f1 767 (by omega)
    have g3 := f1 768 (by omega)
    have h2 : PaP (upR D1 768 i (some (769 + 4 * i))) (i + 1) := by
      refine ⟨?_, ?_, fun j hj => ?_⟩
      · rw [upR_q (by decide), g1]; exact ⟨a1, a2, a2'⟩
      · rw [upR_q (by decide), upR_1, upR_2, g2, g3]; exact ⟨a3, a4, a5, a6⟩
      · by_cases e : j = i
        · subst e
          exact ⟨upR_e, T1.cong (fun q h1 h2 => upR_q (by omega))⟩
        · obtain ⟨c1, c2⟩ := a7 j (by omega)
          rw [upR_k e, g3]
          exact ⟨c1, c2.cong (fun q h1 h2 => by rw [upR_q (by omega), f1 q (by omega)])⟩
    obtain ⟨D', m', r1, r2, r3, y⟩ := ih (i + 1) _ m1 (n + 9 + 12) (by omega) h2
    have y' : ∀ Q, Runs MX3_init 23 [.ref 766, .int (nI (i + 1))] [] (upR D1 768 i (some (769 + 4 * i))) m1 (769 + 4 * i + 4, n + 9 + 12) Q = Runs MX3_init 48 [.ref 766, .int (nI 20)] [] D' m' (849, n + 21 * (k + 1)) Q := fun Q => by
      have e : n + 21 * (k + 1) = n + 9 + 12 + 21 * k := by omega
      have e2 : 769 + 4 * i + 4 = 769 + 4 * (i + 1) := by omega
      rw [e, e2]
      exact y Q
    have k5 := T1.1.1
    refine ⟨D', m', r1, fun q hq => ?_, fun q hq => ?_, fun Q => ?_⟩
    · rw [r2 q hq, upR_q (by omega), f1 q (by omega)]
    · rw [r3 q hq, (T2 q (by omega)).2, nwM_o (by omega)]
    · generalize hw : 769 + 4 * i = w at *
      rw [sX3_init_23]
      simp (disch := omega) only [sX3_init_24, sX3_init_26, sX3_init_29, sX3_init_30, sX3_init_33, sX3_init_34, sX3_init_37, sX3_init_38, sX3_init_41, sX3_init_42, sX3_init_45, true_and, and_true, true_or, or_true, eq_self, ↓reduceIte, if_true, if_false, nI_add, nI_mul, inB_nI, nI_clamp, Nat.add_zero, eqI, ltI, leI, m6_ne, ne_m6, Nat.reduceEqDiff, reduceCtorEq, Nat.reduceLT, Nat.reduceLeDiff, Nat.reduceAdd, Nat.reduceMul, Nat.zero_add, Nat.mul_zero, nar_0, nar_1, nar_b, bI_t, bI_f, bI_0, bI_1, Bool.true_eq_false, Bool.false_eq_true, Bool.and_self, Bool.and_false, Bool.false_and, Bool.true_and, Bool.and_true, and_self, hlt, a1, a2, a2', a5, a6, nwD_o, nwD_e, T3, g3, k5, elK12, y', Nat.le_refl, Nat.reduceLeDiff]
theorem x_newPad (h1 : (D 766).1 = 3) : ∃ D' m', IsPad D' ∧ (∀ q, q < 766 ∨ 849 ≤ q → D' q = D q ∧ m' q = m q) ∧ m' 766 = m 766 ∧ ∀ Q, Runs MX3_init 0 [.ref 766, vJ] [] D m (767, n) Q = Q vJ D' m' (849, n + 500) := by
  generalize hD1 : upR (nwD (upR (nwD D 767 (8, 60, fun _ => none)) 766 0 (some 767)) 768 (12, 20, fun _ => none)) 766 1 (some 768) = D1
  have p1 : PaP D1 0 := by
    rw [← hD1]
    refine ⟨?_, ?_, fun j hj => absurd hj (Nat.not_lt_zero j)⟩
    · simp (disch := omega) only [upR_1, upR_e, upR_k, upR_q, nwD_o, nwD_e, h1, and_self]
    · simp (disch := omega) only [upR_1, upR_2, upR_e, upR_k, upR_q, nwD_o, nwD_e, and_self]
  obtain ⟨D2, m', r1, r2, r3, y⟩ := l_newPa 20 0 D1 (nwM (nwM m 767) 768) (n + 60 + 20) (by decide) p1
  obtain ⟨a1, a2, a3⟩ := id r1
  have a30 := (a3 0 (by decide)).1
  have hpad : IsPad D2 := ⟨a1, a2, fun j hj => (a3 j hj).1, fun j hj => (a3 j hj).2⟩
  refine ⟨upR D2 766 4 (some 769), m', hpad.lat, fun q hq => ⟨?_, ?_⟩, ?_, fun Q => ?_⟩
  · rw [upR_q (by omega), r2 q (by omega), ← hD1, upR_q (by omega), nwD_o (by omega), upR_q (by omega), nwD_o (by omega)]
  · rw [r3 q (by omega), nwM_o (by omega), nwM_o (by omega)]
  · rw [r3 766 (by omega), nwM_o (by omega), nwM_o (by omega)]
  · have y' : ∀ Q, Runs MX3_init 23 [.ref 766, .int (nI 0)] [] D1 (nwM (nwM m 767) 768) (769, n + 60 + 20) Q = Runs MX3_init 48 [.ref 766, .int (nI 20)] [] D2 m' (849, n + 60 + 20 + 420) Q := y
    have e : n + 500 = n + 60 + 20 + 420 := by omega
    rw [e]
    simp (disch := omega) only [sX3_init_0, sX3_init_1, sX3_init_4, sX3_init_5, sX3_init_7, sX3_init_9, sX3_init_12, sX3_init_13, sX3_init_15, sX3_init_18, sX3_init_21, sX3_init_22, upR_1, upR_q, nwD_o, nwD_e, h1, p1.1.1, true_and, Nat.reduceAdd, hD1, y', sX3_init_48, sX3_init_49, sX3_init_50, sX3_init_53, sX3_init_54, sX3_init_55, sX3_init_58, a1, a2, a30, inB_nI, nI_clamp, and_self, Nat.reduceLeDiff, Nat.mul_zero, Nat.add_zero]
theorem x_newPlanner (h1 : (D 849).1 = 4) : ∃ D' m', IsPl D' ∧ (∀ q, q < 849 ∨ 853 ≤ q → D' q = D q ∧ m' q = m q) ∧ ∀ Q, Runs MX4_init 0 [.ref 849] [] D m (850, n) Q = Q vJ D' m' (853, n + 529) := by
  refine ⟨upR (nwD (upR (nwD (upR (nwD D 850 (8, 9, fun _ => none)) 849 0 (some 850)) 851 (8, 8, fun _ => none)) 849 1 (some 851)) 852 (8, 512, fun _ => none)) 849 2 (some 852), nwM (nwM (nwM m 850) 851) 852, ?_, fun q hq => ⟨?_, ?_⟩, fun Q => ?_⟩
  · unfold IsPl
    simp (disch := omega) only [upR_1, upR_2, upR_e, upR_k, upR_q, nwD_o, nwD_e, h1, and_self]
  · simp (disch := omega) only [upR_q, nwD_o]
  · simp (disch := omega) only [nwM_o]
  · have e : n + 529 = n + 9 + 8 + 512 := by omega
    rw [e]
    simp (disch := omega) only [sX4_init_0, sX4_init_1, sX4_init_4, sX4_init_5, sX4_init_7, sX4_init_9, sX4_init_12, sX4_init_13, sX4_init_15, sX4_init_17, sX4_init_20, sX4_init_21, sX4_init_24, sX4_init_26, sX4_init_29, upR_1, upR_q, nwD_o, nwD_e, h1, true_and, Nat.reduceAdd]
/-- the model's first row -/
def f0F : Nat → Int32 := fun k => if k = 0 then nI 6 else if k = 1 then nI 2 else if 6 ≤ k ∧ k < 10 then nI 2 else nI 0
end NEW2
