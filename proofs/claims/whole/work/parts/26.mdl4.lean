/-! the model's other plain methods -/
def setR (m : vMM) (a : Nat) (row : Nat → Int32) : vMM := fun q => if q = a then row else m q
theorem setR_eq {m : vMM} {a : Nat} {row : Nat → Int32} : setR m a row a = row := if_pos rfl
theorem setR_ne {m : vMM} {a q : Nat} {row : Nat → Int32} (h : q ≠ a) : setR m a row q = m q := if_neg h
theorem up2_R (m : vMM) (a k : Nat) (x : Int32) : up2 m a k x = setR m a (upd (m a) k x) := rfl
theorem setR_R {m : vMM} {a : Nat} {r1 r2 : Nat → Int32} : setR (setR m a r1) a r2 = setR m a r2 := by
  funext q
  unfold setR
  by_cases h : q = a
  · rw [if_pos h, if_pos h]
  · rw [if_neg h, if_neg h, if_neg h]
theorem setR_self {m : vMM} {a : Nat} : setR m a (m a) = m := by
  funext q
  unfold setR
  by_cases h : q = a
  · rw [if_pos h, h]
  · rw [if_neg h]
theorem up2_setR {m : vMM} {a k : Nat} {x : Int32} {row : Nat → Int32} : up2 (setR m a row) a k x = setR m a (upd row k x) := by rw [up2_R, setR_eq, setR_R]
theorem eM_setR {m : vMM} {f : Nat → Int32} {a : Nat} {row : Nat → Int32} (h : a ≠ 853) (h2 : a ≠ 854) : setR (eM m f) a row = eM (setR m a row) f := by
  funext q
  unfold setR
  by_cases hq : q = a
  · subst hq
    rw [if_pos rfl]
    unfold eM
    rw [if_neg h2, if_neg h]
    exact (if_pos rfl).symm
  · rw [if_neg hq]
    unfold eM
    simp only [if_neg hq, if_neg (Ne.symm h), if_neg (Ne.symm h2)]
theorem eM_upf {m : vMM} {f : Nat → Int32} {j : Nat} {x : Int32} (h : j ≠ 8) (h2 : j ≠ 9) (h3 : j ≠ 10) : up2 (eM m f) 853 j x = eM (up2 m 853 j x) f := by
  funext q
  by_cases hq : q = 853
  · subst hq
    rw [up2_eq]
    unfold eM
    rw [if_neg (by decide), if_pos rfl, if_neg (by decide), if_pos rfl, up2_eq]
    funext k
    unfold upd
    by_cases hk : k = j
    · subst hk
      rw [if_pos rfl, if_neg h, if_neg h2, if_neg h3, if_pos rfl]
    · rw [if_neg hk, if_neg hk]
  · rw [up2_ne hq]
    unfold eM
    rw [if_neg hq, if_neg hq, up2_ne hq, up2_ne (by decide)]
theorem eM_upo {m : vMM} {f : Nat → Int32} {a k : Nat} {x : Int32} (h : a ≠ 853) (h2 : a ≠ 854) : up2 (eM m f) a k x = eM (up2 m a k x) f := by
  rw [up2_R, eM_oth h2 h, eM_setR h h2]
  rfl
/-- the copy of n ints -/
def mvF (m : vMM) (a s b t n : Nat) : vMM := setR m b (fun j => if t ≤ j ∧ j < t + n then m a (s + (j - t)) else m b j)
def inR (x : Int32) (n : Nat) : Bool := decide (nI 0 ≤ x) && decide (x < nI n)
theorem inR_t {x : Int32} {n : Nat} (h : inR x n = true) (hn : n < 2 ^ 31) : ∃ k, k < n ∧ x = nI k := by
  unfold inR at h
  simp only [Bool.and_eq_true, decide_eq_true_eq] at h
  obtain ⟨j, h1, h2⟩ := nI_of (Int32.not_lt.mpr h.1)
  subst h2
  exact ⟨j, (nI_ltI h1 hn).mp h.2, rfl⟩
theorem inR_nI {k n : Nat} (h : k < n) (hn : n < 2 ^ 31) : inR (nI k) n = true := by
  unfold inR
  simp only [Bool.and_eq_true, decide_eq_true_eq]
  exact ⟨nI_pos' (by omega), nI_lt h hn⟩
theorem inR_le {x : Int32} {n : Nat} (hn : n < 2 ^ 31) : (decide (nI 0 ≤ x) && decide (x ≤ nI n - nI 1)) = inR x n := by
  have h0 : (nI 1).toInt = 1 := by decide
  have hN := nI_toInt hn
  have e : (nI n - nI 1).toInt = (n : Int) - 1 := by
    rw [Int32.toInt_sub, hN, h0]
    exact Int.bmod_eq_of_le (by omega) (by omega)
  unfold inR
  congr 1
  rw [decide_eq_decide, Int32.le_iff_toInt_le, Int32.lt_iff_toInt_lt, e, hN]
  omega
section MDL4
variable {D : vDD} {m : vMM} {f : Nat → Int32} {z : vZZ} {Q : Value → vDD → vMM → vZZ → Prop} {nF nT : Nat}
theorem c_within {v a b : Int32} : Runs MX7_within 0 [.int v, .int a, .int b] [] D m z Q = Q (.int (bI (decide (a ≤ v) && decide (v ≤ b)))) D m z := by
  by_cases h : a ≤ v
  · have h' : ¬ v < a := Int32.not_lt.mpr h
    by_cases h2 : v ≤ b
    · have h2' : ¬ b < v := Int32.not_lt.mpr h2
      simp only [sX7_within_0, sX7_within_1, sX7_within_2, sX7_within_5, sX7_within_6, sX7_within_7, sX7_within_10, sX7_within_11, sX7_within_14, sX7_within_15, h, h', h2, h2', if_true, if_false, nar_1, true_and, decide_true, Bool.and_self, bI_t]
    · have h2' : b < v := Int32.not_le.mp h2
      simp only [sX7_within_0, sX7_within_1, sX7_within_2, sX7_within_5, sX7_within_6, sX7_within_7, sX7_within_10, sX7_within_11, sX7_within_14, sX7_within_15, h, h', h2, h2', if_true, if_false, nar_0, true_and, decide_true, decide_false, Bool.and_false, bI_f]
  · have h' : v < a := Int32.not_le.mp h
    simp only [sX7_within_0, sX7_within_1, sX7_within_2, sX7_within_5, sX7_within_6, sX7_within_7, sX7_within_10, sX7_within_11, sX7_within_14, sX7_within_15, h, h', if_true, if_false, nar_0, true_and, decide_false, Bool.false_and, bI_f]
theorem c_isFixer (hM : IsMo D) {x : Int32} (h2 : gG f 2 = nI nF) (hn : nF ≤ 8) : Runs MX7_isFixer 0 [.ref 853, .int x] [] D (eM m f) z Q = Q (.int (bI (inR x nF))) D (eM m f) z := by
  have h1 := hM
  simp only [IsMo] at h1
  rw [← inR_le (by omega)]
  simp (disch := omega) only [sX7_isFixer_0, sX7_isFixer_1, sX7_isFixer_2, sX7_isFixer_3, sX7_isFixer_6, sX7_isFixer_7, sX7_isFixer_8, sX7_isFixer_9, sX7_isFixer_10, sX7_isFixer_13, h1, true_and, and_true, true_or, or_true, eq_self, ↓reduceIte, if_true, if_false, nI_add, nI_mul, inB_nI, nI_clamp, Nat.add_zero, eqI, ltI, leI, m6_ne, ne_m6, Nat.reduceEqDiff, reduceCtorEq, Nat.reduceLT, Nat.reduceLeDiff, Nat.reduceAdd, Nat.reduceMul, Nat.zero_add, Nat.mul_zero, nar_0, nar_1, nar_b, bI_t, bI_f, bI_0, bI_1, Bool.true_eq_false, Bool.false_eq_true, Bool.and_self, Bool.and_false, Bool.false_and, Bool.true_and, Bool.and_true, and_self, eM_gG, h2, c_within]
theorem c_isThing (hM : IsMo D) {x : Int32} (h3 : gG f 3 = nI nT) (hn : nT ≤ 16) : Runs MX7_isThing 0 [.ref 853, .int x] [] D (eM m f) z Q = Q (.int (bI (inR x nT))) D (eM m f) z := by
  have h1 := hM
  simp only [IsMo] at h1
  rw [← inR_le (by omega)]
  simp (disch := omega) only [sX7_isThing_0, sX7_isThing_1, sX7_isThing_2, sX7_isThing_3, sX7_isThing_6, sX7_isThing_7, sX7_isThing_8, sX7_isThing_9, sX7_isThing_10, sX7_isThing_13, h1, true_and, and_true, true_or, or_true, eq_self, ↓reduceIte, if_true, if_false, nI_add, nI_mul, inB_nI, nI_clamp, Nat.add_zero, eqI, ltI, leI, m6_ne, ne_m6, Nat.reduceEqDiff, reduceCtorEq, Nat.reduceLT, Nat.reduceLeDiff, Nat.reduceAdd, Nat.reduceMul, Nat.zero_add, Nat.mul_zero, nar_0, nar_1, nar_b, bI_t, bI_f, bI_0, bI_1, Bool.true_eq_false, Bool.false_eq_true, Bool.and_self, Bool.and_false, Bool.false_and, Bool.true_and, Bool.and_true, and_self, eM_gG, h3, c_within]
theorem l_moves {a s b t la lb : Nat} (ha : (D a).1 = 8) (hb : (D b).1 = 8) (hla : (D a).2.1 = la) (hlb : (D b).2.1 = lb) (hab : a ≠ b) (h1 : s + 346 ≤ la) (h2 : t + 346 ≤ lb) (h3 : la < 4096) (h4 : lb < 4096) : ∀ k i, i + k = 346 → Runs MX7_moves 3 [.ref a, .int (nI s), .ref b, .int (nI t), .int (nI i)] [] D (mvF m a s b t i) z Q = Q vJ D (mvF m a s b t 346) z := by
  intro k
  induction k with
  | zero =>
    intro i hi
    obtain rfl : i = 346 := by omega
    rw [sX7_moves_3]
    simp (disch := omega) only [sX7_moves_0, sX7_moves_1, sX7_moves_5, sX7_moves_8, sX7_moves_11, sX7_moves_12, sX7_moves_13, sX7_moves_15, sX7_moves_16, sX7_moves_17, sX7_moves_18, sX7_moves_20, sX7_moves_21, sX7_moves_22, sX7_moves_23, sX7_moves_26, sX7_moves_29, true_and, and_true, true_or, or_true, eq_self, ↓reduceIte, if_true, if_false, nI_add, nI_mul, inB_nI, nI_clamp, Nat.add_zero, eqI, ltI, leI, m6_ne, ne_m6, Nat.reduceEqDiff, reduceCtorEq, Nat.reduceLT, Nat.reduceLeDiff, Nat.reduceAdd, Nat.reduceMul, Nat.zero_add, Nat.mul_zero, nar_0, nar_1, nar_b, bI_t, bI_f, bI_0, bI_1, Bool.true_eq_false, Bool.false_eq_true, Bool.and_self, Bool.and_false, Bool.false_and, Bool.true_and, Bool.and_true, and_self]
  | succ k ih =>
    intro i hi
    have hlt : ¬ 346 ≤ i := by omega
    have ih := ih (i + 1) (by omega)
    have e : up2 (mvF m a s b t i) b (t + i) (mvF m a s b t i a (s + i)) = mvF m a s b t (i + 1) := by
      have e1 : mvF m a s b t i a = m a := setR_ne hab
      rw [e1]
      unfold mvF
      rw [up2_setR]
      congr 1
      funext j
      by_cases hj : j = t + i
      · subst hj
        rw [upd_eq, if_pos (by omega)]
        congr 1
        omega
      · rw [upd_ne _ _ hj]
        by_cases hc : t ≤ j ∧ j < t + i
        · rw [if_pos hc, if_pos (by omega)]
        · rw [if_neg hc, if_neg (by omega)]
    rw [← e] at ih
    rw [sX7_moves_3]
    simp (disch := omega) only [sX7_moves_0, sX7_moves_1, sX7_moves_5, sX7_moves_8, sX7_moves_11, sX7_moves_12, sX7_moves_13, sX7_moves_15, sX7_moves_16, sX7_moves_17, sX7_moves_18, sX7_moves_20, sX7_moves_21, sX7_moves_22, sX7_moves_23, sX7_moves_26, sX7_moves_29, true_and, and_true, true_or, or_true, eq_self, ↓reduceIte, if_true, if_false, nI_add, nI_mul, inB_nI, nI_clamp, Nat.add_zero, eqI, ltI, leI, m6_ne, ne_m6, Nat.reduceEqDiff, reduceCtorEq, Nat.reduceLT, Nat.reduceLeDiff, Nat.reduceAdd, Nat.reduceMul, Nat.zero_add, Nat.mul_zero, nar_0, nar_1, nar_b, bI_t, bI_f, bI_0, bI_1, Bool.true_eq_false, Bool.false_eq_true, Bool.and_self, Bool.and_false, Bool.false_and, Bool.true_and, Bool.and_true, and_self, ha, hb, hla, hlb, hlt, ih]
theorem c_moves {a s b t la lb : Nat} (ha : (D a).1 = 8) (hb : (D b).1 = 8) (hla : (D a).2.1 = la) (hlb : (D b).2.1 = lb) (hab : a ≠ b) (h1 : s + 346 ≤ la) (h2 : t + 346 ≤ lb) (h3 : la < 4096) (h4 : lb < 4096) : Runs MX7_moves 0 [.ref a, .int (nI s), .ref b, .int (nI t), vJ] [] D m z Q = Q vJ D (mvF m a s b t 346) z := by
  have h0 := l_moves (m := m) (z := z) (Q := Q) ha hb hla hlb hab h1 h2 h3 h4 346 0 (by omega)
  have e : mvF m a s b t 0 = m := by
    unfold mvF
    have e2 : (fun j => if t ≤ j ∧ j < t + 0 then m a (s + (j - t)) else m b j) = m b := by
      funext j
      rw [if_neg (by omega)]
    rw [e2, setR_self]
  rw [e] at h0
  simp only [sX7_moves_0, sX7_moves_1]
  exact h0
/-- the history's row behind one more state -/
def shR (h : Nat → Int32) (n : Nat) : Nat → Int32 := fun k => if k < n then h (k + 346) else h k
def histP (h : Nat → Int32) (r : Nat) (f : Nat → Int32) : Nat → Int32 := fun j => if 346 * (min r 5) ≤ j ∧ j < 346 * (min r 5) + 346 then f (j - 346 * (min r 5)) else (if r = 6 then shR h 1730 j else h j)
def recM (m : vMM) (f : Nat → Int32) (r : Nat) : vMM := setR (setR m 856 (histP (m 856) r f)) 853 (upd (m 853) 3 (nI (min r 5 + 1)))
theorem l_record (hM : IsMo D) : ∀ k i, i + k = 1730 → Runs MX7_record 11 [.ref 853, .int (nI i)] [] D (eM (setR m 856 (shR (m 856) i)) f) z Q = Runs MX7_record 40 [.ref 853, .int (nI 1730)] [] D (eM (setR m 856 (shR (m 856) 1730)) f) z Q := by
  have h1 := hM
  simp only [IsMo] at h1
  intro k
  induction k with
  | zero =>
    intro i hi
    obtain rfl : i = 1730 := by omega
    rw [sX7_record_11]
    simp (disch := omega) only [sX7_record_12, sX7_record_15, true_and, and_true, true_or, or_true, eq_self, ↓reduceIte, if_true, if_false, nI_add, nI_mul, inB_nI, nI_clamp, Nat.add_zero, eqI, ltI, leI, m6_ne, ne_m6, Nat.reduceEqDiff, reduceCtorEq, Nat.reduceLT, Nat.reduceLeDiff, Nat.reduceAdd, Nat.reduceMul, Nat.zero_add, Nat.mul_zero, nar_0, nar_1, nar_b, bI_t, bI_f, bI_0, bI_1, Bool.true_eq_false, Bool.false_eq_true, Bool.and_self, Bool.and_false, Bool.false_and, Bool.true_and, Bool.and_true, and_self]
  | succ k ih =>
    intro i hi
    have hlt : ¬ 1730 ≤ i := by omega
    have ih := ih (i + 1) (by omega)
    have e : up2 (setR m 856 (shR (m 856) i)) 856 i (shR (m 856) i (i + 346)) = setR m 856 (shR (m 856) (i + 1)) := by
      rw [up2_setR]
      congr 1
      funext j
      unfold shR
      by_cases hj : j = i
      · subst hj
        rw [upd_eq, if_neg (by omega), if_pos (by omega)]
      · rw [upd_ne _ _ hj]
        by_cases hc : j < i
        · rw [if_pos hc, if_pos (by omega)]
        · rw [if_neg hc, if_neg (by omega)]
    rw [← e] at ih
    rw [sX7_record_11]
    simp (disch := omega) only [sX7_record_12, sX7_record_15, sX7_record_18, sX7_record_19, sX7_record_22, sX7_record_23, sX7_record_24, sX7_record_27, sX7_record_28, sX7_record_31, sX7_record_32, sX7_record_33, sX7_record_34, sX7_record_37, h1, true_and, and_true, true_or, or_true, eq_self, ↓reduceIte, if_true, if_false, nI_add, nI_mul, inB_nI, nI_clamp, Nat.add_zero, eqI, ltI, leI, m6_ne, ne_m6, Nat.reduceEqDiff, reduceCtorEq, Nat.reduceLT, Nat.reduceLeDiff, Nat.reduceAdd, Nat.reduceMul, Nat.zero_add, Nat.mul_zero, nar_0, nar_1, nar_b, bI_t, bI_f, bI_0, bI_1, Bool.true_eq_false, Bool.false_eq_true, Bool.and_self, Bool.and_false, Bool.false_and, Bool.true_and, Bool.and_true, and_self, hlt, eM_oth, setR_eq, eM_upo, ih]
theorem c_record (hM : IsMo D) {r : Nat} (hr : m 853 3 = nI r) (h6 : r ≤ 6) : Runs MX7_record 0 [.ref 853, vJ] [] D (eM m f) z Q = Q vJ D (eM (recM m f r) f) z := by
  have h1 := hM
  simp only [IsMo] at h1
  have go : ∀ (m2 : vMM) (r1 : Nat), r1 ≤ 5 → mvF (eM m2 f) 854 0 856 (346 * r1) 346 = eM (setR m2 856 (fun j => if 346 * r1 ≤ j ∧ j < 346 * r1 + 346 then f (j - 346 * r1) else m2 856 j)) f := by
    intro m2 r1 _
    unfold mvF
    rw [eM_setR (by decide) (by decide)]
    congr 2
    funext j
    by_cases hc : 346 * r1 ≤ j ∧ j < 346 * r1 + 346
    · rw [if_pos hc, if_pos hc, Nat.zero_add, eM_st (by omega)]
    · rw [if_neg hc, if_neg hc, eM_oth (a := 856) (by decide) (by decide)]
  have mv : ∀ (m2 : vMM) (r1 : Nat) (Q : Value → vDD → vMM → vZZ → Prop), r1 ≤ 5 → Runs MX7_moves 0 [.ref 854, .int (nI 0), .ref 856, .int (nI (r1 * 346)), vJ] [] D (eM m2 f) z Q = Q vJ D (eM (setR m2 856 (fun j => if 346 * r1 ≤ j ∧ j < 346 * r1 + 346 then f (j - 346 * r1) else m2 856 j)) f) z := by
    intro m2 r1 Q h5
    rw [Nat.mul_comm r1 346, c_moves h1.2.2.1.1 h1.2.2.1.2.2.1 h1.2.2.2.1 h1.2.2.2.2.2.1 (by decide) (by decide) (by omega) (by decide) (by decide), go m2 r1 h5]
  have fin : ∀ (m2 : vMM) (r1 : Nat) (a1 : Value), r1 ≤ 5 → m2 853 3 = nI r1 → Runs MX7_record 50 [.ref 853, a1] [] D (eM m2 f) z Q = Q vJ D (eM (setR (setR m2 856 (fun j => if 346 * r1 ≤ j ∧ j < 346 * r1 + 346 then f (j - 346 * r1) else m2 856 j)) 853 (upd (m2 853) 3 (nI (r1 + 1)))) f) z := by
    intro m2 r1 a1 h5 hm2
    have hm3 : ∀ row, (setR m2 856 row) 853 3 = nI r1 := fun row => by rw [setR_ne (by decide)]; exact hm2
    simp (disch := omega) only [sX7_record_50, sX7_record_51, sX7_record_54, sX7_record_55, sX7_record_56, sX7_record_59, sX7_record_60, sX7_record_63, sX7_record_66, sX7_record_67, sX7_record_70, sX7_record_71, sX7_record_72, sX7_record_75, sX7_record_76, sX7_record_77, sX7_record_80, h1, true_and, and_true, true_or, or_true, eq_self, ↓reduceIte, if_true, if_false, nI_add, nI_mul, inB_nI, nI_clamp, Nat.add_zero, eqI, ltI, leI, m6_ne, ne_m6, Nat.reduceEqDiff, reduceCtorEq, Nat.reduceLT, Nat.reduceLeDiff, Nat.reduceAdd, Nat.reduceMul, Nat.zero_add, Nat.mul_zero, nar_0, nar_1, nar_b, bI_t, bI_f, bI_0, bI_1, Bool.true_eq_false, Bool.false_eq_true, Bool.and_self, Bool.and_false, Bool.false_and, Bool.true_and, Bool.and_true, and_self, eM_fld, hm2, ne_eq, not_false_eq_true, mv, hm3, eM_upf]
    rw [up2_R, setR_ne (a := 856) (q := 853) (by decide)]
  by_cases hr6 : r = 6
  · subst hr6
    have e0 : ∀ m : vMM, setR m 856 (shR (m 856) 0) = m := by
      intro m
      have : shR (m 856) 0 = m 856 := by funext k; unfold shR; rw [if_neg (by omega)]
      rw [this, setR_self]
    have hl := l_record (D := D) (m := m) (f := f) (z := z) (Q := Q) hM 1730 0 (by omega)
    rw [e0] at hl
    have hr2 : (setR m 856 (shR (m 856) 1730)) 853 3 = nI 6 := by rw [setR_ne (by decide)]; exact hr
    have hr3 : (up2 (setR m 856 (shR (m 856) 1730)) 853 3 (nI 5)) 853 3 = nI 5 := by rw [up2_eq, upd_eq]
    simp (disch := omega) only [sX7_record_0, sX7_record_1, sX7_record_4, sX7_record_6, sX7_record_9, sX7_record_10, h1, true_and, and_true, true_or, or_true, eq_self, ↓reduceIte, if_true, if_false, nI_add, nI_mul, inB_nI, nI_clamp, Nat.add_zero, eqI, ltI, leI, m6_ne, ne_m6, Nat.reduceEqDiff, reduceCtorEq, Nat.reduceLT, Nat.reduceLeDiff, Nat.reduceAdd, Nat.reduceMul, Nat.zero_add, Nat.mul_zero, nar_0, nar_1, nar_b, bI_t, bI_f, bI_0, bI_1, Bool.true_eq_false, Bool.false_eq_true, Bool.and_self, Bool.and_false, Bool.false_and, Bool.true_and, Bool.and_true, and_self, eM_fld, hr, ne_eq, not_false_eq_true, hl]
    simp (disch := omega) only [sX7_record_40, sX7_record_41, sX7_record_42, sX7_record_45, sX7_record_46, sX7_record_47, h1, true_and, and_true, true_or, or_true, eq_self, ↓reduceIte, if_true, if_false, nI_add, nI_mul, inB_nI, nI_clamp, Nat.add_zero, eqI, ltI, leI, m6_ne, ne_m6, Nat.reduceEqDiff, reduceCtorEq, Nat.reduceLT, Nat.reduceLeDiff, Nat.reduceAdd, Nat.reduceMul, Nat.zero_add, Nat.mul_zero, nar_0, nar_1, nar_b, bI_t, bI_f, bI_0, bI_1, Bool.true_eq_false, Bool.false_eq_true, Bool.and_self, Bool.and_false, Bool.false_and, Bool.true_and, Bool.and_true, and_self, eM_fld, hr2, ne_eq, not_false_eq_true, eM_upf, nI_sub, Nat.reduceSub]
    rw [fin _ 5 _ (by decide) hr3]
    congr 2
    unfold recM histP
    funext q
    by_cases q3 : q = 853
    · subst q3
      rw [setR_eq, setR_eq, up2_eq, setR_ne (by decide)]
      funext j
      unfold upd
      by_cases hj : j = 3
      · rw [if_pos hj, if_pos hj]
        rfl
      · rw [if_neg hj, if_neg hj, if_neg hj]
    · rw [setR_ne q3, setR_ne q3]
      by_cases q6 : q = 856
      · subst q6
        rw [setR_eq, setR_eq, up2_ne (by decide), setR_eq]
        funext j
        simp only [if_pos, Nat.reduceMul, Nat.min_eq_right (by decide : 5 ≤ 6)]
      · rw [setR_ne q6, setR_ne q6, up2_ne q3, setR_ne q6]
  · have e5 : min r 5 = r := by omega
    simp (disch := omega) only [sX7_record_0, sX7_record_1, sX7_record_4, sX7_record_6, sX7_record_9, sX7_record_10, h1, true_and, and_true, true_or, or_true, eq_self, ↓reduceIte, if_true, if_false, nI_add, nI_mul, inB_nI, nI_clamp, Nat.add_zero, eqI, ltI, leI, m6_ne, ne_m6, Nat.reduceEqDiff, reduceCtorEq, Nat.reduceLT, Nat.reduceLeDiff, Nat.reduceAdd, Nat.reduceMul, Nat.zero_add, Nat.mul_zero, nar_0, nar_1, nar_b, bI_t, bI_f, bI_0, bI_1, Bool.true_eq_false, Bool.false_eq_true, Bool.and_self, Bool.and_false, Bool.false_and, Bool.true_and, Bool.and_true, and_self, eM_fld, hr, ne_eq, not_false_eq_true, hr6]
    rw [fin m r _ (by omega) hr]
    unfold recM histP
    simp only [e5, if_neg hr6]
end MDL4
