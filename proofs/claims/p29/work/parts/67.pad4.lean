/-! the pad: all things; signs that come -/
def RdB (ch : Nat → Nat) (L : Nat) : Nat → Nat → Nat → (Nat → Int32) → vMM → Prop
  | 0, _, _, _, _ => True
  | n + 1, p, j, T, m => if L ≤ p then True else (∃ S, RdT m (769 + 4 * j) S ∧ ThS S (thR ch L p T).2.2.1 (thR ch L p T).2.2.2.1 (thR ch L p T).2.2.2.2) ∧ RdB ch L n (nxP ch L (thR ch L p T).2.1) (j + 1) (thR ch L p T).2.2.2.2 m
theorem RdB_L {ch : Nat → Nat} {L p j : Nat} {T : Nat → Int32} {m : vMM} (h : L ≤ p) : ∀ n, RdB ch L n p j T m
  | 0 => trivial
  | n + 1 => by
    unfold RdB
    rw [if_pos h]
    trivial
def DE (D D' : vDD) : Prop := D' = D ∨ ∃ r, D' = upR D 766 4 r
theorem DE.refl {D : vDD} : DE D D := Or.inl rfl
theorem DE.trans {a b c : vDD} (h : DE a b) (h2 : DE b c) : DE a c := by
  rcases h with rfl | ⟨r, rfl⟩
  · exact h2
  · rcases h2 with rfl | ⟨r', rfl⟩
    · exact Or.inr ⟨r, rfl⟩
    · exact Or.inr ⟨r', upR_upR⟩
theorem DE.q {D D' : vDD} (h : DE D D') {q : Nat} (hq : q ≠ 766) : D' q = D q := by
  rcases h with rfl | ⟨r, rfl⟩
  · rfl
  · exact upR_q hq
theorem DE.pad {D D' : vDD} (h : DE D D') (hP : IsPad D) : IsPad D' := by
  rcases h with rfl | ⟨r, rfl⟩
  · exact hP
  · exact hP.lat
section PADA
variable {z : vZZ} {L : Nat} {ch : Nat → Nat}
theorem L_all : ∀ (n p : Nat) (T : Nat → Int32) (D : vDD) (m : vMM), L + 1 ≤ p + n → p ≤ L → IsPad D → PadM m L ch → m 766 3 = nI (smN ch p) → 3 * smN ch p ≤ p →
    ∃ D' m', DE D D' ∧ (∀ a, a ≠ 766 → (a < 769 + 4 * smN ch p ∨ 849 ≤ a) → m' a = m a) ∧ m' 766 2 = m 766 2 ∧ (ffR ch L n p T = m6 → m' 766 3 = nI (1 + smN ch L) ∧ 3 * smN ch L + 2 ≤ L ∧ RdB ch L n p (smN ch p) T m') ∧
      ∀ Q, Runs MX3_readThings 9 [.ref 766, .int (nI 0), .int (nI p)] [] D m z Q = Q (.int (ffR ch L n p T)) D' m' z := by
  intro n
  induction n with
  | zero =>
    intro p T D m h1 h2
    omega
  | succ n ih =>
    intro p T D m hn hp hP hm hc h3
    have h60 := hm.2.1
    obtain ⟨D1, m1, d1, f1, f2, r1, e1⟩ := L_one (z := z) hP hm hc (fun h => by omega) hp T
    have hd1 : DE D D1 := by
      rcases d1 with rfl | rfl
      · exact DE.refl
      · exact Or.inr ⟨_, rfl⟩
    have hle := thR_le (ch := ch) (T := T) hp
    have hns := thR_ns (ch := ch) (L := L) (p := p) (T := T)
    have hlt := thR_lt (ch := ch) (L := L) (p := p) (T := T)
    unfold ffR RdB
    generalize thR ch L p T = r at r1 e1 hle hns hlt ⊢
    obtain ⟨r1', r2, r3, r4, r5⟩ := r
    simp only [] at r1 e1 hle hns hlt ⊢
    cases r1'
    · simp only [Bool.false_eq_true, if_false] at e1 ⊢
      exact ⟨D1, m1, hd1, fun a h1 h2 => f1 a h1 (by omega), f2, fun h => absurd h (nI_nm6 (by omega)), e1⟩
    · simp only [if_true] at e1 ⊢
      obtain ⟨g1, S, g2, g3⟩ := r1 rfl
      have hpL := hlt rfl
      have hp2 := (hle.2.2.2.2 rfl).1
      have hnp : ¬ L ≤ p := by omega
      simp only [if_neg hnp]
      by_cases eL : r2 = L
      · simp only [if_pos eL] at e1 ⊢
        refine ⟨D1, m1, hd1, fun a h1 h2 => f1 a h1 (by omega), f2, fun _ => ⟨?_, ?_, ⟨S, g2, g3⟩, ?_⟩, e1⟩
        · rw [g1, ← eL, hns, Nat.add_comm]
        · rw [← eL, hns]; omega
        · have : nxP ch L r2 = L := by
            unfold nxP
            rw [if_neg, eL]
            rw [isB_L (by omega)]
            decide
          rw [this]
          exact RdB_L (Nat.le_refl _) n
      · simp only [if_neg eL] at e1 ⊢
        by_cases hb : isB ch L r2 59 = true
        · have hb' := isB_lt hb
          have hsm : smN ch (r2 + 1) = smN ch p + 1 := by
            simp only [smN]
            rw [if_pos hb'.2, hns]
          simp only [if_pos hb] at e1 ⊢
          have hm1 : PadM m1 L ch := hm.cong f2 (f1 767 (by decide) (by omega))
          obtain ⟨D2, m2, d2, k1, k2, k3, e2⟩ := ih (r2 + 1) r5 D1 m1 (by omega) (by omega) (hd1.pad hP) hm1 (by rw [g1, hsm]) (by omega)
          refine ⟨D2, m2, hd1.trans d2, fun a h1 h2 => ?_, k2.trans f2, fun h => ?_, fun Q => by rw [e1, e2]⟩
          · rw [k1 a h1 (by omega), f1 a h1 (by omega)]
          · obtain ⟨y1, y0, y2⟩ := k3 h
            have : nxP ch L r2 = r2 + 1 := by
              unfold nxP
              rw [if_pos hb]
            rw [this]
            rw [hsm] at y2
            exact ⟨y1, y0, ⟨S, g2.cong (fun a h1 h2 => k1 a (by omega) (by omega)), g3⟩, y2⟩
        · simp only [if_neg hb] at e1 ⊢
          exact ⟨D1, m1, hd1, fun a h1 h2 => f1 a h1 (by omega), f2, fun h => absurd h (nI_nm6 (by omega)), e1⟩
theorem x_readThings {D : vDD} {m : vMM} (hP : IsPad D) (hm : PadM m L ch) (T0 : Nat → Int32) : ∃ D' m', DE D D' ∧ (∀ a, a ≠ 766 → (a < 769 ∨ 849 ≤ a) → m' a = m a) ∧ m' 766 2 = m 766 2 ∧ (ffR ch L (L + 1) 0 T0 = m6 → m' 766 3 = nI (1 + smN ch L) ∧ 3 * smN ch L + 2 ≤ L ∧ ∀ T, RdB ch L (L + 1) 0 0 T m') ∧
    ∀ Q, Runs MX3_readThings 0 [.ref 766, vJ, vJ] [] D m z Q = Q (.int (ffR ch L (L + 1) 0 T0)) D' m' z := by
  have hP0 := hP
  simp only [IsPad] at hP
  have go : ∀ T, ∃ D' m', DE D D' ∧ (∀ a, a ≠ 766 → (a < 769 ∨ 849 ≤ a) → m' a = m a) ∧ m' 766 2 = m 766 2 ∧ (ffR ch L (L + 1) 0 T = m6 → m' 766 3 = nI (1 + smN ch L) ∧ 3 * smN ch L + 2 ≤ L ∧ RdB ch L (L + 1) 0 0 T m') ∧ ∀ Q, Runs MX3_readThings 0 [.ref 766, vJ, vJ] [] D m z Q = Q (.int (ffR ch L (L + 1) 0 T0)) D' m' z := by
    intro T
    have hm2 : PadM (up2 m 766 3 (nI 0)) L ch := hm.cong (by rw [up2_eq, upd_ne _ _ (by decide)]) (by rw [up2_ne (by decide)])
    obtain ⟨D', m', d, f1, f2, f3, e⟩ := L_all (z := z) (ch := ch) (L := L) (L + 1) 0 T D (up2 m 766 3 (nI 0)) (by omega) (Nat.zero_le _) hP0 hm2 (by rw [up2_eq, upd_eq]; rfl) (Nat.le_refl _)
    refine ⟨D', m', d, fun a h1 h2 => by rw [f1 a h1 (by simp only [smN]; omega), up2_ne h1], by rw [f2, up2_eq, upd_ne _ _ (by decide)], f3, fun Q => ?_⟩
    rw [ffR_T (L + 1) 0 T T0] at e
    simp (disch := omega) only [sX3_readThings_0, sX3_readThings_1, sX3_readThings_2, sX3_readThings_5, sX3_readThings_6, sX3_readThings_7, sX3_readThings_8, hP, true_and, and_true, true_or, or_true, eq_self, ↓reduceIte, if_true, if_false, nI_add, nI_mul, inB_nI, nI_clamp, Nat.add_zero, eqI, ltI, leI, m6_ne, ne_m6, Nat.reduceEqDiff, reduceCtorEq, Nat.reduceLT, Nat.reduceLeDiff, Nat.reduceAdd, Nat.reduceMul, Nat.zero_add, Nat.mul_zero, nar_0, nar_1, nar_b, bI_t, bI_f, bI_0, bI_1, Bool.true_eq_false, Bool.false_eq_true, Bool.and_self, Bool.and_false, Bool.false_and, Bool.true_and, Bool.and_true, and_self, e]
  obtain ⟨D', m', d, f1, f2, f3, e⟩ := go T0
  refine ⟨D', m', d, f1, f2, fun h => ⟨(f3 h).1, (f3 h).2.1, fun T => ?_⟩, e⟩
  obtain ⟨D2, m2, -, -, -, g3, e2⟩ := go T
  have h1 := e (fun _ _ m3 _ => m3 = m')
  have h2 := e2 (fun _ _ m3 _ => m3 = m')
  simp only [] at h1 h2
  have e3 : m2 = m' := by
    rw [← h2, h1]
    trivial
  rw [← e3]
  rw [ffR_T (L + 1) 0 T0 T] at h
  exact (g3 h).2.2
end PADA
section SIG
variable {D : vDD} {m : vMM} {z : vZZ} {Q : Value → vDD → vMM → vZZ → Prop} {L n : Nat} {ch : Nat → Nat}
theorem out126 {n i : Nat} : (decide (nI (byN n i) < nI 33) || decide (nI 126 < nI (byN n i))) = !(decide (33 ≤ byN n i) && decide (byN n i ≤ 126)) := by
  have := byN_lt n i
  simp only [ltI _ _ (by decide : 126 < 2 ^ 31) (by omega : byN n i < 2 ^ 31), ltI _ _ (by omega : byN n i < 2 ^ 31) (by decide : 33 < 2 ^ 31)]
  by_cases h1 : 33 ≤ byN n i
  · by_cases h2 : byN n i ≤ 126
    · rw [decide_eq_true h1, decide_eq_true h2, decide_eq_false (by omega : ¬ byN n i < 33), decide_eq_false (by omega : ¬ 126 < byN n i)]; rfl
    · rw [decide_eq_true h1, decide_eq_false h2, decide_eq_false (by omega : ¬ byN n i < 33), decide_eq_true (by omega : 126 < byN n i)]; rfl
  · rw [decide_eq_false h1, decide_eq_true (by omega : byN n i < 33), Bool.true_or, Bool.false_and]; rfl
def sgN (n k i : Nat) : Nat := if okF (byN n) k i = true then (if n / 256 ^ (szF (byN n) k i) = 0 then szF (byN n) k i else 0) else 0
theorem put_sg (n : Nat) : putN n = sgN n 8 0 := by
  unfold putN sgN
  cases okF (byN n) 8 0
  · rfl
  · rw [if_pos rfl, Bool.true_and]
    by_cases h : n / 256 ^ (szF (byN n) 8 0) = 0
    · rw [if_pos h, if_pos (decide_eq_true h)]
    · rw [if_neg h, if_neg (by rw [decide_eq_true_eq]; exact h)]
theorem l_signs (hn : n < 2 ^ 64) {x : Int64} : ∀ (k i : Nat) (v5 : Value), i + k = 8 → Runs MX3_signsIn 5 [.long x, vJ, .long (uL (n / 256 ^ i)), vJ, .int (nI i), v5] [] D m z Q = Q (.int (nI (sgN n k i))) D m z := by
  intro k
  induction k with
  | zero =>
    intro i v5 hi
    obtain rfl : i = 8 := by omega
    have e2 : (lg_cmp (uL (n / 256 ^ 8)) 0 = nI 0) = (n / 256 ^ 8 = 0) := uL_0 (n_div hn)
    rw [sX3_signsIn_5]
    have es : sgN n 0 8 = if n / 256 ^ 8 = 0 then 8 else 0 := rfl
    rw [es]
    by_cases h : n / 256 ^ 8 = 0
    · have e2' : lg_cmp (uL (n / 256 ^ 8)) 0 = nI 0 := by rw [e2]; exact h
      rw [if_pos h]
      simp (disch := omega) only [sX3_signsIn_7, sX3_signsIn_9, sX3_signsIn_12, sX3_signsIn_13, sX3_signsIn_16, sX3_signsIn_17, sX3_signsIn_18, sX3_signsIn_19, sX3_signsIn_22, sX3_signsIn_23, sX3_signsIn_26, sX3_signsIn_27, sX3_signsIn_28, sX3_signsIn_30, sX3_signsIn_32, sX3_signsIn_34, sX3_signsIn_36, sX3_signsIn_39, sX3_signsIn_42, sX3_signsIn_43, sX3_signsIn_44, sX3_signsIn_45, sX3_signsIn_47, sX3_signsIn_48, sX3_signsIn_49, sX3_signsIn_52, sX3_signsIn_55, sX3_signsIn_56, sX3_signsIn_57, sX3_signsIn_58, sX3_signsIn_61, sX3_signsIn_63, sX3_signsIn_66, sX3_signsIn_67, true_and, and_true, true_or, or_true, eq_self, ↓reduceIte, if_true, if_false, nI_add, nI_mul, inB_nI, nI_clamp, Nat.add_zero, eqI, ltI, leI, m6_ne, ne_m6, Nat.reduceEqDiff, reduceCtorEq, Nat.reduceLT, Nat.reduceLeDiff, Nat.reduceAdd, Nat.reduceMul, Nat.zero_add, Nat.mul_zero, nar_0, nar_1, nar_b, bI_t, bI_f, bI_0, bI_1, Bool.true_eq_false, Bool.false_eq_true, Bool.and_self, Bool.and_false, Bool.false_and, Bool.true_and, Bool.and_true, and_self, Nat.le_refl, e2']
    · rw [if_neg h]
      simp (disch := omega) only [sX3_signsIn_7, sX3_signsIn_9, sX3_signsIn_12, sX3_signsIn_13, sX3_signsIn_16, sX3_signsIn_17, sX3_signsIn_18, sX3_signsIn_19, sX3_signsIn_22, sX3_signsIn_23, sX3_signsIn_26, sX3_signsIn_27, sX3_signsIn_28, sX3_signsIn_30, sX3_signsIn_32, sX3_signsIn_34, sX3_signsIn_36, sX3_signsIn_39, sX3_signsIn_42, sX3_signsIn_43, sX3_signsIn_44, sX3_signsIn_45, sX3_signsIn_47, sX3_signsIn_48, sX3_signsIn_49, sX3_signsIn_52, sX3_signsIn_55, sX3_signsIn_56, sX3_signsIn_57, sX3_signsIn_58, sX3_signsIn_61, sX3_signsIn_63, sX3_signsIn_66, sX3_signsIn_67, true_and, and_true, true_or, or_true, eq_self, ↓reduceIte, if_true, if_false, nI_add, nI_mul, inB_nI, nI_clamp, Nat.add_zero, eqI, ltI, leI, m6_ne, ne_m6, Nat.reduceEqDiff, reduceCtorEq, Nat.reduceLT, Nat.reduceLeDiff, Nat.reduceAdd, Nat.reduceMul, Nat.zero_add, Nat.mul_zero, nar_0, nar_1, nar_b, bI_t, bI_f, bI_0, bI_1, Bool.true_eq_false, Bool.false_eq_true, Bool.and_self, Bool.and_false, Bool.false_and, Bool.true_and, Bool.and_true, and_self, Nat.le_refl, e2, h]
  | succ k ih =>
    intro i v5 hi
    have hlt : ¬ 8 ≤ i := by omega
    have hb := byN_lt n i
    have e1 : uL (n / 256 ^ i) &&& 255 = uL (byN n i) := uL_and (n_div hn)
    have e2 : (lg_cmp (uL (byN n i)) 0 = nI 0) = (byN n i = 0) := uL_0 (by omega)
    have e3 := uL_int hb
    have e4 := n_div1 (k := i) hn
    have e5 : (lg_cmp (uL (n / 256 ^ i)) 0 = nI 0) = (n / 256 ^ i = 0) := uL_0 (n_div hn)
    have o := fun Q => x_isOutside (D := D) (m := m) (z := z) (Q := Q) (v := nI (byN n i)) (a := nI 33) (b := nI 126)
    rw [out126] at o
    rw [sX3_signsIn_5]
    by_cases h0 : byN n i = 0
    · have es : sgN n (k + 1) i = if n / 256 ^ i = 0 then i else 0 := by
        unfold sgN
        simp only [okF, szF, if_pos h0, if_true]
      rw [h0] at e1 e2
      rw [es]
      by_cases h : n / 256 ^ i = 0
      · have e5' : lg_cmp (uL (n / 256 ^ i)) 0 = nI 0 := by rw [e5]; exact h
        rw [if_pos h]
        simp (disch := omega) only [sX3_signsIn_7, sX3_signsIn_9, sX3_signsIn_12, sX3_signsIn_13, sX3_signsIn_16, sX3_signsIn_17, sX3_signsIn_18, sX3_signsIn_19, sX3_signsIn_22, sX3_signsIn_23, sX3_signsIn_26, sX3_signsIn_27, sX3_signsIn_28, sX3_signsIn_30, sX3_signsIn_32, sX3_signsIn_34, sX3_signsIn_36, sX3_signsIn_39, sX3_signsIn_42, sX3_signsIn_43, sX3_signsIn_44, sX3_signsIn_45, sX3_signsIn_47, sX3_signsIn_48, sX3_signsIn_49, sX3_signsIn_52, sX3_signsIn_55, sX3_signsIn_56, sX3_signsIn_57, sX3_signsIn_58, sX3_signsIn_61, sX3_signsIn_63, sX3_signsIn_66, sX3_signsIn_67, true_and, and_true, true_or, or_true, eq_self, ↓reduceIte, if_true, if_false, nI_add, nI_mul, inB_nI, nI_clamp, Nat.add_zero, eqI, ltI, leI, m6_ne, ne_m6, Nat.reduceEqDiff, reduceCtorEq, Nat.reduceLT, Nat.reduceLeDiff, Nat.reduceAdd, Nat.reduceMul, Nat.zero_add, Nat.mul_zero, nar_0, nar_1, nar_b, bI_t, bI_f, bI_0, bI_1, Bool.true_eq_false, Bool.false_eq_true, Bool.and_self, Bool.and_false, Bool.false_and, Bool.true_and, Bool.and_true, and_self, hlt, e1, e2, h0, e5']
      · rw [if_neg h]
        simp (disch := omega) only [sX3_signsIn_7, sX3_signsIn_9, sX3_signsIn_12, sX3_signsIn_13, sX3_signsIn_16, sX3_signsIn_17, sX3_signsIn_18, sX3_signsIn_19, sX3_signsIn_22, sX3_signsIn_23, sX3_signsIn_26, sX3_signsIn_27, sX3_signsIn_28, sX3_signsIn_30, sX3_signsIn_32, sX3_signsIn_34, sX3_signsIn_36, sX3_signsIn_39, sX3_signsIn_42, sX3_signsIn_43, sX3_signsIn_44, sX3_signsIn_45, sX3_signsIn_47, sX3_signsIn_48, sX3_signsIn_49, sX3_signsIn_52, sX3_signsIn_55, sX3_signsIn_56, sX3_signsIn_57, sX3_signsIn_58, sX3_signsIn_61, sX3_signsIn_63, sX3_signsIn_66, sX3_signsIn_67, true_and, and_true, true_or, or_true, eq_self, ↓reduceIte, if_true, if_false, nI_add, nI_mul, inB_nI, nI_clamp, Nat.add_zero, eqI, ltI, leI, m6_ne, ne_m6, Nat.reduceEqDiff, reduceCtorEq, Nat.reduceLT, Nat.reduceLeDiff, Nat.reduceAdd, Nat.reduceMul, Nat.zero_add, Nat.mul_zero, nar_0, nar_1, nar_b, bI_t, bI_f, bI_0, bI_1, Bool.true_eq_false, Bool.false_eq_true, Bool.and_self, Bool.and_false, Bool.false_and, Bool.true_and, Bool.and_true, and_self, hlt, e1, e2, h0, e5, h]
    · have ih := ih (i + 1) (.int (nI (byN n i))) (by omega)
      cases hc : (decide (33 ≤ byN n i) && decide (byN n i ≤ 126))
      · have es : sgN n (k + 1) i = 0 := by
          unfold sgN
          simp only [okF, if_neg h0, hc, Bool.false_and, Bool.false_eq_true, if_false]
        rw [es]
        rw [hc] at o
        simp (disch := omega) only [sX3_signsIn_7, sX3_signsIn_9, sX3_signsIn_12, sX3_signsIn_13, sX3_signsIn_16, sX3_signsIn_17, sX3_signsIn_18, sX3_signsIn_19, sX3_signsIn_22, sX3_signsIn_23, sX3_signsIn_26, sX3_signsIn_27, sX3_signsIn_28, sX3_signsIn_30, sX3_signsIn_32, sX3_signsIn_34, sX3_signsIn_36, sX3_signsIn_39, sX3_signsIn_42, sX3_signsIn_43, sX3_signsIn_44, sX3_signsIn_45, sX3_signsIn_47, sX3_signsIn_48, sX3_signsIn_49, sX3_signsIn_52, sX3_signsIn_55, sX3_signsIn_56, sX3_signsIn_57, sX3_signsIn_58, sX3_signsIn_61, sX3_signsIn_63, sX3_signsIn_66, sX3_signsIn_67, true_and, and_true, true_or, or_true, eq_self, ↓reduceIte, if_true, if_false, nI_add, nI_mul, inB_nI, nI_clamp, Nat.add_zero, eqI, ltI, leI, m6_ne, ne_m6, Nat.reduceEqDiff, reduceCtorEq, Nat.reduceLT, Nat.reduceLeDiff, Nat.reduceAdd, Nat.reduceMul, Nat.zero_add, Nat.mul_zero, nar_0, nar_1, nar_b, bI_t, bI_f, bI_0, bI_1, Bool.true_eq_false, Bool.false_eq_true, Bool.and_self, Bool.and_false, Bool.false_and, Bool.true_and, Bool.and_true, and_self, hlt, e1, e2, h0, e3, o, Bool.not_false, Nat.one_ne_zero]
      · have es : sgN n (k + 1) i = sgN n k (i + 1) := by
          unfold sgN
          simp only [okF, szF, if_neg h0, hc, Bool.true_and]
        rw [es]
        rw [hc] at o
        simp (disch := omega) only [sX3_signsIn_7, sX3_signsIn_9, sX3_signsIn_12, sX3_signsIn_13, sX3_signsIn_16, sX3_signsIn_17, sX3_signsIn_18, sX3_signsIn_19, sX3_signsIn_22, sX3_signsIn_23, sX3_signsIn_26, sX3_signsIn_27, sX3_signsIn_28, sX3_signsIn_30, sX3_signsIn_32, sX3_signsIn_34, sX3_signsIn_36, sX3_signsIn_39, sX3_signsIn_42, sX3_signsIn_43, sX3_signsIn_44, sX3_signsIn_45, sX3_signsIn_47, sX3_signsIn_48, sX3_signsIn_49, sX3_signsIn_52, sX3_signsIn_55, sX3_signsIn_56, sX3_signsIn_57, sX3_signsIn_58, sX3_signsIn_61, sX3_signsIn_63, sX3_signsIn_66, sX3_signsIn_67, true_and, and_true, true_or, or_true, eq_self, ↓reduceIte, if_true, if_false, nI_add, nI_mul, inB_nI, nI_clamp, Nat.add_zero, eqI, ltI, leI, m6_ne, ne_m6, Nat.reduceEqDiff, reduceCtorEq, Nat.reduceLT, Nat.reduceLeDiff, Nat.reduceAdd, Nat.reduceMul, Nat.zero_add, Nat.mul_zero, nar_0, nar_1, nar_b, bI_t, bI_f, bI_0, bI_1, Bool.true_eq_false, Bool.false_eq_true, Bool.and_self, Bool.and_false, Bool.false_and, Bool.true_and, Bool.and_true, and_self, hlt, e1, e2, h0, e3, o, Bool.not_true, e4, ih]
theorem x_signsIn (hn : n < 2 ^ 64) : Runs MX3_signsIn 0 [.long (uL n), vJ, vJ, vJ, vJ, vJ] [] D m z Q = Q (.int (nI (putN n))) D m z := by
  have l := l_signs (D := D) (m := m) (z := z) (Q := Q) hn (x := uL n) 8 0 vJ (by decide)
  rw [Nat.pow_zero, Nat.div_one] at l
  simp (disch := omega) only [sX3_signsIn_0, sX3_signsIn_1, sX3_signsIn_2, sX3_signsIn_3, true_and, and_true, true_or, or_true, eq_self, ↓reduceIte, if_true, if_false, nI_add, nI_mul, inB_nI, nI_clamp, Nat.add_zero, eqI, ltI, leI, m6_ne, ne_m6, Nat.reduceEqDiff, reduceCtorEq, Nat.reduceLT, Nat.reduceLeDiff, Nat.reduceAdd, Nat.reduceMul, Nat.zero_add, Nat.mul_zero, nar_0, nar_1, nar_b, bI_t, bI_f, bI_0, bI_1, Bool.true_eq_false, Bool.false_eq_true, Bool.and_self, Bool.and_false, Bool.false_and, Bool.true_and, Bool.and_true, and_self, l, put_sg]
def pdM (m : vMM) (L s n j : Nat) : vMM := setR (setR m 767 (apR n s L j (m 767))) 766 (upd (m 766) 2 (nI (L + j)))
theorem pdM_2 {s j : Nat} : pdM m L s n j 766 2 = nI (L + j) := by
  unfold pdM
  rw [setR_eq, upd_eq]
theorem pdM_w {s j : Nat} : up2 (up2 (pdM m L s n j) 767 (L + j) (nI (byN n (s - 1 - j)))) 766 2 (nI (L + j + 1)) = pdM m L s n (j + 1) := by
  funext a
  by_cases h : a = 766
  · subst h
    rw [up2_eq, up2_ne (by decide)]
    unfold pdM
    rw [setR_eq, setR_eq, upd_upd, Nat.add_assoc]
  · rw [up2_ne h]
    by_cases h2 : a = 767
    · subst h2
      rw [up2_eq]
      unfold pdM
      rw [setR_ne h, setR_eq, setR_ne h, setR_eq, apR_s]
    · rw [up2_ne h2]
      unfold pdM
      rw [setR_ne h, setR_ne h2, setR_ne h, setR_ne h2]
theorem pdM_0 {s : Nat} (h7 : m 766 2 = nI L) : pdM m L s n 0 = m := by
  unfold pdM
  rw [apR_0, Nat.add_zero, ← h7]
  funext a
  by_cases h : a = 766
  · subst h
    rw [setR_eq]
    funext j
    unfold upd
    by_cases hj : j = 2
    · rw [if_pos hj, hj]
    · rw [if_neg hj]
  · rw [setR_ne h]
    by_cases h2 : a = 767
    · subst h2
      rw [setR_eq]
    · rw [setR_ne h2]
theorem l_append (hP : IsPad D) (hn : n < 2 ^ 64) {s : Nat} (hs : s ≤ 8) (hL : L + s ≤ 60) : ∀ k j, j + k = s → Runs MX3_append 5 [.ref 766, .long (uL n), vJ, .int (nI s), .int (if k = 0 then m1 else nI (k - 1))] [] D (pdM m L s n j) z Q = Q vJ D (pdM m L s n s) z := by
  simp only [IsPad] at hP
  intro k
  induction k with
  | zero =>
    intro j hj
    obtain rfl : j = s := by omega
    have ht : m1 < nI 0 := m1_neg
    rw [sX3_append_5]
    simp (disch := omega) only [sX3_append_7, sX3_append_10, sX3_append_11, sX3_append_14, sX3_append_16, sX3_append_19, sX3_append_20, sX3_append_23, sX3_append_24, sX3_append_27, sX3_append_28, sX3_append_30, sX3_append_32, sX3_append_33, sX3_append_34, sX3_append_37, sX3_append_38, sX3_append_39, sX3_append_40, sX3_append_41, sX3_append_42, sX3_append_45, sX3_append_46, sX3_append_47, sX3_append_50, sX3_append_53, sX3_append_56, true_and, and_true, true_or, or_true, eq_self, ↓reduceIte, if_true, if_false, nI_add, nI_mul, inB_nI, nI_clamp, Nat.add_zero, eqI, ltI, leI, m6_ne, ne_m6, Nat.reduceEqDiff, reduceCtorEq, Nat.reduceLT, Nat.reduceLeDiff, Nat.reduceAdd, Nat.reduceMul, Nat.zero_add, Nat.mul_zero, nar_0, nar_1, nar_b, bI_t, bI_f, bI_0, bI_1, Bool.true_eq_false, Bool.false_eq_true, Bool.and_self, Bool.and_false, Bool.false_and, Bool.true_and, Bool.and_true, and_self, ht]
  | succ k ih =>
    intro j hj
    have ih := ih (j + 1) (by omega)
    have hb := byN_lt n k
    have e0 : (if k + 1 = 0 then m1 else nI (k + 1 - 1)) = nI k := by
      rw [if_neg (by omega)]
      rfl
    have e1 := uL_shr (k := k) hn (by omega)
    have e2 : uL (n / 256 ^ k) &&& 255 = uL (byN n k) := uL_and (n_div hn)
    have e3 := uL_int hb
    have e4 : nI k + m1 = (if k = 0 then m1 else nI (k - 1)) := by
      by_cases h : k = 0
      · subst h; rfl
      · rw [if_neg h, nI_m1 (by omega)]
    have e5 := pdM_w (m := m) (L := L) (n := n) (s := s) (j := j)
    have e6 : s - 1 - j = k := by omega
    rw [e6] at e5
    have ng : ¬ k < 0 := Nat.not_lt_zero k
    have n60 : ¬ 60 ≤ L + j := by omega
    have e7 : up2 (pdM m L s n j) 767 (L + j) (nI (byN n k)) 766 2 = nI (L + j) := by
      rw [up2_ne (by decide), pdM_2]
    rw [e0, sX3_append_5]
    simp (disch := omega) only [sX3_append_7, sX3_append_10, sX3_append_11, sX3_append_14, sX3_append_16, sX3_append_19, sX3_append_20, sX3_append_23, sX3_append_24, sX3_append_27, sX3_append_28, sX3_append_30, sX3_append_32, sX3_append_33, sX3_append_34, sX3_append_37, sX3_append_38, sX3_append_39, sX3_append_40, sX3_append_41, sX3_append_42, sX3_append_45, sX3_append_46, sX3_append_47, sX3_append_50, sX3_append_53, sX3_append_56, hP, true_and, and_true, true_or, or_true, eq_self, ↓reduceIte, if_true, if_false, nI_add, nI_mul, inB_nI, nI_clamp, Nat.add_zero, eqI, ltI, leI, m6_ne, ne_m6, Nat.reduceEqDiff, reduceCtorEq, Nat.reduceLT, Nat.reduceLeDiff, Nat.reduceAdd, Nat.reduceMul, Nat.zero_add, Nat.mul_zero, nar_0, nar_1, nar_b, bI_t, bI_f, bI_0, bI_1, Bool.true_eq_false, Bool.false_eq_true, Bool.and_self, Bool.and_false, Bool.false_and, Bool.true_and, Bool.and_true, and_self, ng, pdM_2, n60, e1, e2, e3, e7, e5]
    rw [e4, ih]
theorem x_append (hP : IsPad D) (hn : n < 2 ^ 64) (h7 : m 766 2 = nI L) (h0 : putN n ≠ 0) (hL : L + putN n ≤ 60) : Runs MX3_append 0 [.ref 766, .long (uL n), vJ, .int (nI (putN n)), vJ] [] D m z Q = Q vJ D (pdM m L (putN n) n (putN n)) z := by
  have hs := putN_le n
  have l := l_append (D := D) (m := m) (z := z) (Q := Q) hP hn hs hL (putN n) 0 (by omega)
  rw [pdM_0 h7, if_neg h0] at l
  have e : nI (putN n) - nI 1 = nI (putN n - 1) := nI_sub _ _ (by omega)
  simp (disch := omega) only [sX3_append_0, sX3_append_1, sX3_append_2, sX3_append_3, true_and, and_true, true_or, or_true, eq_self, ↓reduceIte, if_true, if_false, nI_add, nI_mul, inB_nI, nI_clamp, Nat.add_zero, eqI, ltI, leI, m6_ne, ne_m6, Nat.reduceEqDiff, reduceCtorEq, Nat.reduceLT, Nat.reduceLeDiff, Nat.reduceAdd, Nat.reduceMul, Nat.zero_add, Nat.mul_zero, nar_0, nar_1, nar_b, bI_t, bI_f, bI_0, bI_1, Bool.true_eq_false, Bool.false_eq_true, Bool.and_self, Bool.and_false, Bool.false_and, Bool.true_and, Bool.and_true, and_self, e, l]
theorem PadM.put (h : PadM m L ch) (hL : L + putN n ≤ 60) : PadM (pdM m L (putN n) n (putN n)) (L + putN n) (apC n (putN n) L (putN n) ch) := by
  obtain ⟨h1, h2, h3⟩ := h
  refine ⟨pdM_2, hL, fun j hj => ?_⟩
  have e : pdM m L (putN n) n (putN n) 767 j = apR n (putN n) L (putN n) (m 767) j := by
    unfold pdM
    rw [setR_ne (by decide), setR_eq]
  rw [e]
  unfold apR apC
  by_cases hj2 : L ≤ j ∧ j < L + putN n
  · rw [if_pos hj2, if_pos hj2]
    have := putN_in (n := n) (j := putN n - 1 - (j - L)) (by omega)
    exact ⟨rfl, this⟩
  · rw [if_neg hj2, if_neg hj2]
    exact h3 j (by omega)
end SIG
