/-! bring, fault -/
theorem dgB_ns {ch : Nat → Nat} {L p lo hi : Nat} (h : dgB ch L p lo hi = true) (hh : hi ≤ 9) : smN ch (p + 1) = smN ch p := by
  have := dgB_lt h
  simp only [smN]
  rw [if_neg (by omega), Nat.add_zero]
theorem isB_ns {ch : Nat → Nat} {L p c : Nat} (h : isB ch L p c = true) (hc : c ≠ 59) : smN ch (p + 1) = smN ch p := by
  have := isB_lt h
  simp only [smN]
  rw [if_neg (by omega), Nat.add_zero]
theorem stR_ns {ch : Nat → Nat} {L p : Nat} : smN ch (stR ch L p).2.1 = smN ch p := by
  unfold stR
  split
  · rename_i h1
    have h1 := dgB_ns h1 (by decide)
    split
    · rename_i h2
      have h2 := dgB_ns h2 (by decide)
      split
      · rename_i h3
        have h3 := isB_ns h3 (by decide)
        split
        · rename_i h4
          have h4 := dgB_ns h4 (by decide)
          exact h4.trans (h3.trans (h2.trans h1))
        · exact h3.trans (h2.trans h1)
      · exact h2.trans h1
    · exact h1
  · rfl
theorem thL_ns {ch : Nat → Nat} {L : Nat} : ∀ (n p k : Nat) (T : Nat → Int32), smN ch (thL ch L n p k T).2.1 = smN ch p
  | 0, p, k, T => rfl
  | n + 1, p, k, T => by
    unfold thL
    split
    · rename_i h1
      have h1 := isB_ns h1 (by decide)
      split
      · exact (thL_ns n _ _ _).trans (stR_ns.trans h1)
      · exact stR_ns.trans h1
    · rfl
theorem wkR_ns {ch : Nat → Nat} {L : Nat} {q : Bool × Nat × Nat × (Nat → Int32)} : smN ch (wkR ch L q).2.1 = smN ch q.2.1 := by
  unfold wkR
  split
  · split
    · rename_i h1
      have h1 := isB_ns h1 (by decide)
      split
      · rename_i h2
        exact (dgB_ns h2 (by decide)).trans h1
      · exact h1
    · rfl
  · rfl
theorem thR_ns {ch : Nat → Nat} {L p : Nat} {T : Nat → Int32} : smN ch (thR ch L p T).2.1 = smN ch p := by
  unfold thR
  rw [wkR_ns]
  split
  · exact (thL_ns 3 _ _ _).trans stR_ns
  · exact stR_ns
theorem thR_lt {ch : Nat → Nat} {L p : Nat} {T : Nat → Int32} (h : (thR ch L p T).1 = true) : p < L := by
  rcases Nat.lt_or_ge p L with q | q
  · exact q
  · exfalso
    have h1 : dgB ch L p 0 4 = false := by
      rw [Bool.eq_false_iff]
      intro h2
      have := dgB_lt h2
      omega
    have h2 : stR ch L p = (false, p, m1, m1, m6) := by
      unfold stR
      rw [h1]
      rfl
    unfold thR at h
    rw [h2] at h
    simp [wkR] at h
/-- what was told of k steps makes sense -/
def okTS (T : Nat → Int32) (k : Nat) : Prop := ∀ j, j < k → (∃ q, q < 5 ∧ T (3 * j + 0) = nI q) ∧ (T (3 * j + 2) = m6 ∨ ∃ p, p < 4 ∧ T (3 * j + 2) = nI p)
theorem stR_ok {ch : Nat → Nat} {L p : Nat} (h : (stR ch L p).1 = true) : (∃ q, q < 5 ∧ (stR ch L p).2.2.1 = nI q) ∧ ((stR ch L p).2.2.2.2 = m6 ∨ ∃ q, q < 4 ∧ (stR ch L p).2.2.2.2 = nI q) := by
  unfold stR at h ⊢
  split
  · rename_i h1
    have h1' := dgB_lt h1
    rw [if_pos h1] at h
    split
    · rename_i h2
      rw [if_pos h2] at h
      split
      · rename_i h3
        rw [if_pos h3] at h
        split
        · rename_i h4
          have h4 := dgB_lt h4
          exact ⟨⟨_, by omega, rfl⟩, Or.inr ⟨_, by omega, rfl⟩⟩
        · rename_i h4
          rw [if_neg h4] at h
          cases h
      · exact ⟨⟨_, by omega, rfl⟩, Or.inl rfl⟩
    · rename_i h2
      rw [if_neg h2] at h
      cases h
  · rename_i h1
    rw [if_neg h1] at h
    cases h
theorem okTS_set {T : Nat → Int32} {k : Nat} {r : Bool × Nat × Int32 × Int32 × Int32} (h : okTS T k) (h2 : (∃ q, q < 5 ∧ r.2.2.1 = nI q) ∧ (r.2.2.2.2 = m6 ∨ ∃ q, q < 4 ∧ r.2.2.2.2 = nI q)) : okTS (setT T k r) (k + 1) := by
  intro j hj
  unfold setT
  by_cases e : j = k
  · subst e
    rw [upd_ne _ _ (by omega), upd_ne _ _ (by omega), upd_eq, Nat.add_zero, upd_eq]
    exact h2
  · rw [upd_ne _ _ (by omega), upd_ne _ _ (by omega), upd_ne _ _ (by omega), upd_ne _ _ (by omega), upd_ne _ _ (by omega), upd_ne _ _ (by omega)]
    exact h j (by omega)
theorem thL_ok {ch : Nat → Nat} {L : Nat} : ∀ (n p k : Nat) (T : Nat → Int32), okTS T k → (thL ch L n p k T).1 = true → okTS (thL ch L n p k T).2.2.2 (thL ch L n p k T).2.2.1
  | 0, p, k, T, h, _ => h
  | n + 1, p, k, T, h, h1 => by
    unfold thL at h1 ⊢
    split
    · rename_i h2
      rw [if_pos h2] at h1
      split
      · rename_i h3
        rw [if_pos h3] at h1
        exact thL_ok n _ _ _ (okTS_set h (stR_ok h3)) h1
      · rename_i h3
        rw [if_neg h3] at h1
        cases h1
    · exact h
theorem thR_ok {ch : Nat → Nat} {L p : Nat} {T : Nat → Int32} (hp : p ≤ L) (h : (thR ch L p T).1 = true) : okTS (thR ch L p T).2.2.2.2 (thR ch L p T).2.2.1 := by
  have h1 := stR_le (ch := ch) hp
  have hq : (if (stR ch L p).1 = true then thL ch L 3 (stR ch L p).2.1 1 (setT T 0 (stR ch L p)) else (false, (stR ch L p).2.1, 1, setT T 0 (stR ch L p))).2.1 ≤ L := by
    split
    · exact (thL_le 3 _ _ _ h1.2.1).2.1
    · exact h1.2.1
  have h3 := wkR_le (ch := ch) hq
  unfold thR at h ⊢
  rw [h3.2.2.1, h3.2.2.2.1]
  have h4 := (h3.2.2.2.2 h).1
  by_cases hs : (stR ch L p).1 = true
  · rw [if_pos hs] at h4 ⊢
    exact thL_ok 3 _ _ _ (okTS_set (fun j hj => by omega) (stR_ok hs)) h4
  · rw [if_neg hs] at h4
    cases h4
/-- the things of the pad come -/
def nxP (ch : Nat → Nat) (L p : Nat) : Nat := if isB ch L p 59 = true then p + 1 else p
def brF (ch : Nat → Nat) (L : Nat) : Nat → Nat → Nat → (Nat → Int32) → (Nat → Int32) → (Nat → Int32)
  | 0, _, _, _, f => f
  | n + 1, p, t, T, f => if L ≤ p then f else brF ch L n (nxP ch L (thR ch L p T).2.1) (t + 1) (thR ch L p T).2.2.2.2 (newF f t (thR ch L p T).2.2.1 (thR ch L p T).2.2.2.1 (thR ch L p T).2.2.2.2)
theorem newF_G {f : Nat → Int32} {t k : Nat} {w : Int32} {T : Nat → Int32} {j : Nat} (h : j ≠ 3) (h2 : j < 10 ∨ 346 ≤ j) (ht : t < 16) : gG (newF f t k w T) j = gG f j := by
  unfold gG newF
  rw [if_neg h, if_neg (by omega)]
theorem newF_F {f : Nat → Int32} {t k i j : Nat} {w : Int32} {T : Nat → Int32} (hi : i < 8) (hj : j < 6) : gF (newF f t k w T) i j = gF f i j := by
  unfold gF newF
  rw [if_neg (by omega), if_neg (by omega)]
theorem newF_T {f : Nat → Int32} {t k u j : Nat} {w : Int32} {T : Nat → Int32} (hu : u ≠ t) (hj : j < 18) : gT (newF f t k w T) u j = gT f u j := by
  unfold gT newF
  rw [if_neg (by omega), if_neg (by omega)]
theorem newF_t {f : Nat → Int32} {t k j : Nat} {w : Int32} {T : Nat → Int32} (hj : j < 18) : gT (newF f t k w T) t j = if j = 1 then nI k else if j = 5 then w else if 6 ≤ j ∧ j < 6 + 3 * k then T (j - 6) else nI 0 := by
  unfold gT newF
  rw [if_neg (by omega), if_pos (by omega)]
  by_cases h1 : j = 1
  · rw [if_pos h1, if_pos (by omega)]
  · rw [if_neg h1, if_neg (by omega)]
    by_cases h2 : j = 5
    · rw [if_pos h2, if_pos (by omega)]
    · rw [if_neg h2, if_neg (by omega)]
      by_cases h3 : 6 ≤ j ∧ j < 6 + 3 * k
      · rw [if_pos h3, if_pos (by omega)]
        congr 1
        omega
      · rw [if_neg h3, if_neg (by omega)]
theorem WF.nwF {f : Nat → Int32} {nF t k : Nat} {w : Int32} {T : Nat → Int32} (h : WF f nF t) (ht : t < 16) (h1 : 1 ≤ k) (h4 : k ≤ 4) (hT : okTS T k) : WF (newF f t k w T) nF (t + 1) := by
  obtain ⟨⟨g2, f8, g3, t16⟩, g0, hWT, hX, hinj⟩ := h
  refine ⟨⟨(newF_G (by decide) (by decide) ht).trans g2, f8, by unfold gG newF; rw [if_pos rfl], by omega⟩, ?_, ?_, ?_, ?_⟩
  · obtain ⟨p, p1, p2, p3⟩ := g0
    exact ⟨p, p1, p2, (newF_G (by decide) (by decide) ht).trans p3⟩
  · intro u hu
    by_cases e : u = t
    · subst e
      refine ⟨0, k, ⟨?_, ?_, by omega, h1, h4⟩, ?_, ⟨0, by decide, ?_⟩, fun _ => ⟨0, by decide, ?_⟩⟩
      · rw [newF_t (by decide), if_neg (by decide), if_neg (by decide), if_neg (by omega)]
      · rw [newF_t (by decide), if_pos rfl]
      · intro j hj
        have := hT j hj
        rw [newF_t (by omega), if_neg (by omega), if_neg (by omega), if_pos (by omega), newF_t (by omega), if_neg (by omega), if_neg (by omega), if_pos (by omega)]
        have e1 : 6 + 3 * j + 0 - 6 = 3 * j + 0 := by omega
        have e2 : 6 + 3 * j + 2 - 6 = 3 * j + 2 := by omega
        rw [e1, e2]
        exact this
      · rw [newF_t (by decide), if_neg (by decide), if_neg (by decide), if_neg (by omega)]
      · rw [newF_t (by decide), if_neg (by decide), if_neg (by decide), if_neg (by omega)]
    · exact (hWT u (by omega)).same (fun j hj => newF_T e hj)
  · intro i hi
    obtain ⟨x1, x2⟩ := hX i hi
    refine ⟨?_, by rw [newF_F (by omega) (by decide)]; exact x2⟩
    rw [newF_F (by omega) (by decide)]
    rcases x1 with q | ⟨u, q1, q2, q3⟩
    · exact Or.inl q
    · exact Or.inr ⟨u, by omega, q2, (newF_T (by omega) (by decide)).trans q3⟩
  · intro i j hi hj hij
    rw [newF_F (by omega) (by decide), newF_F (by omega) (by decide)]
    exact hinj i j hi hj hij
/-- one step of the reading without a fault -/
theorem ffR_s {ch : Nat → Nat} {L n p : Nat} {T : Nat → Int32} (h : ffR ch L (n + 1) p T = m6) (hp : p ≤ L) (hL : L ≤ 60) : (thR ch L p T).1 = true ∧ p < L ∧ ((thR ch L p T).2.1 = L ∨ ((thR ch L p T).2.1 < L ∧ isB ch L (thR ch L p T).2.1 59 = true ∧ ffR ch L n ((thR ch L p T).2.1 + 1) (thR ch L p T).2.2.2.2 = m6)) := by
  have hle := (thR_le (ch := ch) (T := T) hp).2.1
  unfold ffR at h
  by_cases h1 : (thR ch L p T).1 = true
  · rw [if_pos h1] at h
    refine ⟨h1, thR_lt h1, ?_⟩
    by_cases h2 : (thR ch L p T).2.1 = L
    · exact Or.inl h2
    · rw [if_neg h2] at h
      by_cases h3 : isB ch L (thR ch L p T).2.1 59 = true
      · rw [if_pos h3] at h
        exact Or.inr ⟨by omega, h3, h⟩
      · rw [if_neg h3] at h
        rw [ne_m6 _ (by omega)] at h
        exact h.elim
  · rw [if_neg h1, ne_m6 _ (by omega)] at h
    exact h.elim
theorem smN_mono (ch : Nat → Nat) {a b : Nat} (h : a ≤ b) : smN ch a ≤ smN ch b := by
  induction b with
  | zero => obtain rfl : a = 0 := by omega
            exact Nat.le_refl _
  | succ b ih =>
    by_cases e : a = b + 1
    · subst e; exact Nat.le_refl _
    · have := ih (by omega)
      simp only [smN]
      omega
section BR
variable {D : vDD} {m : vMM} {f : Nat → Int32} {z : vZZ} {Q : Value → vDD → vMM → vZZ → Prop} {L p k : Nat} {ch : Nat → Nat} {w : Int32} {T : Nat → Int32} {nF nT r : Nat}
theorem q_self (h1 : m 853 17 = nI p) (h2 : m 853 19 = nI k) : eM m f = qM m f p k (m 853 20) (m 866) := by
  unfold qM
  congr 1
  unfold pM
  funext a
  by_cases ha : a = 853
  · subst ha
    rw [setR_eq, ← h1, ← h2]
    funext j
    unfold upd
    by_cases j1 : j = 20
    · rw [if_pos j1, j1]
    · rw [if_neg j1]
      by_cases j2 : j = 19
      · rw [if_pos j2, j2]
      · rw [if_neg j2]
        by_cases j3 : j = 17
        · rw [if_pos j3, j3]
        · rw [if_neg j3]
  · rw [setR_ne ha]
    by_cases h6 : a = 866
    · subst h6
      rw [setR_eq]
    · rw [setR_ne h6]
theorem m_fault (hM : IsMo D) (hP : PD m L ch) (h1 : m 853 17 = nI p) (h2 : m 853 19 = nI k) : ∃ p' k' w' T', ∀ Q, Runs MX7_fault 0 [.ref 853] [] D (eM m f) z Q = Q (.int (ffR ch L (L + 1) 0 (m 866))) D (qM m f p' k' w' T') z := by
  obtain ⟨p', k', w', T', h⟩ := c_findFault (D := D) (m := m) (f := f) (z := z) (L := L) (p := p) (k := k) (ch := ch) (w := m 853 20) (T := m 866) hM hP
  refine ⟨p', k', w', T', fun Q => ?_⟩
  rw [q_self h1 h2]
  simp only [IsMo] at hM
  simp (disch := omega) only [sX7_fault_0, sX7_fault_1, sX7_fault_4, hM, true_and, and_true, true_or, or_true, eq_self, ↓reduceIte, if_true, if_false, nI_add, nI_mul, inB_nI, nI_clamp, Nat.add_zero, eqI, ltI, leI, m6_ne, ne_m6, Nat.reduceEqDiff, reduceCtorEq, Nat.reduceLT, Nat.reduceLeDiff, Nat.reduceAdd, Nat.reduceMul, Nat.zero_add, Nat.mul_zero, nar_0, nar_1, nar_b, bI_t, bI_f, bI_0, bI_1, Bool.true_eq_false, Bool.false_eq_true, Bool.and_self, Bool.and_false, Bool.false_and, Bool.true_and, Bool.and_true, and_self, h]
theorem l_bring (hM : IsMo D) (hP : PD m L ch) : ∀ (n p t k : Nat) (w : Int32) (T f : Nat → Int32), L + 1 ≤ p + n → ffR ch L n p T = m6 → p ≤ L → WF f nF t → t + 1 + smN ch L ≤ 16 + smN ch p →
    ∃ p' k' w' T', WF (brF ch L n p t T f) nF (t + 1 + smN ch L - smN ch p) ∧ ∀ Q, Runs MX7_bring 40 [.ref 853] [] D (qM m f p k w T) z Q = Q (.int (nI (t + 1 + smN ch L - smN ch p))) D (up2 (qM m (brF ch L n p t T f) p' k' w' T') 853 7 (nI 0)) z := by
  have h1 := hM
  simp only [IsMo] at h1
  have h60 := hP.2.1
  have h7 := hP.1
  intro n
  induction n with
  | zero =>
    intro p t k w T f hn hf hp
    omega
  | succ n ih =>
    intro p t k w T f hn hf hp hW hs
    obtain ⟨a1, a2, a3⟩ := ffR_s hf hp h60
    have rt : ∀ Q, Runs MX7_readsThing 0 [.ref 853, vJ] [] D (qM m f p k w T) z Q = Q (.int (bI (thR ch L p T).1)) D (qM m f (thR ch L p T).2.1 (thR ch L p T).2.2.1 (thR ch L p T).2.2.2.1 (thR ch L p T).2.2.2.2) z := fun Q => c_readsThing hM hP hp
    have hle := thR_le (ch := ch) (L := L) (p := p) (T := T) hp
    have hok := thR_ok (ch := ch) (L := L) (p := p) (T := T) hp a1
    have hns := thR_ns (ch := ch) (L := L) (p := p) (T := T)
    have hmo := smN_mono ch hp
    have hnL : ¬ L ≤ p := by omega
    simp only [brF]
    rw [if_neg hnL]
    generalize thR ch L p T = q at rt hle hok hns a1 a3 ⊢
    obtain ⟨r1, r2, r3, r4, r5⟩ := q
    simp only [] at rt hle hok hns a1 a3 ⊢
    subst a1
    have nx : ∀ Q, Runs MX7_isNext 0 [.ref 853, .int (nI 59), vJ] [] D (qM m f r2 r3 r4 r5) z Q = Q (.int (bI (isB ch L r2 59))) D (qM m f (nxP ch L r2) r3 r4 r5) z := fun Q => c_isNext hM hP (by omega) (by decide)
    have cm : ∀ Q, Runs MX7_comes 0 [.ref 853, vJ, vJ] [] D (qM m f (nxP ch L r2) r3 r4 r5) z Q = Q vJ D (qM m (newF f t r3 r4 r5) (nxP ch L r2) r3 r4 r5) z := fun Q => c_comes hM (by omega) hle.2.2.2.1 hW.1.2.2.1
    have hW2 : WF (newF f t r3 r4 r5) nF (t + 1) := hW.nwF (by omega) hle.2.2.1 hle.2.2.2.1 hok
    rcases a3 with e | ⟨b1, b2, b3⟩
    · subst e
      have e2 : nxP ch r2 r2 = r2 := by
        unfold nxP
        rw [if_neg]
        intro h
        have := (isB_lt h).1
        omega
      rw [e2] at nx cm
      have e3 : t + 1 + smN ch r2 - smN ch p = t + 1 := by omega
      have e4 : ∀ n (g : Nat → Int32) (T : Nat → Int32), brF ch r2 n r2 (t + 1) T g = g := fun n g T => by
        cases n
        · rfl
        · unfold brF
          rw [if_pos (Nat.le_refl _)]
      rw [e2, e3, e4]
      refine ⟨r2, r3, r4, r5, hW2, fun Q => ?_⟩
      have g3 : up2 (qM m (newF f t r3 r4 r5) r2 r3 r4 r5) 853 7 (nI 0) 854 3 = nI (t + 1) := by
        rw [up2_ne (by decide)]
        unfold qM
        rw [eM_gG (by decide)]
        exact hW2.1.2.2.1
      rw [sX7_bring_40]
      simp (disch := omega) only [sX7_bring_41, sX7_bring_44, sX7_bring_45, sX7_bring_48, sX7_bring_51, sX7_bring_52, sX7_bring_55, sX7_bring_56, sX7_bring_57, sX7_bring_59, sX7_bring_62, sX7_bring_63, sX7_bring_64, sX7_bring_67, sX7_bring_70, sX7_bring_71, sX7_bring_72, sX7_bring_75, sX7_bring_76, sX7_bring_79, sX7_bring_80, sX7_bring_81, h1, true_and, and_true, true_or, or_true, eq_self, ↓reduceIte, if_true, if_false, nI_add, nI_mul, inB_nI, nI_clamp, Nat.add_zero, eqI, ltI, leI, m6_ne, ne_m6, Nat.reduceEqDiff, reduceCtorEq, Nat.reduceLT, Nat.reduceLeDiff, Nat.reduceAdd, Nat.reduceMul, Nat.zero_add, Nat.mul_zero, nar_0, nar_1, nar_b, bI_t, bI_f, bI_0, bI_1, Bool.true_eq_false, Bool.false_eq_true, Bool.and_self, Bool.and_false, Bool.false_and, Bool.true_and, Bool.and_true, and_self, q_at, q_fld, ne_eq, not_false_eq_true, h7, hnL, rt, nx, cm]
      rw [sX7_bring_40]
      simp (disch := omega) only [sX7_bring_41, sX7_bring_44, sX7_bring_45, sX7_bring_48, sX7_bring_51, sX7_bring_52, sX7_bring_55, sX7_bring_56, sX7_bring_57, sX7_bring_59, sX7_bring_62, sX7_bring_63, sX7_bring_64, sX7_bring_67, sX7_bring_70, sX7_bring_71, sX7_bring_72, sX7_bring_75, sX7_bring_76, sX7_bring_79, sX7_bring_80, sX7_bring_81, h1, true_and, and_true, true_or, or_true, eq_self, ↓reduceIte, if_true, if_false, nI_add, nI_mul, inB_nI, nI_clamp, Nat.add_zero, eqI, ltI, leI, m6_ne, ne_m6, Nat.reduceEqDiff, reduceCtorEq, Nat.reduceLT, Nat.reduceLeDiff, Nat.reduceAdd, Nat.reduceMul, Nat.zero_add, Nat.mul_zero, nar_0, nar_1, nar_b, bI_t, bI_f, bI_0, bI_1, Bool.true_eq_false, Bool.false_eq_true, Bool.and_self, Bool.and_false, Bool.false_and, Bool.true_and, Bool.and_true, and_self, q_at, q_fld, ne_eq, not_false_eq_true, h7, Nat.le_refl, g3]
    · have e2 : nxP ch L r2 = r2 + 1 := by
        unfold nxP
        rw [if_pos b2]
      rw [e2] at nx cm
      have hsm : smN ch (r2 + 1) = smN ch p + 1 := by
        have := (isB_lt b2).2
        simp only [smN]
        rw [if_pos this, hns]
      have hmo2 := smN_mono ch (a := r2 + 1) (b := L) (by omega)
      obtain ⟨p', k', w', T', i1, i2⟩ := ih (r2 + 1) (t + 1) r3 r4 r5 (newF f t r3 r4 r5) (by omega) b3 (by omega) hW2 (by omega)
      have e3 : t + 1 + 1 + smN ch L - smN ch (r2 + 1) = t + 1 + smN ch L - smN ch p := by omega
      rw [e3] at i1 i2
      rw [e2]
      refine ⟨p', k', w', T', i1, fun Q => ?_⟩
      rw [sX7_bring_40]
      simp (disch := omega) only [sX7_bring_41, sX7_bring_44, sX7_bring_45, sX7_bring_48, sX7_bring_51, sX7_bring_52, sX7_bring_55, sX7_bring_56, sX7_bring_57, sX7_bring_59, sX7_bring_62, sX7_bring_63, sX7_bring_64, sX7_bring_67, sX7_bring_70, sX7_bring_71, sX7_bring_72, sX7_bring_75, sX7_bring_76, sX7_bring_79, sX7_bring_80, sX7_bring_81, h1, true_and, and_true, true_or, or_true, eq_self, ↓reduceIte, if_true, if_false, nI_add, nI_mul, inB_nI, nI_clamp, Nat.add_zero, eqI, ltI, leI, m6_ne, ne_m6, Nat.reduceEqDiff, reduceCtorEq, Nat.reduceLT, Nat.reduceLeDiff, Nat.reduceAdd, Nat.reduceMul, Nat.zero_add, Nat.mul_zero, nar_0, nar_1, nar_b, bI_t, bI_f, bI_0, bI_1, Bool.true_eq_false, Bool.false_eq_true, Bool.and_self, Bool.and_false, Bool.false_and, Bool.true_and, Bool.and_true, and_self, q_at, q_fld, ne_eq, not_false_eq_true, h7, hnL, rt, nx, cm, i2]
end BR
