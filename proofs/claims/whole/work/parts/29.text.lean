/-! texts: what is read, as functions of the characters ch 0 .. ch (L - 1) -/
def dgB (ch : Nat → Nat) (L p lo hi : Nat) : Bool := decide (p < L) && (decide (48 + lo ≤ ch p) && decide (ch p ≤ 48 + hi))
def isB (ch : Nat → Nat) (L p c : Nat) : Bool := decide (p < L) && decide (ch p = c)
def stR (ch : Nat → Nat) (L p : Nat) : Bool × Nat × Int32 × Int32 × Int32 :=
  if dgB ch L p 0 4 = true then
    (if dgB ch L (p + 1) 1 9 = true then
      (if isB ch L (p + 2) 112 = true then
        (if dgB ch L (p + 3) 0 3 = true then (true, p + 4, nI (ch p - 48), nI (ch (p + 1) - 48), nI (ch (p + 3) - 48))
         else (false, p + 3, nI (ch p - 48), nI (ch (p + 1) - 48), m1))
       else (true, p + 2, nI (ch p - 48), nI (ch (p + 1) - 48), m6))
     else (false, p + 1, nI (ch p - 48), m1, m6))
  else (false, p, m1, m1, m6)
def setT (T : Nat → Int32) (k : Nat) (r : Bool × Nat × Int32 × Int32 × Int32) : Nat → Int32 := upd (upd (upd T (3 * k) r.2.2.1) (3 * k + 1) r.2.2.2.1) (3 * k + 2) r.2.2.2.2
/-- further steps of a thing -/
def thL (ch : Nat → Nat) (L : Nat) : Nat → Nat → Nat → (Nat → Int32) → Bool × Nat × Nat × (Nat → Int32)
  | 0, p, k, T => (true, p, k, T)
  | n + 1, p, k, T => if isB ch L p 44 = true then
      (if (stR ch L (p + 1)).1 = true then thL ch L n (stR ch L (p + 1)).2.1 (k + 1) (setT T k (stR ch L (p + 1))) else (false, (stR ch L (p + 1)).2.1, k + 1, setT T k (stR ch L (p + 1))))
    else (true, p, k, T)
/-- a weakness behind the steps -/
def wkR (ch : Nat → Nat) (L : Nat) (q : Bool × Nat × Nat × (Nat → Int32)) : Bool × Nat × Nat × Int32 × (Nat → Int32) :=
  if q.1 = true then
    (if isB ch L q.2.1 33 = true then (if dgB ch L (q.2.1 + 1) 0 3 = true then (true, q.2.1 + 2, q.2.2.1, nI (ch (q.2.1 + 1) - 48), q.2.2.2) else (false, q.2.1 + 1, q.2.2.1, m1, q.2.2.2))
     else (true, q.2.1, q.2.2.1, nI 0, q.2.2.2))
  else (false, q.2.1, q.2.2.1, nI 0, q.2.2.2)
def thR (ch : Nat → Nat) (L p : Nat) (T : Nat → Int32) : Bool × Nat × Nat × Int32 × (Nat → Int32) :=
  wkR ch L (if (stR ch L p).1 = true then thL ch L 3 (stR ch L p).2.1 1 (setT T 0 (stR ch L p)) else (false, (stR ch L p).2.1, 1, setT T 0 (stR ch L p)))
/-- the fault, or NONE -/
def ffR (ch : Nat → Nat) (L : Nat) : Nat → Nat → (Nat → Int32) → Int32
  | 0, _, _ => m6
  | n + 1, p, T => if (thR ch L p T).1 = true then (if (thR ch L p T).2.1 = L then m6 else if isB ch L (thR ch L p T).2.1 59 = true then ffR ch L n ((thR ch L p T).2.1 + 1) (thR ch L p T).2.2.2.2 else nI (thR ch L p T).2.1) else nI (thR ch L p T).2.1
theorem dgB_lt {ch : Nat → Nat} {L p lo hi : Nat} (h : dgB ch L p lo hi = true) : p < L ∧ 48 + lo ≤ ch p ∧ ch p ≤ 48 + hi := by
  unfold dgB at h
  simpa only [Bool.and_eq_true, decide_eq_true_eq] using h
theorem isB_lt {ch : Nat → Nat} {L p c : Nat} (h : isB ch L p c = true) : p < L ∧ ch p = c := by
  unfold isB at h
  simpa only [Bool.and_eq_true, decide_eq_true_eq] using h
theorem stR_le {ch : Nat → Nat} {L p : Nat} (h : p ≤ L) : p ≤ (stR ch L p).2.1 ∧ (stR ch L p).2.1 ≤ L ∧ ((stR ch L p).1 = true → p + 2 ≤ (stR ch L p).2.1) := by
  unfold stR
  split
  · rename_i h1
    have h1 := dgB_lt h1
    split
    · rename_i h2
      have h2 := dgB_lt h2
      split
      · rename_i h3
        have h3 := isB_lt h3
        split
        · rename_i h4
          have h4 := dgB_lt h4
          exact ⟨by simp only []; omega, by simp only []; omega, fun _ => by simp only []; omega⟩
        · exact ⟨by simp only []; omega, by simp only []; omega, fun q => by cases q⟩
      · exact ⟨by simp only []; omega, by simp only []; omega, fun _ => by simp only []; omega⟩
    · exact ⟨by simp only []; omega, by simp only []; omega, fun q => by cases q⟩
  · exact ⟨Nat.le_refl _, h, fun q => by cases q⟩
theorem thL_le {ch : Nat → Nat} {L : Nat} : ∀ (n p k : Nat) (T : Nat → Int32), p ≤ L → p ≤ (thL ch L n p k T).2.1 ∧ (thL ch L n p k T).2.1 ≤ L ∧ k ≤ (thL ch L n p k T).2.2.1 ∧ (thL ch L n p k T).2.2.1 ≤ k + n
  | 0, p, k, T, h => ⟨Nat.le_refl _, h, Nat.le_refl _, Nat.le_refl _⟩
  | n + 1, p, k, T, h => by
    unfold thL
    split
    · rename_i h1
      have h1 := isB_lt h1
      have h2 := stR_le (ch := ch) (L := L) (p := p + 1) (by omega)
      split
      · have h3 := thL_le (ch := ch) (L := L) n (stR ch L (p + 1)).2.1 (k + 1) (setT T k (stR ch L (p + 1))) h2.2.1
        exact ⟨by omega, h3.2.1, by omega, by omega⟩
      · exact ⟨by simp only []; omega, h2.2.1, by simp only []; omega, by simp only []; omega⟩
    · exact ⟨Nat.le_refl _, h, Nat.le_refl _, by simp only []; omega⟩
theorem wkR_le {ch : Nat → Nat} {L : Nat} {q : Bool × Nat × Nat × (Nat → Int32)} (h : q.2.1 ≤ L) : q.2.1 ≤ (wkR ch L q).2.1 ∧ (wkR ch L q).2.1 ≤ L ∧ (wkR ch L q).2.2.1 = q.2.2.1 ∧ (wkR ch L q).2.2.2.2 = q.2.2.2 ∧ ((wkR ch L q).1 = true → q.1 = true ∧ ∃ w, w ≤ 3 ∧ (wkR ch L q).2.2.2.1 = nI w) := by
  unfold wkR
  split
  · rename_i h0
    split
    · rename_i h1
      have h1 := isB_lt h1
      split
      · rename_i h2
        have h2 := dgB_lt h2
        exact ⟨by simp only []; omega, by simp only []; omega, rfl, rfl, fun _ => ⟨h0, _, by omega, rfl⟩⟩
      · exact ⟨by simp only []; omega, by simp only []; omega, rfl, rfl, fun q => by cases q⟩
    · exact ⟨Nat.le_refl _, h, rfl, rfl, fun _ => ⟨h0, 0, by decide, rfl⟩⟩
  · exact ⟨Nat.le_refl _, h, rfl, rfl, fun q => by cases q⟩
theorem thR_le {ch : Nat → Nat} {L p : Nat} {T : Nat → Int32} (h : p ≤ L) : p ≤ (thR ch L p T).2.1 ∧ (thR ch L p T).2.1 ≤ L ∧ 1 ≤ (thR ch L p T).2.2.1 ∧ (thR ch L p T).2.2.1 ≤ 4 ∧ ((thR ch L p T).1 = true → p + 2 ≤ (thR ch L p T).2.1 ∧ ∃ w, w ≤ 3 ∧ (thR ch L p T).2.2.2.1 = nI w) := by
  unfold thR
  have h1 := stR_le (ch := ch) h
  by_cases hs : (stR ch L p).1 = true
  · rw [if_pos hs]
    have h2 := thL_le (ch := ch) (L := L) 3 (stR ch L p).2.1 1 (setT T 0 (stR ch L p)) h1.2.1
    have h3 := wkR_le (ch := ch) (q := thL ch L 3 (stR ch L p).2.1 1 (setT T 0 (stR ch L p))) h2.2.1
    have h4 := h1.2.2 hs
    exact ⟨by omega, h3.2.1, by omega, by omega, fun q => ⟨by omega, (h3.2.2.2.2 q).2⟩⟩
  · rw [if_neg hs]
    have h3 := wkR_le (ch := ch) (L := L) (q := (false, (stR ch L p).2.1, 1, setT T 0 (stR ch L p))) h1.2.1
    simp only [] at h3
    exact ⟨by omega, h3.2.1, by omega, by omega, fun q => absurd (h3.2.2.2.2 q).1 (by decide)⟩
/-! the model reads -/
def pM (m : vMM) (p k : Nat) (w : Int32) (T : Nat → Int32) : vMM := setR (setR m 866 T) 853 (upd (upd (upd (m 853) 17 (nI p)) 19 (nI k)) 20 w)
def qM (m : vMM) (f : Nat → Int32) (p k : Nat) (w : Int32) (T : Nat → Int32) : vMM := eM (pM m p k w T) f
section QM
variable {m : vMM} {f : Nat → Int32} {p k p' k' : Nat} {w x : Int32} {T : Nat → Int32}
theorem q_fld {j : Nat} (h : j ≠ 8) (h2 : j ≠ 9) (h3 : j ≠ 10) (h4 : j ≠ 17) (h5 : j ≠ 19) (h6 : j ≠ 20) : qM m f p k w T 853 j = m 853 j := by
  unfold qM
  rw [eM_fld h h2 h3]
  unfold pM
  rw [setR_eq, upd_ne _ _ h6, upd_ne _ _ h5, upd_ne _ _ h4]
theorem q_at : qM m f p k w T 853 17 = nI p := by
  unfold qM
  rw [eM_fld (by decide) (by decide) (by decide)]
  unfold pM
  rw [setR_eq, upd_ne _ _ (by decide), upd_ne _ _ (by decide), upd_eq]
theorem q_ts : qM m f p k w T 853 19 = nI k := by
  unfold qM
  rw [eM_fld (by decide) (by decide) (by decide)]
  unfold pM
  rw [setR_eq, upd_ne _ _ (by decide), upd_eq]
theorem q_tw : qM m f p k w T 853 20 = w := by
  unfold qM
  rw [eM_fld (by decide) (by decide) (by decide)]
  unfold pM
  rw [setR_eq, upd_eq]
theorem q_told : qM m f p k w T 866 = T := by
  unfold qM
  rw [eM_oth (by decide) (by decide)]
  unfold pM
  rw [setR_ne (by decide), setR_eq]
theorem q_oth {a : Nat} (h : a ≠ 853) (h2 : a ≠ 854) (h3 : a ≠ 866) : qM m f p k w T a = m a := by
  unfold qM
  rw [eM_oth h2 h]
  unfold pM
  rw [setR_ne h, setR_ne h3]
theorem upd_upd {g : Nat → Int32} {j : Nat} {x y : Int32} : upd (upd g j x) j y = upd g j y := by
  funext i
  unfold upd
  by_cases h : i = j
  · rw [if_pos h, if_pos h]
  · rw [if_neg h, if_neg h, if_neg h]
theorem upd_comm {g : Nat → Int32} {i j : Nat} {x y : Int32} (h : i ≠ j) : upd (upd g i x) j y = upd (upd g j y) i x := by
  funext a
  unfold upd
  by_cases h1 : a = j
  · subst h1
    rw [if_pos rfl, if_neg (Ne.symm h), if_pos rfl]
  · rw [if_neg h1]
    by_cases h2 : a = i
    · rw [if_pos h2, if_pos h2]
    · rw [if_neg h2, if_neg h2, if_neg h1]
theorem q_pat : up2 (qM m f p k w T) 853 17 (nI p') = qM m f p' k w T := by
  unfold qM
  rw [eM_upf (by decide) (by decide) (by decide)]
  unfold pM
  rw [up2_setR, upd_comm (by decide : (20 : Nat) ≠ 17), upd_comm (by decide : (19 : Nat) ≠ 17), upd_upd]
theorem q_pts : up2 (qM m f p k w T) 853 19 (nI k') = qM m f p k' w T := by
  unfold qM
  rw [eM_upf (by decide) (by decide) (by decide)]
  unfold pM
  rw [up2_setR, upd_comm (by decide : (20 : Nat) ≠ 19), upd_upd]
theorem q_ptw : up2 (qM m f p k w T) 853 20 x = qM m f p k x T := by
  unfold qM
  rw [eM_upf (by decide) (by decide) (by decide)]
  unfold pM
  rw [up2_setR, upd_upd]
theorem q_ptold {j : Nat} : up2 (qM m f p k w T) 866 j x = qM m f p k w (upd T j x) := by
  unfold qM
  rw [eM_upo (by decide) (by decide)]
  unfold pM
  congr 1
  funext a
  by_cases ha : a = 866
  · subst ha
    rw [up2_eq, setR_ne (by decide), setR_eq, setR_ne (by decide), setR_eq]
  · rw [up2_ne ha]
    by_cases h3 : a = 853
    · subst h3
      rw [setR_eq, setR_eq]
    · rw [setR_ne h3, setR_ne ha, setR_ne h3, setR_ne ha]
end QM
/-- the pad: L characters ch -/
def PD (m : vMM) (L : Nat) (ch : Nat → Nat) : Prop := m 853 7 = nI L ∧ L ≤ 60 ∧ ∀ j, j < L → m 859 j = nI (ch j) ∧ 33 ≤ ch j ∧ ch j ≤ 126
theorem nI_neg {a b : Nat} (h : a < b) (hb : b < 2 ^ 30) : nI a - nI b < nI 0 := by
  rw [Int32.lt_iff_toInt_lt, Int32.toInt_sub, nI_toInt (by omega), nI_toInt (by omega), nI_toInt (by decide), Int.bmod_eq_of_le (by omega) (by omega)]
  omega
theorem dg_spec {ch : Nat → Nat} {L p lo hi : Nat} (hc : p < L → ch p ≤ 126) (hl : lo ≤ hi) (hh : hi ≤ 9) :
    (decide (nI lo ≤ (if p < L then nI (ch p) else m1) - nI 48) && decide ((if p < L then nI (ch p) else m1) - nI 48 ≤ nI hi)) = dgB ch L p lo hi ∧ (dgB ch L p lo hi = true → (if p < L then nI (ch p) else m1) - nI 48 = nI (ch p - 48)) := by
  have neg : ∀ x : Int32, x < nI 0 → (decide (nI lo ≤ x) && decide (x ≤ nI hi)) = false := by
    intro x hx
    have : ¬ nI lo ≤ x := by
      intro q
      have h1 := Int32.lt_of_le_of_lt q hx
      rw [ltI _ _ (by omega) (by omega)] at h1
      omega
    simp only [this, decide_false, Bool.false_and]
  by_cases hp : p < L
  · have h126 := hc hp
    rw [if_pos hp]
    rcases Nat.lt_or_ge (ch p) 48 with q | q
    · have h1 := neg _ (nI_neg (a := ch p) (b := 48) q (by decide))
      have h2 : dgB ch L p lo hi = false := by
        rw [Bool.eq_false_iff]
        intro h
        have := dgB_lt h
        omega
      exact ⟨h1.trans h2.symm, fun h => by rw [h2] at h; cases h⟩
    · rw [nI_sub _ _ q]
      refine ⟨?_, fun _ => rfl⟩
      unfold dgB
      rw [decide_eq_true hp, Bool.true_and]
      congr 1
      · rw [decide_eq_decide, leI _ _ (by omega) (by omega)]
        omega
      · rw [decide_eq_decide, leI _ _ (by omega) (by omega)]
        omega
  · rw [if_neg hp]
    have h2 : dgB ch L p lo hi = false := by
      rw [Bool.eq_false_iff]
      intro h
      exact hp (dgB_lt h).1
    exact ⟨(neg _ (by decide +kernel)).trans h2.symm, fun h => by rw [h2] at h; cases h⟩
section RD
variable {D : vDD} {m : vMM} {f : Nat → Int32} {z : vZZ} {Q : Value → vDD → vMM → vZZ → Prop} {L p k : Nat} {ch : Nat → Nat} {w : Int32} {T : Nat → Int32}
theorem c_character (hM : IsMo D) (hP : PD m L ch) (hp : p ≤ 200) : Runs MX7_character 0 [.ref 853, .int (nI p)] [] D (qM m f p k w T) z Q = Q (.int (if p < L then nI (ch p) else m1)) D (qM m f p k w T) z := by
  simp only [IsMo] at hM
  obtain ⟨h7, h60, hc⟩ := hP
  by_cases h : p < L
  · have hn : ¬ L ≤ p := by omega
    simp (disch := omega) only [sX7_character_0, sX7_character_1, sX7_character_2, sX7_character_5, sX7_character_8, sX7_character_9, sX7_character_12, sX7_character_13, sX7_character_14, sX7_character_17, sX7_character_18, hM, true_and, and_true, true_or, or_true, eq_self, ↓reduceIte, if_true, if_false, nI_add, nI_mul, inB_nI, nI_clamp, Nat.add_zero, eqI, ltI, leI, m6_ne, ne_m6, Nat.reduceEqDiff, reduceCtorEq, Nat.reduceLT, Nat.reduceLeDiff, Nat.reduceAdd, Nat.reduceMul, Nat.zero_add, Nat.mul_zero, nar_0, nar_1, nar_b, bI_t, bI_f, bI_0, bI_1, Bool.true_eq_false, Bool.false_eq_true, Bool.and_self, Bool.and_false, Bool.false_and, Bool.true_and, Bool.and_true, and_self, q_fld, ne_eq, not_false_eq_true, h7, hn, h, q_oth, (hc p h).1]
  · have hn : L ≤ p := by omega
    simp (disch := omega) only [sX7_character_0, sX7_character_1, sX7_character_2, sX7_character_5, sX7_character_8, sX7_character_9, sX7_character_12, sX7_character_13, sX7_character_14, sX7_character_17, sX7_character_18, hM, true_and, and_true, true_or, or_true, eq_self, ↓reduceIte, if_true, if_false, nI_add, nI_mul, inB_nI, nI_clamp, Nat.add_zero, eqI, ltI, leI, m6_ne, ne_m6, Nat.reduceEqDiff, reduceCtorEq, Nat.reduceLT, Nat.reduceLeDiff, Nat.reduceAdd, Nat.reduceMul, Nat.zero_add, Nat.mul_zero, nar_0, nar_1, nar_b, bI_t, bI_f, bI_0, bI_1, Bool.true_eq_false, Bool.false_eq_true, Bool.and_self, Bool.and_false, Bool.false_and, Bool.true_and, Bool.and_true, and_self, q_fld, ne_eq, not_false_eq_true, h7, hn, h]
theorem c_isNext (hM : IsMo D) (hP : PD m L ch) (hp : p ≤ 199) {c : Nat} (hc : c < 200) : Runs MX7_isNext 0 [.ref 853, .int (nI c), vJ] [] D (qM m f p k w T) z Q = Q (.int (bI (isB ch L p c))) D (qM m f (if isB ch L p c = true then p + 1 else p) k w T) z := by
  have h1 := hM
  simp only [IsMo] at h1
  have hch : ∀ Q, Runs MX7_character 0 [.ref 853, .int (nI p)] [] D (qM m f p k w T) z Q = Q (.int (if p < L then nI (ch p) else m1)) D (qM m f p k w T) z := fun Q => c_character hM hP (by omega)
  have hv : ((if p < L then nI (ch p) else m1) = nI c) = (isB ch L p c = true) := by
    unfold isB
    by_cases h : p < L
    · have := (hP.2.2 p h).2
      rw [if_pos h, eqI _ _ (by omega) (by omega)]
      simp [h]
    · rw [if_neg h]
      simp only [h, decide_false, Bool.false_and, Bool.false_eq_true, eq_iff_iff, iff_false]
      intro q
      have h2 : m1 < nI c := by
        rw [Int32.lt_iff_toInt_lt, nI_toInt (by omega)]
        have : m1.toInt = -1 := by decide +kernel
        omega
      rw [q] at h2
      exact Int32.lt_irrefl h2
  generalize (if p < L then nI (ch p) else m1) = v at hch hv
  by_cases hb : isB ch L p c = true
  · have hv1 : v = nI c := by rw [hv]; exact hb
    rw [hb]
    simp (disch := omega) only [sX7_isNext_0, sX7_isNext_1, sX7_isNext_2, sX7_isNext_5, sX7_isNext_8, sX7_isNext_9, sX7_isNext_12, sX7_isNext_13, sX7_isNext_16, sX7_isNext_17, sX7_isNext_18, sX7_isNext_19, sX7_isNext_20, sX7_isNext_23, sX7_isNext_24, sX7_isNext_27, sX7_isNext_28, sX7_isNext_31, sX7_isNext_32, sX7_isNext_33, sX7_isNext_36, sX7_isNext_37, h1, true_and, and_true, true_or, or_true, eq_self, ↓reduceIte, if_true, if_false, nI_add, nI_mul, inB_nI, nI_clamp, Nat.add_zero, eqI, ltI, leI, m6_ne, ne_m6, Nat.reduceEqDiff, reduceCtorEq, Nat.reduceLT, Nat.reduceLeDiff, Nat.reduceAdd, Nat.reduceMul, Nat.zero_add, Nat.mul_zero, nar_0, nar_1, nar_b, bI_t, bI_f, bI_0, bI_1, Bool.true_eq_false, Bool.false_eq_true, Bool.and_self, Bool.and_false, Bool.false_and, Bool.true_and, Bool.and_true, and_self, q_at, hch, hv1, q_pat]
  · have hv1 : ¬ v = nI c := by rw [hv]; exact hb
    simp only [Bool.not_eq_true] at hb
    rw [hb]
    simp (disch := omega) only [sX7_isNext_0, sX7_isNext_1, sX7_isNext_2, sX7_isNext_5, sX7_isNext_8, sX7_isNext_9, sX7_isNext_12, sX7_isNext_13, sX7_isNext_16, sX7_isNext_17, sX7_isNext_18, sX7_isNext_19, sX7_isNext_20, sX7_isNext_23, sX7_isNext_24, sX7_isNext_27, sX7_isNext_28, sX7_isNext_31, sX7_isNext_32, sX7_isNext_33, sX7_isNext_36, sX7_isNext_37, h1, true_and, and_true, true_or, or_true, eq_self, ↓reduceIte, if_true, if_false, nI_add, nI_mul, inB_nI, nI_clamp, Nat.add_zero, eqI, ltI, leI, m6_ne, ne_m6, Nat.reduceEqDiff, reduceCtorEq, Nat.reduceLT, Nat.reduceLeDiff, Nat.reduceAdd, Nat.reduceMul, Nat.zero_add, Nat.mul_zero, nar_0, nar_1, nar_b, bI_t, bI_f, bI_0, bI_1, Bool.true_eq_false, Bool.false_eq_true, Bool.and_self, Bool.and_false, Bool.false_and, Bool.true_and, Bool.and_true, and_self, q_at, hch, hv1, q_pat]
theorem c_takeDigit (hM : IsMo D) (hP : PD m L ch) (hp : p ≤ 199) {lo hi : Nat} (hl : lo ≤ hi) (hh : hi ≤ 9) : Runs MX7_takeDigit 0 [.ref 853, .int (nI lo), .int (nI hi), vJ] [] D (qM m f p k w T) z Q = Q (.int (if dgB ch L p lo hi = true then nI (ch p - 48) else m1)) D (qM m f (if dgB ch L p lo hi = true then p + 1 else p) k w T) z := by
  have h1 := hM
  simp only [IsMo] at h1
  have hch : ∀ Q, Runs MX7_character 0 [.ref 853, .int (nI p)] [] D (qM m f p k w T) z Q = Q (.int (if p < L then nI (ch p) else m1)) D (qM m f p k w T) z := fun Q => c_character hM hP (by omega)
  obtain ⟨hd, hv⟩ := dg_spec (ch := ch) (L := L) (p := p) (lo := lo) (hi := hi) (fun h => (hP.2.2 p h).2.2) hl hh
  generalize (if p < L then nI (ch p) else m1) = v at hch hd hv
  cases hb : dgB ch L p lo hi
  · rw [hb] at hd
    simp (disch := omega) only [sX7_takeDigit_0, sX7_takeDigit_1, sX7_takeDigit_2, sX7_takeDigit_5, sX7_takeDigit_8, sX7_takeDigit_10, sX7_takeDigit_11, sX7_takeDigit_12, sX7_takeDigit_13, sX7_takeDigit_14, sX7_takeDigit_15, sX7_takeDigit_18, sX7_takeDigit_21, sX7_takeDigit_22, sX7_takeDigit_23, sX7_takeDigit_24, sX7_takeDigit_25, sX7_takeDigit_28, sX7_takeDigit_29, sX7_takeDigit_30, sX7_takeDigit_33, sX7_takeDigit_34, h1, true_and, and_true, true_or, or_true, eq_self, ↓reduceIte, if_true, if_false, nI_add, nI_mul, inB_nI, nI_clamp, Nat.add_zero, eqI, ltI, leI, m6_ne, ne_m6, Nat.reduceEqDiff, reduceCtorEq, Nat.reduceLT, Nat.reduceLeDiff, Nat.reduceAdd, Nat.reduceMul, Nat.zero_add, Nat.mul_zero, nar_0, nar_1, nar_b, bI_t, bI_f, bI_0, bI_1, Bool.true_eq_false, Bool.false_eq_true, Bool.and_self, Bool.and_false, Bool.false_and, Bool.true_and, Bool.and_true, and_self, q_at, hch, c_within, hd, q_pat]
  · rw [hb] at hd
    have hv := hv hb
    rw [hv] at hd
    simp (disch := omega) only [sX7_takeDigit_0, sX7_takeDigit_1, sX7_takeDigit_2, sX7_takeDigit_5, sX7_takeDigit_8, sX7_takeDigit_10, sX7_takeDigit_11, sX7_takeDigit_12, sX7_takeDigit_13, sX7_takeDigit_14, sX7_takeDigit_15, sX7_takeDigit_18, sX7_takeDigit_21, sX7_takeDigit_22, sX7_takeDigit_23, sX7_takeDigit_24, sX7_takeDigit_25, sX7_takeDigit_28, sX7_takeDigit_29, sX7_takeDigit_30, sX7_takeDigit_33, sX7_takeDigit_34, h1, true_and, and_true, true_or, or_true, eq_self, ↓reduceIte, if_true, if_false, nI_add, nI_mul, inB_nI, nI_clamp, Nat.add_zero, eqI, ltI, leI, m6_ne, ne_m6, Nat.reduceEqDiff, reduceCtorEq, Nat.reduceLT, Nat.reduceLeDiff, Nat.reduceAdd, Nat.reduceMul, Nat.zero_add, Nat.mul_zero, nar_0, nar_1, nar_b, bI_t, bI_f, bI_0, bI_1, Bool.true_eq_false, Bool.false_eq_true, Bool.and_self, Bool.and_false, Bool.false_and, Bool.true_and, Bool.and_true, and_self, q_at, hch, c_within, hd, q_pat, hv]
end RD
