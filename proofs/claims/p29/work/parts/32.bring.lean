/-! bring, fault -/
theorem dgB_ns {ch : Nat → Nat} {L p lo hi : Nat} (h : dgB ch L p lo hi = true) (hh : hi ≤ 9) : smN ch (p + 1) = smN ch p := by
  have := dgB_lt h
  simp only [smN]
  rw [if_neg (by omega), Nat.add_zero]
theorem isB_ns {ch : Nat → Nat} {L p c : Nat} (h : isB ch L p c = true) (hc : c ≠ 59) : smN ch (p + 1) = smN ch p := by
  have := isB_lt h
  simp only [smN]
  rw [if_neg (by omega), Nat.add_zero]
theorem stR_ns {ch : Nat → Nat} {L p : Nat} : smN ch (stR ch L p).2.1 = smN ch p := by
  unfold stR
  split
  · rename_i h1
    have h1 := dgB_ns h1 (by decide)
    split
    · rename_i h2
      have h2 := dgB_ns h2 (by decide)
      split
      · rename_i h3
        have h3 := isB_ns h3 (by decide)
        split
        · rename_i h4
          have h4 := dgB_ns h4 (by decide)
          exact h4.trans (h3.trans (h2.trans h1))
        · exact h3.trans (h2.trans h1)
      · exact h2.trans h1
    · exact h1
  · rfl
theorem thL_ns {ch : Nat → Nat} {L : Nat} : ∀ (n p k : Nat) (T : Nat → Int32), smN ch (thL ch L n p k T).2.1 = smN ch p
  | 0, p, k, T => rfl
  | n + 1, p, k, T => by
    unfold thL
    split
    · rename_i h1
      have h1 := isB_ns h1 (by decide)
      split
      · exact (thL_ns n _ _ _).trans (stR_ns.trans h1)
      · exact stR_ns.trans h1
    · rfl
theorem wkR_ns {ch : Nat → Nat} {L : Nat} {q : Bool × Nat × Nat × (Nat → Int32)} : smN ch (wkR ch L q).2.1 = smN ch q.2.1 := by
  unfold wkR
  split
  · split
    · rename_i h1
      have h1 := isB_ns h1 (by decide)
      split
      · rename_i h2
        exact (dgB_ns h2 (by decide)).trans h1
      · exact h1
    · rfl
  · rfl
theorem thR_ns {ch : Nat → Nat} {L p : Nat} {T : Nat → Int32} : smN ch (thR ch L p T).2.1 = smN ch p := by
  unfold thR
  rw [wkR_ns]
  split
  · exact (thL_ns 3 _ _ _).trans stR_ns
  · exact stR_ns
theorem thR_lt {ch : Nat → Nat} {L p : Nat} {T : Nat → Int32} (h : (thR ch L p T).1 = true) : p < L := by
  rcases Nat.lt_or_ge p L with q | q
  · exact q
  · exfalso
    have h1 : dgB ch L p 0 4 = false := by
      rw [Bool.eq_false_iff]
      intro h2
      have := dgB_lt h2
      omega
    have h2 : stR ch L p = (false, p, m1, m1, m6) := by
      unfold stR
      rw [h1]
      rfl
    unfold thR at h
    rw [h2] at h
    simp [wkR] at h
/-- what was told of k steps makes sense -/
def okTS (T : Nat → Int32) (k : Nat) : Prop := ∀ j, j < k → (∃ q, q < 5 ∧ T (3 * j + 0) = nI q) ∧ (T (3 * j + 2) = m6 ∨ ∃ p, p < 4 ∧ T (3 * j + 2) = nI p)
theorem stR_ok {ch : Nat → Nat} {L p : Nat} (h : (stR ch L p).1 = true) : (∃ q, q < 5 ∧ (stR ch L p).2.2.1 = nI q) ∧ ((stR ch L p).2.2.2.2 = m6 ∨ ∃ q, q < 4 ∧ (stR ch L p).2.2.2.2 = nI q) := by
  unfold stR at h ⊢
  split
  · rename_i h1
    have h1' := dgB_lt h1
    rw [if_pos h1] at h
    split
    · rename_i h2
      rw [if_pos h2] at h
      split
      · rename_i h3
        rw [if_pos h3] at h
        split
        · rename_i h4
          have h4 := dgB_lt h4
          exact ⟨⟨_, by omega, rfl⟩, Or.inr ⟨_, by omega, rfl⟩⟩
        · rename_i h4
          rw [if_neg h4] at h
          cases h
      · exact ⟨⟨_, by omega, rfl⟩, Or.inl rfl⟩
    · rename_i h2
      rw [if_neg h2] at h
      cases h
  · rename_i h1
    rw [if_neg h1] at h
    cases h
theorem okTS_set {T : Nat → Int32} {k : Nat} {r : Bool × Nat × Int32 × Int32 × Int32} (h : okTS T k) (h2 : (∃ q, q < 5 ∧ r.2.2.1 = nI q) ∧ (r.2.2.2.2 = m6 ∨ ∃ q, q < 4 ∧ r.2.2.2.2 = nI q)) : okTS (setT T k r) (k + 1) := by
  intro j hj
  unfold setT
  by_cases e : j = k
  · subst e
    rw [upd_ne _ _ (by omega), upd_ne _ _ (by omega), upd_eq, Nat.add_zero, upd_eq]
    exact h2
  · rw [upd_ne _ _ (by omega), upd_ne _ _ (by omega), upd_ne _ _ (by omega), upd_ne _ _ (by omega), upd_ne _ _ (by omega), upd_ne _ _ (by omega)]
    exact h j (by omega)
theorem thL_ok {ch : Nat → Nat} {L : Nat} : ∀ (n p k : Nat) (T : Nat → Int32), okTS T k → (thL ch L n p k T).1 = true → okTS (thL ch L n p k T).2.2.2 (thL ch L n p k T).2.2.1
  | 0, p, k, T, h, _ => h
  | n + 1, p, k, T, h, h1 => by
    unfold thL at h1 ⊢
    split
    · rename_i h2
      rw [if_pos h2] at h1
      split
      · rename_i h3
        rw [if_pos h3] at h1
        exact thL_ok n _ _ _ (okTS_set h (stR_ok h3)) h1
      · rename_i h3
        rw [if_neg h3] at h1
        cases h1
    · exact h
theorem thR_ok {ch : Nat → Nat} {L p : Nat} {T : Nat → Int32} (hp : p ≤ L) (h : (thR ch L p T).1 = true) : okTS (thR ch L p T).2.2.2.2 (thR ch L p T).2.2.1 := by
  have h1 := stR_le (ch := ch) hp
  have hq : (if (stR ch L p).1 = true then thL ch L 3 (stR ch L p).2.1 1 (setT T 0 (stR ch L p)) else (false, (stR ch L p).2.1, 1, setT T 0 (stR ch L p))).2.1 ≤ L := by
    split
    · exact (thL_le 3 _ _ _ h1.2.1).2.1
    · exact h1.2.1
  have h3 := wkR_le (ch := ch) hq
  unfold thR at h ⊢
  rw [h3.2.2.1, h3.2.2.2.1]
  have h4 := (h3.2.2.2.2 h).1
  by_cases hs : (stR ch L p).1 = true
  · rw [if_pos hs] at h4 ⊢
    exact thL_ok 3 _ _ _ (okTS_set (fun j hj => by omega) (stR_ok hs)) h4
  · rw [if_neg hs] at h4
    cases h4
/-- the things of the pad come -/
def nxP (ch : Nat → Nat) (L p : Nat) : Nat := if isB ch L p 59 = true then p + 1 else p
def brF (ch : Nat → Nat) (L : Nat) : Nat → Nat → Nat → (Nat → Int32) → (Nat → Int32) → (Nat → Int32)
  | 0, _, _, _, f => f
  | n + 1, p, t, T, f => if L ≤ p then f else brF ch L n (nxP ch L (thR ch L p T).2.1) (t + 1) (thR ch L p T).2.2.2.2 (newF f t (thR ch L p T).2.2.1 (thR ch L p T).2.2.2.1 (thR ch L p T).2.2.2.2)
theorem newF_G {f : Nat → Int32} {t k : Nat} {w : Int32} {T : Nat → Int32} {j : Nat} (h : j ≠ 3) (h2 : j < 10 ∨ 346 ≤ j) (ht : t < 16) : gG (newF f t k w T) j = gG f j := by
  unfold gG newF
  rw [if_neg h, if_neg (by omega)]
theorem newF_F {f : Nat → Int32} {t k i j : Nat} {w : Int32} {T : Nat → Int32} (hi : i < 8) (hj : j < 6) : gF (newF f t k w T) i j = gF f i j := by
  unfold gF newF
  rw [if_neg (by omega), if_neg (by omega)]
theorem newF_T {f : Nat → Int32} {t k u j : Nat} {w : Int32} {T : Nat → Int32} (hu : u ≠ t) (hj : j < 18) : gT (newF f t k w T) u j = gT f u j := by
  unfold gT newF
  rw [if_neg (by omega), if_neg (by omega)]
theorem newF_t {f : Nat → Int32} {t k j : Nat} {w : Int32} {T : Nat → Int32} (hj : j < 18) : gT (newF f t k w T) t j = if j = 1 then nI k else if j = 5 then w else if 6 ≤ j ∧ j < 6 + 3 * k then T (j - 6) else nI 0 := by
  unfold gT newF
  rw [if_neg (by omega), if_pos (by omega)]
  by_cases h1 : j = 1
  · rw [if_pos h1, if_pos (by omega)]
  · rw [if_neg h1, if_neg (by omega)]
    by_cases h2 : j = 5
    · rw [if_pos h2, if_pos (by omega)]
    · rw [if_neg h2, if_neg (by omega)]
      by_cases h3 : 6 ≤ j ∧ j < 6 + 3 * k
      · rw [if_pos h3, if_pos (by omega)]
        congr 1
        omega
      · rw [if_neg h3, if_neg (by omega)]
theorem WF.nwF {f : Nat → Int32} {nF t k : Nat} {w : Int32} {T : Nat → Int32} (h : WF f nF t) (ht : t < 16) (h1 : 1 ≤ k) (h4 : k ≤ 4) (hT : okTS T k) : WF (newF f t k w T) nF (t + 1) := by
  obtain ⟨⟨g2, f8, g3, t16⟩, g0, hWT, hX, hinj⟩ := h
  refine ⟨⟨(newF_G (by decide) (by decide) ht).trans g2, f8, by unfold gG newF; rw [if_pos rfl], by omega⟩, ?_, ?_, ?_, ?_⟩
  · obtain ⟨p, p1, p2, p3⟩ := g0
    exact ⟨p, p1, p2, (newF_G (by decide) (by decide) ht).trans p3⟩
  · intro u hu
    by_cases e : u = t
    · subst e
      refine ⟨0, k, ⟨?_, ?_, by omega, h1, h4⟩, ?_, ⟨0, by decide, ?_⟩, fun _ => ⟨0, by decide, ?_⟩⟩
      · rw [newF_t (by decide), if_neg (by decide), if_neg (by decide), if_neg (by omega)]
      · rw [newF_t (by decide), if_pos rfl]
      · intro j hj
        have := hT j hj
        rw [newF_t (by omega), if_neg (by omega), if_neg (by omega), if_pos (by omega), newF_t (by omega), if_neg (by omega), if_neg (by omega), if_pos (by omega)]
        have e1 : 6 + 3 * j + 0 - 6 = 3 * j + 0 := by omega
        have e2 : 6 + 3 * j + 2 - 6 = 3 * j + 2 := by omega
        rw [e1, e2]
        exact this
      · rw [newF_t (by decide), if_neg (by decide), if_neg (by decide), if_neg (by omega)]
      · rw [newF_t (by decide), if_neg (by decide), if_neg (by decide), if_neg (by omega)]
    · exact (hWT u (by omega)).same (fun j hj => newF_T e hj)
  · intro i hi
    obtain ⟨x1, x2⟩ := hX i hi
    refine ⟨?_, by rw [newF_F (by omega) (by decide)]; exact x2⟩
    rw [newF_F (by omega) (by decide)]
    rcases x1 with q | ⟨u, q1, q2, q3⟩
    · exact Or.inl q
    · exact Or.inr ⟨u, by omega, q2, (newF_T (by omega) (by decide)).trans q3⟩
  · intro i j hi hj hij
    rw [newF_F (by omega) (by decide), newF_F (by omega) (by decide)]
    exact hinj i j hi hj hij
/-- one step of the reading without a fault -/
theorem ffR_s {ch : Nat → Nat} {L n p : Nat} {T : Nat → Int32} (h : ffR ch L (n + 1) p T = m6) (hp : p ≤ L) (hL : L ≤ 60) : (thR ch L p T).1 = true ∧ p < L ∧ ((thR ch L p T).2.1 = L ∨ ((thR ch L p T).2.1 < L ∧ isB ch L (thR ch L p T).2.1 59 = true ∧ ffR ch L n ((thR ch L p T).2.1 + 1) (thR ch L p T).2.2.2.2 = m6)) := by
  have hle := (thR_le (ch := ch) (T := T) hp).2.1
  unfold ffR at h
  by_cases h1 : (thR ch L p T).1 = true
  · rw [if_pos h1] at h
    refine ⟨h1, thR_lt h1, ?_⟩
    by_cases h2 : (thR ch L p T).2.1 = L
    · exact Or.inl h2
    · rw [if_neg h2] at h
      by_cases h3 : isB ch L (thR ch L p T).2.1 59 = true
      · rw [if_pos h3] at h
        exact Or.inr ⟨by omega, h3, h⟩
      · rw [if_neg h3] at h
        rw [ne_m6 _ (by omega)] at h
        exact h.elim
  · rw [if_neg h1, ne_m6 _ (by omega)] at h
    exact h.elim
theorem smN_mono (ch : Nat → Nat) {a b : Nat} (h : a ≤ b) : smN ch a ≤ smN ch b := by
  induction b with
  | zero => obtain rfl : a = 0 := by omega
            exact Nat.le_refl _
  | succ b ih =>
    by_cases e : a = b + 1
    · subst e; exact Nat.le_refl _
    · have := ih (by omega)
      simp only [smN]
      omega
section BR
variable {D : vDD} {m : vMM} {f : Nat → Int32} {z : vZZ} {Q : Value → vDD → vMM → vZZ → Prop} {L p k : Nat} {ch : Nat → Nat} {w : Int32} {T : Nat → Int32} {nF nT r : Nat}
end BR
