/-! the pad: a step, a thing, all things -/
section PADT
variable {D : vDD} {m : vMM} {z : vZZ} {q L : Nat} {ch : Nat → Nat}
theorem L_mark {Q : Value → vDD → vMM → vZZ → Prop} (hP : IsPad D) (hm : PadM m L ch) (hl : (D 766).2.2 4 = some q) (hq : 769 ≤ q) (hT : IsT D q) {S : Nat → Int32} {k p i : Nat} (h1 : S 1 = nI k) (hk : k ≤ 4) (hp : p = 5 ∨ p = 6 ∨ p = 7) (hi : i < L) : Runs MX3_readThings 9 [.ref 766, .int (nI p), .int (nI i)] [] D (tB m q S) z Q =
    if ch i = 59 then Runs MX3_readThings 9 [.ref 766, .int (nI 0), .int (nI (i + 1))] [] D (tB m q S) z Q else if p = 7 then Q (.int (nI i)) D (tB m q S) z else if ch i = 33 then Runs MX3_readThings 9 [.ref 766, .int (nI 4), .int (nI (i + 1))] [] D (tB m q S) z Q else if ch i = 44 ∧ k < 4 then Runs MX3_readThings 9 [.ref 766, .int (nI 1), .int (nI (i + 1))] [] D (tB m q S) z Q else if ch i = 112 ∧ p = 5 then Runs MX3_readThings 9 [.ref 766, .int (nI 3), .int (nI (i + 1))] [] D (tB m q S) z Q else Q (.int (nI i)) D (tB m q S) z := by
  have hc := hm.2.2 i hi
  rw [s_chr hP (hm.tB hq) hi, pb_mark hP hl hT h1 hk hp (by omega), s_28]
  have a0 : ¬ nI 0 = m1 := by decide +kernel
  have a4 : ¬ nI 4 = m1 := by decide +kernel
  have a1 : ¬ nI 1 = m1 := by decide +kernel
  have a3 : ¬ nI 3 = m1 := by decide +kernel
  by_cases c1 : ch i = 59
  · simp only [if_pos c1, if_neg a0]
  · simp only [if_neg c1]
    by_cases p7 : p = 7
    · simp only [if_pos p7, if_true]
    · simp only [if_neg p7]
      by_cases c2 : ch i = 33
      · simp only [if_pos c2, if_neg a4]
      · simp only [if_neg c2]
        by_cases c3 : ch i = 44 ∧ k < 4
        · simp only [if_pos c3, if_neg a1]
        · simp only [if_neg c3]
          by_cases c4 : ch i = 112 ∧ p = 5
          · simp only [if_pos c4, if_neg a3]
          · simp only [if_neg c4, if_true]
theorem ThS.w1 {S T : Nat → Int32} {k : Nat} {w a b : Int32} (h : ThS S k w T) : ThS (upd (adS S k a) (6 + 3 * k + 1) b) (k + 1) w (upd (upd (upd T (3 * k) a) (3 * k + 1) b) (3 * k + 2) m6) := by
  obtain ⟨⟨h0, h1, h2, h3, h4, h5⟩, h6⟩ := h
  have e : ∀ j, j < 6 → j ≠ 1 → upd (adS S k a) (6 + 3 * k + 1) b j = S j := by
    intro j hj hj1
    unfold adS
    rw [upd_ne _ _ (by omega), upd_ne _ _ hj1, upd_ne _ _ (by omega), upd_ne _ _ (by omega), upd_ne _ _ (by omega)]
  refine ⟨⟨(e 0 (by decide) (by decide)).trans h0, ?_, (e 2 (by decide) (by decide)).trans h2, (e 3 (by decide) (by decide)).trans h3, (e 4 (by decide) (by decide)).trans h4, (e 5 (by decide) (by decide)).trans h5⟩, fun j hj => ?_⟩
  · unfold adS
    rw [upd_ne _ _ (by omega), upd_eq]
  · by_cases j2 : j = 3 * k + 2
    · subst j2
      unfold adS
      rw [upd_ne _ _ (by omega), upd_ne _ _ (by omega), (by omega : 6 + (3 * k + 2) = 6 + 3 * k + 2), upd_eq, upd_eq]
    · rw [upd_ne _ _ j2]
      by_cases j1 : j = 3 * k + 1
      · subst j1
        rw [(by omega : 6 + (3 * k + 1) = 6 + 3 * k + 1), upd_eq, upd_eq]
      · rw [upd_ne _ _ j1]
        by_cases j0 : j = 3 * k
        · subst j0
          unfold adS
          rw [upd_ne _ _ (by omega), upd_ne _ _ (by omega), upd_ne _ _ (by omega), upd_ne _ _ (by omega), Nat.add_zero, upd_eq, upd_eq]
        · rw [upd_ne _ _ j0]
          unfold adS
          rw [upd_ne _ _ (by omega), upd_ne _ _ (by omega), upd_ne _ _ (by omega), upd_ne _ _ (by omega), upd_ne _ _ (by omega)]
          exact h6 j (by omega)
theorem ThS.w2 {S T : Nat → Int32} {k : Nat} {w c d : Int32} (h : ThS S (k + 1) w (upd T (3 * k + 2) c)) : ThS (upd S (6 + 3 * k + 2) d) (k + 1) w (upd T (3 * k + 2) d) := by
  obtain ⟨⟨h0, h1, h2, h3, h4, h5⟩, h6⟩ := h
  refine ⟨⟨by rw [upd_ne _ _ (by omega)]; exact h0, by rw [upd_ne _ _ (by omega)]; exact h1, by rw [upd_ne _ _ (by omega)]; exact h2, by rw [upd_ne _ _ (by omega)]; exact h3, by rw [upd_ne _ _ (by omega)]; exact h4, by rw [upd_ne _ _ (by omega)]; exact h5⟩, fun j hj => ?_⟩
  by_cases j2 : j = 3 * k + 2
  · subst j2
    rw [(by omega : 6 + (3 * k + 2) = 6 + 3 * k + 2), upd_eq, upd_eq]
  · have := h6 j hj
    rw [upd_ne _ _ j2] at this
    rw [upd_ne _ _ (by omega), upd_ne _ _ j2]
    exact this
theorem ThS.wk {S T : Nat → Int32} {k : Nat} {w w' : Int32} (h : ThS S k w T) : ThS (upd S 5 w') k w' T := by
  obtain ⟨⟨h0, h1, h2, h3, h4, h5⟩, h6⟩ := h
  refine ⟨⟨by rw [upd_ne _ _ (by omega)]; exact h0, by rw [upd_ne _ _ (by omega)]; exact h1, by rw [upd_ne _ _ (by omega)]; exact h2, by rw [upd_ne _ _ (by omega)]; exact h3, by rw [upd_ne _ _ (by omega)]; exact h4, upd_eq _ _ _⟩, fun j hj => ?_⟩
  rw [upd_ne _ _ (by omega)]
  exact h6 j hj
theorem isB_at {L p c : Nat} (h : p < L) : isB ch L p c = decide (ch p = c) := by
  unfold isB
  rw [decide_eq_true h, Bool.true_and]
theorem isB_L {L p c : Nat} (h : L ≤ p) : isB ch L p c = false := by
  unfold isB
  rw [decide_eq_false (by omega), Bool.false_and]
/-- behind the digit of a skill -/
theorem L_rest (hP : IsPad D) (hm : PadM m L ch) (hl : (D 766).2.2 4 = some q) (hq : 769 ≤ q) (hT : IsT D q) {S T : Nat → Int32} {k p : Nat} {w : Int32} (hS : ThS S k w T) (hk : k < 4) (hd : dgB ch L p 0 4 = true) :
    ∃ S' pl, ((stR ch L p).1 = true → ThS S' (k + 1) w (setT T k (stR ch L p)) ∧ (pl = 5 ∨ pl = 6) ∧ (pl = 5 → isB ch L (stR ch L p).2.1 112 = false)) ∧
      ∀ Q, Runs MX3_readThings 9 [.ref 766, .int (nI 2), .int (nI (p + 1))] [] D (tB m q (adS S k (nI (ch p - 48)))) z Q = if (stR ch L p).1 = true then Runs MX3_readThings 9 [.ref 766, .int (nI pl), .int (nI (stR ch L p).2.1)] [] D (tB m q S') z Q else Q (.int (nI (stR ch L p).2.1)) D (tB m q S') z := by
  have hpL := (dgB_lt hd).1
  have hA1 : adS S k (nI (ch p - 48)) 1 = nI (k + 1) := upd_eq _ _ _
  unfold stR setT
  rw [if_pos hd]
  by_cases h1 : dgB ch L (p + 1) 1 9 = true
  · have hp1 := (dgB_lt h1).1
    rw [if_pos h1]
    have hS1 : ThS (upd (adS S k (nI (ch p - 48))) (6 + 3 * k + 1) (nI (ch (p + 1) - 48))) (k + 1) w (upd (upd (upd T (3 * k) (nI (ch p - 48))) (3 * k + 1) (nI (ch (p + 1) - 48))) (3 * k + 2) m6) := hS.w1
    have hB1 := hS1.1.2.1
    by_cases h2 : isB ch L (p + 2) 112 = true
    · have hp2 := isB_lt h2
      rw [if_pos h2]
      by_cases h3 : dgB ch L (p + 3) 0 3 = true
      · rw [if_pos h3]
        refine ⟨_, 6, fun _ => ⟨hS1.w2, Or.inr rfl, fun h => absurd h (by decide)⟩, fun Q => ?_⟩
        rw [L_work hP hm hl hq hT hA1 hk (by omega), if_pos h1, L_mark hP hm hl hq hT hB1 (by omega) (Or.inl rfl) hp2.1, hp2.2, if_neg (by decide), if_neg (by decide), if_neg (by decide), if_neg (fun q => absurd q.1 (by decide)), if_pos ⟨rfl, rfl⟩, L_part hP hm hl hq hT hB1 hk (by omega), if_pos h3, if_pos rfl]
      · rw [if_neg h3]
        refine ⟨upd (adS S k (nI (ch p - 48))) (6 + 3 * k + 1) (nI (ch (p + 1) - 48)), 6, fun h => absurd h Bool.false_ne_true, fun Q => ?_⟩
        rw [L_work hP hm hl hq hT hA1 hk (by omega), if_pos h1, L_mark hP hm hl hq hT hB1 (by omega) (Or.inl rfl) hp2.1, hp2.2, if_neg (by decide), if_neg (by decide), if_neg (by decide), if_neg (fun q => absurd q.1 (by decide)), if_pos ⟨rfl, rfl⟩, L_part hP hm hl hq hT hB1 hk (by omega), if_neg h3]
        exact (if_neg Bool.false_ne_true).symm
    · rw [if_neg h2]
      refine ⟨_, 5, fun _ => ⟨hS1, Or.inl rfl, fun _ => Bool.eq_false_iff.mpr h2⟩, fun Q => ?_⟩
      rw [L_work hP hm hl hq hT hA1 hk (by omega), if_pos h1, if_pos rfl]
  · rw [if_neg h1]
    refine ⟨adS S k (nI (ch p - 48)), 5, fun h => absurd h Bool.false_ne_true, fun Q => ?_⟩
    rw [L_work hP hm hl hq hT hA1 hk (by omega), if_neg h1]
    exact (if_neg Bool.false_ne_true).symm
theorem stR_no {p : Nat} (h : ¬ dgB ch L p 0 4 = true) : stR ch L p = (false, p, m1, m1, m6) := by
  unfold stR
  rw [if_neg h]
/-- a step behind a comma -/
theorem L_nstep (hP : IsPad D) (hm : PadM m L ch) (hl : (D 766).2.2 4 = some q) (hq : 769 ≤ q) (hT : IsT D q) {S T : Nat → Int32} {k p : Nat} {w : Int32} (hS : ThS S k w T) (hk : k < 4) (hp : p ≤ L) :
    ∃ S' pl, ((stR ch L p).1 = true → ThS S' (k + 1) w (setT T k (stR ch L p)) ∧ (pl = 5 ∨ pl = 6) ∧ (pl = 5 → isB ch L (stR ch L p).2.1 112 = false)) ∧
      ∀ Q, Runs MX3_readThings 9 [.ref 766, .int (nI 1), .int (nI p)] [] D (tB m q S) z Q = if (stR ch L p).1 = true then Runs MX3_readThings 9 [.ref 766, .int (nI pl), .int (nI (stR ch L p).2.1)] [] D (tB m q S') z Q else Q (.int (nI (stR ch L p).2.1)) D (tB m q S') z := by
  by_cases hd : dgB ch L p 0 4 = true
  · obtain ⟨S', pl, h1, h2⟩ := L_rest (z := z) hP hm hl hq hT hS hk hd
    refine ⟨S', pl, h1, fun Q => ?_⟩
    rw [L_step hP hm hl hq hT hS.1.2.1 hk hp, if_pos hd, h2]
  · rw [stR_no hd]
    refine ⟨S, 5, fun h => absurd h Bool.false_ne_true, fun Q => ?_⟩
    rw [L_step hP hm hl hq hT hS.1.2.1 hk hp, if_neg hd]
    exact (if_neg Bool.false_ne_true).symm
theorem L_steps (hP : IsPad D) (hm : PadM m L ch) (hl : (D 766).2.2 4 = some q) (hq : 769 ≤ q) (hT : IsT D q) {w : Int32} : ∀ (n p k : Nat) (S T : Nat → Int32) (pl : Nat), k + n = 4 → p ≤ L → ThS S k w T → (pl = 5 ∨ pl = 6) → (pl = 5 → isB ch L p 112 = false) →
    ∃ S' pl', ((thL ch L n p k T).1 = true → ThS S' (thL ch L n p k T).2.2.1 w (thL ch L n p k T).2.2.2 ∧ (pl' = 5 ∨ pl' = 6) ∧ (pl' = 5 → isB ch L (thL ch L n p k T).2.1 112 = false) ∧ (isB ch L (thL ch L n p k T).2.1 44 = true → (thL ch L n p k T).2.2.1 = 4)) ∧
      ∀ Q, Runs MX3_readThings 9 [.ref 766, .int (nI pl), .int (nI p)] [] D (tB m q S) z Q = if (thL ch L n p k T).1 = true then Runs MX3_readThings 9 [.ref 766, .int (nI pl'), .int (nI (thL ch L n p k T).2.1)] [] D (tB m q S') z Q else Q (.int (nI (thL ch L n p k T).2.1)) D (tB m q S') z := by
  intro n
  induction n with
  | zero =>
    intro p k S T pl hk hp hS h5 h6
    refine ⟨S, pl, fun _ => ⟨hS, h5, h6, fun _ => by show k = 4; omega⟩, fun Q => ?_⟩
    simp only [thL, if_true]
  | succ n ih =>
    intro p k S T pl hk hp hS h5 h6
    by_cases hc : isB ch L p 44 = true
    · have hc2 := isB_lt hc
      have mk : ∀ Q, Runs MX3_readThings 9 [.ref 766, .int (nI pl), .int (nI p)] [] D (tB m q S) z Q = Runs MX3_readThings 9 [.ref 766, .int (nI 1), .int (nI (p + 1))] [] D (tB m q S) z Q := fun Q => by
        rw [L_mark hP hm hl hq hT hS.1.2.1 (by omega) (by omega) hc2.1, hc2.2, if_neg (by decide), if_neg (by omega), if_neg (by decide), if_pos ⟨rfl, by omega⟩]
      obtain ⟨S1, pl1, a1, a2⟩ := L_nstep (z := z) hP hm hl hq hT hS (by omega) (p := p + 1) (by omega)
      have hle := stR_le (ch := ch) (L := L) (p := p + 1) (by omega)
      simp only [thL, if_pos hc]
      by_cases hs : (stR ch L (p + 1)).1 = true
      · obtain ⟨b1, b2, b3⟩ := a1 hs
        obtain ⟨S2, pl2, c1, c2⟩ := ih (stR ch L (p + 1)).2.1 (k + 1) S1 _ pl1 (by omega) hle.2.1 b1 b2 b3
        simp only [if_pos hs]
        refine ⟨S2, pl2, c1, fun Q => ?_⟩
        rw [mk, a2, if_pos hs, c2]
      · simp only [if_neg hs]
        refine ⟨S1, pl1, fun h => absurd h Bool.false_ne_true, fun Q => ?_⟩
        rw [mk, a2, if_neg hs]
        exact (if_neg Bool.false_ne_true).symm
    · simp only [thL, if_neg hc]
      exact ⟨S, pl, fun _ => ⟨hS, h5, h6, fun h => absurd h hc⟩, fun Q => by rw [if_pos trivial]⟩
theorem L_fin {Q : Value → vDD → vMM → vZZ → Prop} (hP : IsPad D) (hm : PadM m L ch) (hl : (D 766).2.2 4 = some q) (hq : 769 ≤ q) (hT : IsT D q) {S : Nat → Int32} {k p pl : Nat} (h1 : S 1 = nI k) (hk : k ≤ 4) (hpl : pl = 5 ∨ pl = 6 ∨ pl = 7) (h33 : pl ≠ 7 → isB ch L p 33 = false) (h44 : pl ≠ 7 → isB ch L p 44 = true → k = 4) (h112 : pl = 5 → isB ch L p 112 = false) (hp : p ≤ L) :
    Runs MX3_readThings 9 [.ref 766, .int (nI pl), .int (nI p)] [] D (tB m q S) z Q = if p = L then Q (.int m6) D (tB m q S) z else if isB ch L p 59 = true then Runs MX3_readThings 9 [.ref 766, .int (nI 0), .int (nI (p + 1))] [] D (tB m q S) z Q else Q (.int (nI p)) D (tB m q S) z := by
  by_cases e : p = L
  · subst e
    rw [if_pos rfl, s_end hP (hm.tB hq) (by omega), if_pos (by omega)]
  · have hi : p < L := by omega
    rw [if_neg e, L_mark hP hm hl hq hT h1 hk hpl hi]
    rw [isB_at hi] at h33 h44 h112 ⊢
    by_cases c1 : ch p = 59
    · rw [if_pos c1, if_pos (decide_eq_true c1)]
    · have cd : ¬ decide (ch p = 59) = true := by rw [decide_eq_true_eq]; exact c1
      rw [if_neg c1, if_neg cd]
      by_cases p7 : pl = 7
      · rw [if_pos p7]
      · rw [if_neg p7, if_neg (of_decide_eq_false (h33 p7)), if_neg (fun q => by have := h44 p7 (decide_eq_true q.1); omega), if_neg (fun q => of_decide_eq_false (h112 q.2) q.1)]
theorem thR_no {p : Nat} {T : Nat → Int32} (h : ¬ (stR ch L p).1 = true) : (thR ch L p T).1 = false ∧ (thR ch L p T).2.1 = (stR ch L p).2.1 := by
  unfold thR
  rw [if_neg h]
  unfold wkR
  exact ⟨rfl, rfl⟩
/-- a thing -/
theorem L_one (hP : IsPad D) (hm : PadM m L ch) {n p : Nat} (hn : m 766 3 = nI n) (hn2 : p < L → n < 20) (hp : p ≤ L) (T : Nat → Int32) : ∃ D' m', (D' = D ∨ D' = upR D 766 4 (some (769 + 4 * n))) ∧ (∀ a, a ≠ 766 → (a < 769 + 4 * n ∨ 849 ≤ a ∨ 769 + 4 * n + 4 ≤ a) → m' a = m a) ∧ m' 766 2 = m 766 2 ∧
    ((thR ch L p T).1 = true → m' 766 3 = nI (n + 1) ∧ ∃ S, RdT m' (769 + 4 * n) S ∧ ThS S (thR ch L p T).2.2.1 (thR ch L p T).2.2.2.1 (thR ch L p T).2.2.2.2) ∧
    ∀ Q, Runs MX3_readThings 9 [.ref 766, .int (nI 0), .int (nI p)] [] D m z Q = if (thR ch L p T).1 = true then (if (thR ch L p T).2.1 = L then Q (.int m6) D' m' z else if isB ch L (thR ch L p T).2.1 59 = true then Runs MX3_readThings 9 [.ref 766, .int (nI 0), .int (nI ((thR ch L p T).2.1 + 1))] [] D' m' z Q else Q (.int (nI (thR ch L p T).2.1)) D' m' z) else Q (.int (nI (thR ch L p T).2.1)) D' m' z := by
  by_cases hd : dgB ch L p 0 4 = true
  · have hpL := (dgB_lt hd).1
    have hn20 := hn2 hpL
    have hq : 769 ≤ 769 + 4 * n := by omega
    have hP2 : IsPad (upR D 766 4 (some (769 + 4 * n))) := hP.lat
    have hl2 : (upR D 766 4 (some (769 + 4 * n)) 766).2.2 4 = some (769 + 4 * n) := upR_e
    have hT2 : IsT (upR D 766 4 (some (769 + 4 * n))) (769 + 4 * n) := hP2.2.2.2 n hn20
    have hm2 : PadM (up2 m 766 3 (nI (n + 1))) L ch := hm.cong (by rw [up2_eq, upd_ne _ _ (by decide)]) (by rw [up2_ne (by decide)])
    have fr : ∀ (S : Nat → Int32) a, a ≠ 766 → (a < 769 + 4 * n ∨ 849 ≤ a ∨ 769 + 4 * n + 4 ≤ a) → tB (up2 m 766 3 (nI (n + 1))) (769 + 4 * n) S a = m a := fun S a h1 h2 => by rw [tB_o (by omega), up2_ne h1]
    have f2 : ∀ S : Nat → Int32, tB (up2 m 766 3 (nI (n + 1))) (769 + 4 * n) S 766 2 = m 766 2 := fun S => by rw [tB_o (by omega), up2_eq, upd_ne _ _ (by decide)]
    have f3 : ∀ S : Nat → Int32, tB (up2 m 766 3 (nI (n + 1))) (769 + 4 * n) S 766 3 = nI (n + 1) := fun S => by rw [tB_o (by omega), up2_eq, upd_eq]
    have e0 := fun Q => L_thing (D := D) (m := m) (z := z) (Q := Q) hP hm hn hn2 hp
    simp only [if_pos hd] at e0
    unfold neS at e0
    have hS0 : ThS (upd (upd (upd (upd (upd (upd (rdS m (769 + 4 * n)) 1 (nI 0)) 2 (nI 0)) 4 (nI 0)) 5 (nI 0)) 0 (nI 0)) 3 (nI 0)) 0 (nI 0) T := by
      refine ⟨⟨?_, ?_, ?_, ?_, ?_, ?_⟩, fun j hj => by omega⟩
      · rw [upd_ne _ _ (by decide), upd_eq]
      · rw [upd_ne _ _ (by decide), upd_ne _ _ (by decide), upd_ne _ _ (by decide), upd_ne _ _ (by decide), upd_ne _ _ (by decide), upd_eq]
      · rw [upd_ne _ _ (by decide), upd_ne _ _ (by decide), upd_ne _ _ (by decide), upd_ne _ _ (by decide), upd_eq]
      · rw [upd_eq]
      · rw [upd_ne _ _ (by decide), upd_ne _ _ (by decide), upd_ne _ _ (by decide), upd_eq]
      · rw [upd_ne _ _ (by decide), upd_ne _ _ (by decide), upd_eq]
    generalize upd (upd (upd (upd (upd (upd (rdS m (769 + 4 * n)) 1 (nI 0)) 2 (nI 0)) 4 (nI 0)) 5 (nI 0)) 0 (nI 0)) 3 (nI 0) = S0 at e0 hS0
    obtain ⟨S1, pl1, a1, a2⟩ := L_rest (z := z) hP2 hm2 hl2 hq hT2 hS0 (by decide) hd
    have hle := stR_le (ch := ch) hp
    by_cases hs : (stR ch L p).1 = true
    · obtain ⟨b1, b2, b3⟩ := a1 hs
      obtain ⟨S2, pl2, c1, c2⟩ := L_steps (z := z) hP2 hm2 hl2 hq hT2 3 (stR ch L p).2.1 1 S1 _ pl1 (by decide) hle.2.1 b1 b2 b3
      have hle2 := thL_le (ch := ch) 3 (stR ch L p).2.1 1 (setT T 0 (stR ch L p)) hle.2.1
      have e1 : ∀ Q, Runs MX3_readThings 9 [.ref 766, .int (nI 0), .int (nI p)] [] D m z Q = _ := fun Q => by rw [e0, a2, if_pos hs, c2]
      unfold thR
      simp only [if_pos hs] at e1 ⊢
      generalize thL ch L 3 (stR ch L p).2.1 1 (setT T 0 (stR ch L p)) = r at c1 hle2 e1 ⊢
      obtain ⟨r1, r2, r3, r4⟩ := r
      simp only [] at c1 hle2 e1 ⊢
      unfold wkR
      cases r1
      · refine ⟨_, tB (up2 m 766 3 (nI (n + 1))) (769 + 4 * n) S2, Or.inr rfl, fr S2, f2 S2, fun h => absurd h Bool.false_ne_true, fun Q => ?_⟩
        rw [e1, if_neg (by decide)]
        rfl
      · obtain ⟨d1, d2, d3, d4⟩ := c1 rfl
        simp only [if_true] at e1 ⊢
        by_cases h33 : isB ch L r2 33 = true
        · have h33' := isB_lt h33
          have mk : ∀ Q, Runs MX3_readThings 9 [.ref 766, .int (nI pl2), .int (nI r2)] [] (upR D 766 4 (some (769 + 4 * n))) (tB (up2 m 766 3 (nI (n + 1))) (769 + 4 * n) S2) z Q = Runs MX3_readThings 9 [.ref 766, .int (nI 4), .int (nI (r2 + 1))] [] (upR D 766 4 (some (769 + 4 * n))) (tB (up2 m 766 3 (nI (n + 1))) (769 + 4 * n) S2) z Q := fun Q => by
            rw [L_mark hP2 hm2 hl2 hq hT2 d1.1.2.1 (by omega) (by omega) h33'.1, h33'.2, if_neg (by decide), if_neg (by omega), if_pos rfl]
          simp only [if_pos h33]
          by_cases hw : dgB ch L (r2 + 1) 0 3 = true
          · have hw' := (dgB_lt hw).1
            simp only [if_pos hw]
            refine ⟨_, tB (up2 m 766 3 (nI (n + 1))) (769 + 4 * n) (upd S2 5 (nI (ch (r2 + 1) - 48))), Or.inr rfl, fr _, f2 _, fun _ => ⟨f3 _, _, RdT.tB, d1.wk⟩, fun Q => ?_⟩
            rw [e1, mk, L_weak hP2 hm2 hl2 hq hT2 (by omega), if_pos hw, if_pos trivial]
            exact L_fin hP2 hm2 hl2 hq hT2 (k := r3) (d1.wk (w' := nI (ch (r2 + 1) - 48))).1.2.1 (by omega) (Or.inr (Or.inr rfl)) (fun h => absurd rfl h) (fun h => absurd rfl h) (fun h => absurd h (by decide)) (by omega)
          · simp only [if_neg hw]
            refine ⟨_, tB (up2 m 766 3 (nI (n + 1))) (769 + 4 * n) S2, Or.inr rfl, fr S2, f2 S2, fun h => absurd h Bool.false_ne_true, fun Q => ?_⟩
            rw [e1, mk, L_weak hP2 hm2 hl2 hq hT2 (by omega), if_neg hw]
            exact (if_neg Bool.false_ne_true).symm
        · simp only [if_neg h33]
          refine ⟨_, tB (up2 m 766 3 (nI (n + 1))) (769 + 4 * n) S2, Or.inr rfl, fr S2, f2 S2, fun _ => ⟨f3 _, S2, RdT.tB, d1⟩, fun Q => ?_⟩
          rw [e1, if_pos trivial]
          exact L_fin hP2 hm2 hl2 hq hT2 (k := r3) d1.1.2.1 (by omega) (by omega) (fun _ => Bool.eq_false_iff.mpr h33) (fun _ => d4) d3 hle2.2.1
    · have hno := thR_no (T := T) hs
      rw [hno.1, hno.2]
      refine ⟨_, tB (up2 m 766 3 (nI (n + 1))) (769 + 4 * n) S1, Or.inr rfl, fr S1, f2 S1, fun h => absurd h Bool.false_ne_true, fun Q => ?_⟩
      rw [e0, a2, if_neg hs]
      exact (if_neg Bool.false_ne_true).symm
  · have hs : ¬ (stR ch L p).1 = true := by rw [stR_no hd]; exact Bool.false_ne_true
    have hno := thR_no (T := T) hs
    rw [stR_no hd] at hno
    rw [hno.1, hno.2]
    refine ⟨D, m, Or.inl rfl, fun _ _ _ => rfl, rfl, fun h => absurd h Bool.false_ne_true, fun Q => ?_⟩
    rw [L_thing hP hm hn hn2 hp, if_neg hd, if_neg (by decide)]
end PADT
