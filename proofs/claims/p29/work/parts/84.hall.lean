/-! one thing more: what the least sum gains -/
section HALL
variable {rw rw' : Nat → Nat → Bool} {w n t : Nat} {a b : Nat → Bool}
theorem mn_le2 : ∀ (n : Nat) (a b : Nat → Bool), (∀ k t, k < n → t < w → rw k t = true → rw' k t = true) → (∀ t, t < w → a t = true → b t = true) → mnR rw w n a ≤ mnR rw' w n b
  | 0, a, b, _, h => cntB_le w h
  | n + 1, a, b, h, h2 => by
    have i1 := mn_le2 n a b (fun k t hk => h k t (by omega)) h2
    have i2 := mn_le2 n (fun t => a t || rw n t) (fun t => b t || rw' n t) (fun k t hk => h k t (by omega)) (fun t ht q => by
      simp only [Bool.or_eq_true] at q ⊢
      rcases q with q | q
      · exact Or.inl (h2 t ht q)
      · exact Or.inr (h n t (by omega) ht q))
    rw [mnR_s, mnR_s]
    omega
theorem mn_mono (h : ∀ t, t < w → a t = true → b t = true) : mnR rw w n a ≤ mnR rw w n b := mn_le2 n a b (fun _ _ _ _ q => q) h
theorem cntB_4 {P R U V : Nat → Bool} : ∀ n, (∀ k, k < n → b2n (U k) + b2n (V k) ≤ b2n (P k) + b2n (R k)) → cntB U n + cntB V n ≤ cntB P n + cntB R n
  | 0, _ => Nat.le_refl _
  | n + 1, h => by
    have i1 := cntB_4 n (fun k hk => h k (by omega))
    have i2 := h n (by omega)
    rw [cntB_s, cntB_s, cntB_s, cntB_s]
    omega
theorem nb_or {G1 G2 : Nat → Bool} : nbF rw (fun k => G1 k || G2 k) n t = (nbF rw G1 n t || nbF rw G2 n t) := by
  rw [Bool.eq_iff_iff, Bool.or_eq_true, nbF_iff, nbF_iff, nbF_iff]
  constructor
  · rintro ⟨k, h1, h2, h3⟩
    rw [Bool.or_eq_true] at h2
    rcases h2 with h2 | h2
    · exact Or.inl ⟨k, h1, h2, h3⟩
    · exact Or.inr ⟨k, h1, h2, h3⟩
  · rintro (⟨k, h1, h2, h3⟩ | ⟨k, h1, h2, h3⟩)
    · exact ⟨k, h1, by rw [h2, Bool.true_or], h3⟩
    · exact ⟨k, h1, by rw [h2, Bool.or_true], h3⟩
theorem nb_and {G1 G2 : Nat → Bool} (h : nbF rw (fun k => G1 k && G2 k) n t = true) : nbF rw G1 n t = true ∧ nbF rw G2 n t = true := by
  obtain ⟨k, h1, h2, h3⟩ := (nbF_iff n).mp h
  rw [Bool.and_eq_true] at h2
  exact ⟨(nbF_iff n).mpr ⟨k, h1, h2.1, h3⟩, (nbF_iff n).mpr ⟨k, h1, h2.2, h3⟩⟩
def noB : Nat → Bool := fun _ => false
theorem mn_join (h1 : mnR rw w n a ≤ mnR rw w n noB) (h2 : mnR rw w n (fun u => u == t) ≤ mnR rw w n noB) : mnR rw w n (fun u => a u || u == t) ≤ mnR rw w n noB := by
  obtain ⟨G1, e1⟩ := mn_at (rw := rw) (w := w) n a
  obtain ⟨G2, e2⟩ := mn_at (rw := rw) (w := w) n (fun u => u == t)
  have l1 := mn_le (rw := rw) (w := w) (G := fun k => G1 k || G2 k) n (fun u => a u || u == t)
  have l2 := mn_le (rw := rw) (w := w) (G := fun k => G1 k && G2 k) n noB
  have c1 := cntB_4 (U := fun u => (a u || u == t) || nbF rw (fun k => G1 k || G2 k) n u) (V := fun u => noB u || nbF rw (fun k => G1 k && G2 k) n u) (P := fun u => a u || nbF rw G1 n u) (R := fun u => u == t || nbF rw G2 n u) w (fun u _ => by
    have q := nb_and (rw := rw) (G1 := G1) (G2 := G2) (n := n) (t := u)
    simp only [nb_or, noB, Bool.false_or]
    cases hh : nbF rw (fun k => G1 k && G2 k) n u
    · cases a u <;> cases u == t <;> cases nbF rw G1 n u <;> cases nbF rw G2 n u <;> decide
    · obtain ⟨q1, q2⟩ := q hh
      rw [q1, q2]
      cases a u <;> cases u == t <;> decide)
  have c2 := cntB_4 (U := fun k => !(G1 k || G2 k)) (V := fun k => !(G1 k && G2 k)) (P := fun k => !G1 k) (R := fun k => !G2 k) n (fun k _ => by
    cases G1 k <;> cases G2 k <;> decide)
  omega
theorem mn_thing (h : mnR rw w n noB < mnR rw w n a) : ∃ t, t < w ∧ a t = true ∧ mnR rw w n noB < mnR rw w n (fun u => u == t) := by
  refine Classical.byContradiction fun q => ?_
  have q' : ∀ t, t < w → a t = true → mnR rw w n (fun u => u == t) ≤ mnR rw w n noB := fun t ht ha => Nat.not_lt.mp fun q2 => q ⟨t, ht, ha, q2⟩
  have key : ∀ j, j ≤ w → mnR rw w n (fun u => a u && decide (u < j)) ≤ mnR rw w n noB := by
    intro j
    induction j with
    | zero =>
      intro _
      exact mn_mono (fun t _ h => by simp at h)
    | succ j ih =>
      intro hj
      have ih := ih (by omega)
      cases ha : a j
      · refine Nat.le_trans (mn_mono (fun t _ h => ?_)) ih
        simp only [Bool.and_eq_true, decide_eq_true_eq] at h ⊢
        refine ⟨h.1, ?_⟩
        rcases Nat.lt_or_ge t j with q | q
        · exact q
        · obtain rfl : t = j := by omega
          rw [ha] at h
          exact absurd h.1 (by decide)
      · refine Nat.le_trans (mn_mono (fun t _ h => ?_)) (mn_join ih (q' j (by omega) ha))
        simp only [Bool.and_eq_true, decide_eq_true_eq, Bool.or_eq_true, beq_iff_eq] at h ⊢
        by_cases e : t = j
        · exact Or.inr e
        · exact Or.inl ⟨h.1, by omega⟩
  have k2 := key w (Nat.le_refl _)
  have k3 : mnR rw w n a ≤ mnR rw w n (fun u => a u && decide (u < w)) := mn_mono (fun t ht h => by simp [h, ht])
  omega
theorem mn_out (ht : t < w) (h : mnR rw w n noB < mnR rw w n (fun u => u == t)) : mnR (fun i u => rw i u && !(u == t)) w n noB = mnR rw w n noB := by
  obtain ⟨G0, e0⟩ := mn_at (rw := rw) (w := w) n noB
  refine mn_is (G := G0) (fun G => ?_) ?_
  · have l1 := mn_le (rw := rw) (w := w) (G := G) n (fun u => u == t)
    have l2 := cntB_out (P := fun u => u == t || nbF rw G n u) (a := t) w ht (by simp)
    have l3 := cntB_le (P := fun u => (u == t || nbF rw G n u) && !(u == t)) (R := fun u => noB u || nbF (fun i u => rw i u && !(u == t)) G n u) w (fun u _ q => by
      simp only [Bool.and_eq_true, Bool.or_eq_true, beq_iff_eq, Bool.not_eq_true', beq_eq_false_iff_ne] at q
      obtain ⟨q1, q2⟩ := q
      rcases q1 with q1 | q1
      · exact absurd q1 q2
      · obtain ⟨k, k1, k2, k3⟩ := (nbF_iff n).mp q1
        simp only [noB, Bool.false_or]
        exact (nbF_iff n).mpr ⟨k, k1, k2, by simp [k3, q2]⟩)
    omega
  · rw [e0]
    refine Nat.add_le_add_right (cntB_le w (fun u _ q => ?_)) _
    simp only [noB, Bool.false_or] at q ⊢
    obtain ⟨k, k1, k2, k3⟩ := (nbF_iff n).mp q
    simp only [Bool.and_eq_true] at k3
    exact (nbF_iff n).mpr ⟨k, k1, k2, k3.1⟩
theorem mn_hall (h : mnR rw w (n + 1) noB = mnR rw w n noB + 1) : ∃ t, t < w ∧ rw n t = true ∧ mnR (fun i u => rw i u && !(u == t)) w n noB = mnR rw w n noB := by
  rw [mnR_s] at h
  have h2 : mnR rw w n noB < mnR rw w n (fun t => noB t || rw n t) := by omega
  obtain ⟨t, ht, hr, h3⟩ := mn_thing h2
  exact ⟨t, ht, by simpa [noB] using hr, mn_out ht h3⟩
theorem mn_step : mnR rw w (n + 1) noB = mnR rw w n noB ∨ mnR rw w (n + 1) noB = mnR rw w n noB + 1 := by
  have h1 : mnR rw w n noB ≤ mnR rw w n (fun t => noB t || rw n t) := mn_mono (fun t _ h => by rw [h, Bool.true_or])
  rw [mnR_s]
  omega
end HALL
/-! sets of things that can be given out to the first fixers, each one thing -/
def bcS (s : Nat) : Nat := cntB (fun t => s.testBit t) 7
def Rc (A : Nat → Nat → Bool) (u : Nat) : Nat → Nat → Prop
  | 0, s => s = u
  | k + 1, s => Rc A u k s ∨ ∃ t c, t < 7 ∧ A k t = true ∧ c.testBit t = false ∧ s = c ||| 2 ^ t ∧ Rc A u k c
def rwU (A : Nat → Nat → Bool) (u : Nat) : Nat → Nat → Bool := fun i t => A i t && !u.testBit t
section RCS
variable {A A' : Nat → Nat → Bool} {u k s c t : Nat}
theorem tb_or {j : Nat} : (c ||| 2 ^ t).testBit j = (c.testBit j || j == t) := by
  rw [Nat.testBit_or, Nat.testBit_two_pow]
  congr 1
  rw [Bool.eq_iff_iff, decide_eq_true_eq, beq_iff_eq]
  exact eq_comm
theorem bcS_or (ht : t < 7) (h : c.testBit t = false) : bcS (c ||| 2 ^ t) = bcS c + 1 := by
  unfold bcS
  rw [cntB_out (a := t) 7 ht (by rw [tb_or, beq_self_eq_true, Bool.or_true])]
  congr 1
  refine cntB_ext 7 (fun j _ => ?_)
  rw [tb_or]
  by_cases e : j = t
  · subst e
    rw [h, beq_self_eq_true]
    rfl
  · rw [beq_eq_false_iff_ne.mpr e, Bool.or_false, Bool.not_false, Bool.and_true]
theorem Rc_sup : ∀ (k s : Nat), Rc A u k s → ∀ j, u.testBit j = true → s.testBit j = true
  | 0, s, h, j, hj => by
    have h : s = u := h
    rw [h]; exact hj
  | k + 1, s, h, j, hj => by
    rcases h with h | ⟨t, c, h1, h2, h3, rfl, h5⟩
    · exact Rc_sup k s h j hj
    · rw [tb_or, Rc_sup k c h5 j hj, Bool.true_or]
theorem Rc_lt (hu : u < 128) : ∀ (k s : Nat), Rc A u k s → s < 128
  | 0, s, h => by
    have h : s = u := h
    rw [h]; exact hu
  | k + 1, s, h => by
    rcases h with h | ⟨t, c, h1, h2, h3, rfl, h5⟩
    · exact Rc_lt hu k s h
    · have hc := Rc_lt hu k c h5
      exact Nat.or_lt_two_pow (n := 7) hc (Nat.pow_lt_pow_right (by decide) h1)
theorem Rc_mono : ∀ (k s : Nat), (∀ i t, i < k → A i t = true → A' i t = true) → Rc A u k s → Rc A' u k s
  | 0, s, _, h => h
  | k + 1, s, hA, h => by
    rcases h with h | ⟨t, c, h1, h2, h3, h4, h5⟩
    · exact Or.inl (Rc_mono k s (fun i t hi => hA i t (by omega)) h)
    · exact Or.inr ⟨t, c, h1, hA k t (by omega) h2, h3, h4, Rc_mono k c (fun i t hi => hA i t (by omega)) h5⟩
theorem Rc_avoid (hu : u.testBit t = false) : ∀ (k s : Nat), (∀ i, i < k → A i t = false) → Rc A u k s → s.testBit t = false
  | 0, s, _, h => by
    have h : s = u := h
    rw [h]; exact hu
  | k + 1, s, hA, h => by
    rcases h with h | ⟨t', c, h1, h2, h3, rfl, h5⟩
    · exact Rc_avoid hu k s (fun i hi => hA i (by omega)) h
    · have hc := Rc_avoid hu k c (fun i hi => hA i (by omega)) h5
      have hne : t ≠ t' := fun e => by
        subst e
        rw [hA k (by omega)] at h2
        exact absurd h2 (by decide)
      rw [tb_or, hc, beq_eq_false_iff_ne.mpr hne]
      rfl
theorem cntB_up {P : Nat → Bool} {n : Nat} : ∀ d, cntB P n ≤ cntB P (n + d)
  | 0 => Nat.le_refl _
  | d + 1 => by
    have := cntB_up (P := P) (n := n) d
    rw [← Nat.add_assoc, cntB_s]
    omega
theorem Rc_le (G : Nat → Bool) : ∀ (k s : Nat), Rc A u k s → bcS s ≤ bcS u + cntB (fun t => s.testBit t && !u.testBit t && nbF (rwU A u) G k t) 7 + cntB (fun i => !G i) k
  | 0, s, h => by
    have h : s = u := h
    rw [h]; omega
  | k + 1, s, h => by
    rcases h with h | ⟨t, c, h1, h2, h3, rfl, h5⟩
    · have ih := Rc_le G k s h
      have e1 : cntB (fun t => s.testBit t && !u.testBit t && nbF (rwU A u) G k t) 7 ≤ cntB (fun t => s.testBit t && !u.testBit t && nbF (rwU A u) G (k + 1) t) 7 := cntB_le 7 (fun j _ q => by
        simp only [Bool.and_eq_true] at q ⊢
        exact ⟨q.1, by rw [nbF_s, q.2, Bool.true_or]⟩)
      rw [cntB_s (fun i => !G i)]
      omega
    · have ih := Rc_le G k c h5
      have ut : u.testBit t = false := by
        rw [Bool.eq_false_iff]
        intro q
        rw [Rc_sup k c h5 t q] at h3
        exact absurd h3 (by decide)
      rw [bcS_or h1 h3, cntB_s (fun i => !G i)]
      cases hG : G k
      · have e1 : cntB (fun t => c.testBit t && !u.testBit t && nbF (rwU A u) G k t) 7 ≤ cntB (fun j => (c ||| 2 ^ t).testBit j && !u.testBit j && nbF (rwU A u) G (k + 1) j) 7 := cntB_le 7 (fun j _ q => by
          simp only [Bool.and_eq_true] at q ⊢
          exact ⟨⟨by rw [tb_or, q.1.1, Bool.true_or], q.1.2⟩, by rw [nbF_s, q.2, Bool.true_or]⟩)
        rw [Bool.not_false, b2n_t]
        omega
      · have e0 := cntB_out (P := fun j => (c ||| 2 ^ t).testBit j && !u.testBit j && nbF (rwU A u) G (k + 1) j) (a := t) 7 h1 (by
          rw [tb_or, beq_self_eq_true, Bool.or_true, ut, nbF_s, hG]
          simp [rwU, h2, ut])
        have e1 : cntB (fun t => c.testBit t && !u.testBit t && nbF (rwU A u) G k t) 7 ≤ cntB (fun j => ((c ||| 2 ^ t).testBit j && !u.testBit j && nbF (rwU A u) G (k + 1) j) && !(j == t)) 7 := cntB_le 7 (fun j _ q => by
          simp only [Bool.and_eq_true] at q ⊢
          refine ⟨⟨⟨by rw [tb_or, q.1.1, Bool.true_or], q.1.2⟩, by rw [nbF_s, q.2, Bool.true_or]⟩, ?_⟩
          have : j ≠ t := fun e => by
            subst e
            rw [h3] at q
            exact absurd q.1.1 (by decide)
          rw [beq_eq_false_iff_ne.mpr this]
          rfl)
        rw [Bool.not_true, b2n_f]
        omega
theorem Rc_ub (h : Rc A u k s) : bcS s ≤ bcS u + mnR (rwU A u) 16 k noB := by
  obtain ⟨G, e⟩ := mn_at (rw := rwU A u) (w := 16) k noB
  have h1 := Rc_le G k s h
  have h2 : cntB (fun t => s.testBit t && !u.testBit t && nbF (rwU A u) G k t) 7 ≤ cntB (fun t => noB t || nbF (rwU A u) G k t) 7 := cntB_le 7 (fun j _ q => by
    simp only [Bool.and_eq_true] at q
    rw [q.2, Bool.or_true])
  have h3 : cntB (fun t => noB t || nbF (rwU A u) G k t) 7 ≤ cntB (fun t => noB t || nbF (rwU A u) G k t) 16 := cntB_up 9
  omega
theorem cntB_no : ∀ n, cntB noB n = 0
  | 0 => rfl
  | n + 1 => by rw [cntB_s, cntB_no n]; rfl
theorem Rc_lb : ∀ (k : Nat) (A : Nat → Nat → Bool), (∀ i t, i < k → A i t = true → t < 7) → ∃ s, Rc A u k s ∧ bcS s = bcS u + mnR (rwU A u) 16 k noB
  | 0, A, _ => ⟨u, rfl, by rw [mnR_0, cntB_no]; rfl⟩
  | k + 1, A, hA => by
    rcases mn_step (rw := rwU A u) (w := 16) (n := k) with e | e
    · obtain ⟨s, h1, h2⟩ := Rc_lb k A (fun i t hi => hA i t (by omega))
      exact ⟨s, Or.inl h1, by rw [e]; exact h2⟩
    · obtain ⟨t, t16, hr, ho⟩ := mn_hall e
      simp only [rwU, Bool.and_eq_true, Bool.not_eq_true'] at hr
      have t7 := hA k t (by omega) hr.1
      obtain ⟨c, h1, h2⟩ := Rc_lb k (fun i v => A i v && !(v == t)) (fun i v hi h => by
        simp only [Bool.and_eq_true] at h
        exact hA i v (by omega) h.1)
      have er : mnR (rwU (fun i v => A i v && !(v == t)) u) 16 k noB = mnR (rwU A u) 16 k noB := by
        rw [← ho]
        refine mn_ext k _ _ (fun i v _ _ => ?_) (fun _ _ => rfl)
        show ((A i v && !(v == t)) && !u.testBit v) = ((A i v && !u.testBit v) && !(v == t))
        cases A i v <;> cases v == t <;> cases u.testBit v <;> rfl
      have ct : c.testBit t = false := Rc_avoid hr.2 k c (fun i _ => by simp) h1
      refine ⟨c ||| 2 ^ t, Or.inr ⟨t, c, t7, hr.1, ct, rfl, Rc_mono k c (fun i v _ h => ?_) h1⟩, ?_⟩
      · simp only [Bool.and_eq_true] at h
        exact h.1
      · rw [bcS_or t7 ct, h2, er, e]
        omega
/-- the most that are given out -/
theorem Rc_most (hu : u < 128) {mo : Nat} (hA : ∀ i t, i < k → A i t = true → t < 7) (h1 : ∀ s, s < 128 → Rc A u k s → bcS s ≤ bcS u + mo) (h2 : mo = 0 ∨ ∃ s, s < 128 ∧ Rc A u k s ∧ bcS s = bcS u + mo) : mo = mnR (rwU A u) 16 k noB := by
  obtain ⟨s, q1, q2⟩ := Rc_lb (u := u) k A hA
  have q3 := h1 s (Rc_lt hu k s q1) q1
  rcases h2 with h2 | ⟨s', a1, a2, a3⟩
  · omega
  · have := Rc_ub a2
    omega
end RCS
