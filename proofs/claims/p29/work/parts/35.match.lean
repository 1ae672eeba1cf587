/-! the fault does not hang on what was told before -/
theorem thL_T {ch : Nat → Nat} {L : Nat} : ∀ (n p k : Nat) (T T' : Nat → Int32), (thL ch L n p k T).1 = (thL ch L n p k T').1 ∧ (thL ch L n p k T).2.1 = (thL ch L n p k T').2.1
  | 0, p, k, T, T' => ⟨rfl, rfl⟩
  | n + 1, p, k, T, T' => by
    unfold thL
    split
    · split
      · exact thL_T n _ _ _ _
      · exact ⟨rfl, rfl⟩
    · exact ⟨rfl, rfl⟩
theorem wkR_T {ch : Nat → Nat} {L : Nat} {q q' : Bool × Nat × Nat × (Nat → Int32)} (h : q.1 = q'.1 ∧ q.2.1 = q'.2.1) : (wkR ch L q).1 = (wkR ch L q').1 ∧ (wkR ch L q).2.1 = (wkR ch L q').2.1 := by
  obtain ⟨b, p, k, T⟩ := q
  obtain ⟨b', p', k', T'⟩ := q'
  obtain ⟨rfl, rfl⟩ := h
  unfold wkR
  simp only []
  split
  · split
    · split <;> exact ⟨rfl, rfl⟩
    · exact ⟨rfl, rfl⟩
  · exact ⟨rfl, rfl⟩
theorem thR_T {ch : Nat → Nat} {L p : Nat} (T T' : Nat → Int32) : (thR ch L p T).1 = (thR ch L p T').1 ∧ (thR ch L p T).2.1 = (thR ch L p T').2.1 := by
  unfold thR
  apply wkR_T
  split
  · exact thL_T 3 _ _ _ _
  · exact ⟨rfl, rfl⟩
theorem ffR_T {ch : Nat → Nat} {L : Nat} : ∀ (n p : Nat) (T T' : Nat → Int32), ffR ch L n p T = ffR ch L n p T'
  | 0, p, T, T' => rfl
  | n + 1, p, T, T' => by
    have h := thR_T (ch := ch) (L := L) (p := p) T T'
    unfold ffR
    rw [h.1, h.2, ffR_T n _ (thR ch L p T).2.2.2.2 (thR ch L p T').2.2.2.2]
/-! counting -/
def b2n : Bool → Nat
  | true => 1
  | false => 0
def cntB (P : Nat → Bool) : Nat → Nat
  | 0 => 0
  | n + 1 => cntB P n + b2n (P n)
theorem cntB_0 (P : Nat → Bool) : cntB P 0 = 0 := rfl
theorem cntB_s (P : Nat → Bool) (n : Nat) : cntB P (n + 1) = cntB P n + b2n (P n) := rfl
theorem b2n_t : b2n true = 1 := rfl
theorem b2n_f : b2n false = 0 := rfl
theorem b2n_le {a b : Bool} (h : a = true → b = true) : b2n a ≤ b2n b := by
  cases a
  · exact Nat.zero_le _
  · rw [h rfl]; exact Nat.le_refl _
theorem cntB_ext {P R : Nat → Bool} : ∀ n, (∀ k, k < n → P k = R k) → cntB P n = cntB R n
  | 0, _ => rfl
  | n + 1, h => by rw [cntB_s, cntB_s, cntB_ext n (fun k hk => h k (by omega)), h n (by omega)]
theorem cntB_le {P R : Nat → Bool} : ∀ n, (∀ k, k < n → P k = true → R k = true) → cntB P n ≤ cntB R n
  | 0, _ => Nat.le_refl _
  | n + 1, h => by
    rw [cntB_s, cntB_s]
    exact Nat.add_le_add (cntB_le n (fun k hk => h k (by omega))) (b2n_le (h n (by omega)))
theorem cntB_n (P : Nat → Bool) : ∀ n, cntB P n ≤ n
  | 0 => Nat.le_refl _
  | n + 1 => by
    have := cntB_n P n
    rw [cntB_s]
    cases P n <;> simp only [b2n_t, b2n_f] <;> omega
/-- one taken out -/
theorem cntB_out {P : Nat → Bool} {a : Nat} : ∀ n, a < n → P a = true → cntB P n = cntB (fun k => P k && !(k == a)) n + 1
  | 0, h, _ => absurd h (Nat.not_lt_zero a)
  | n + 1, h, hp => by
    rw [cntB_s, cntB_s]
    by_cases e : a = n
    · subst e
      have : cntB P a = cntB (fun k => P k && !(k == a)) a := cntB_ext a (fun k hk => by simp [Nat.ne_of_lt hk])
      rw [hp, ← this]
      simp [b2n]
    · have := cntB_out n (by omega) hp
      have e2 : (n == a) = false := by simp [Ne.symm e]
      rw [this, e2, Bool.not_false, Bool.and_true]
      omega
theorem cntB_inj {k : Nat} : ∀ (n : Nat) (P R : Nat → Bool) (g : Nat → Nat), (∀ t, t < n → P t = true → g t < k ∧ R (g t) = true) → (∀ t u, t < n → u < n → P t = true → P u = true → g t = g u → t = u) → cntB P n ≤ cntB R k
  | 0, _, _, _, _, _ => Nat.zero_le _
  | n + 1, P, R, g, h, hi => by
    rw [cntB_s]
    cases q : P n
    · rw [b2n_f]
      have := cntB_inj n P R g (fun t ht => h t (by omega)) (fun t u ht hu => hi t u (by omega) (by omega))
      omega
    · rw [b2n_t, cntB_out k (h n (by omega) q).1 (h n (by omega) q).2]
      have := cntB_inj n P (fun k => R k && !(k == g n)) g (fun t ht hp => ⟨(h t (by omega) hp).1, by
        have h1 := (h t (by omega) hp).2
        have h2 : ¬ g t = g n := fun e => by have := hi t n (by omega) (by omega) hp q e; omega
        simp [h1, h2]⟩) (fun t u ht hu => hi t u (by omega) (by omega))
      omega
theorem cntB_not (P : Nat → Bool) : ∀ n, cntB P n + cntB (fun k => !P k) n = n
  | 0 => rfl
  | n + 1 => by
    have := cntB_not P n
    rw [cntB_s, cntB_s]
    cases P n <;> simp only [b2n_t, b2n_f, Bool.not_true, Bool.not_false] <;> omega
theorem cntB_or {P R S : Nat → Bool} : ∀ n, (∀ k, k < n → P k = true → R k = false) → (∀ k, k < n → P k = true → S k = true) → (∀ k, k < n → R k = true → S k = true) → cntB P n + cntB R n ≤ cntB S n
  | 0, _, _, _ => Nat.le_refl _
  | n + 1, h1, h2, h3 => by
    have ih := cntB_or (P := P) (R := R) (S := S) n (fun k hk => h1 k (by omega)) (fun k hk => h2 k (by omega)) (fun k hk => h3 k (by omega))
    have a1 := h1 n (by omega)
    have a2 := h2 n (by omega)
    have a3 := h3 n (by omega)
    rw [cntB_s, cntB_s, cntB_s]
    cases hP : P n
    · cases hR : R n
      · simp only [b2n_f]; omega
      · rw [a3 hR]; simp only [b2n_f, b2n_t]; omega
    · rw [a1 hP, a2 hP]; simp only [b2n_f, b2n_t]; omega
theorem cntB_sum {P R : Nat → Bool} : ∀ n, cntB P n ≤ cntB (fun k => P k && R k) n + cntB (fun k => !R k) n
  | 0 => Nat.le_refl _
  | n + 1 => by
    have ih := cntB_sum (P := P) (R := R) n
    rw [cntB_s, cntB_s, cntB_s]
    cases P n <;> cases R n <;> simp only [b2n_t, b2n_f, Bool.not_true, Bool.not_false, Bool.and_true, Bool.and_false] <;> omega
/-! the least sum, over all groups, of what the group can take (of w things) and of those outside -/
def mnR (rw : Nat → Nat → Bool) (w : Nat) : Nat → (Nat → Bool) → Nat
  | 0, a => cntB a w
  | n + 1, a => min (mnR rw w n a + 1) (mnR rw w n (fun t => a t || rw n t))
theorem mnR_0 {rw : Nat → Nat → Bool} {w : Nat} {a : Nat → Bool} : mnR rw w 0 a = cntB a w := rfl
theorem mnR_s {rw : Nat → Nat → Bool} {w n : Nat} {a : Nat → Bool} : mnR rw w (n + 1) a = min (mnR rw w n a + 1) (mnR rw w n (fun t => a t || rw n t)) := rfl
def nbF (rw : Nat → Nat → Bool) (G : Nat → Bool) : Nat → Nat → Bool
  | 0, _ => false
  | n + 1, t => nbF rw G n t || (G n && rw n t)
theorem nbF_0 {rw : Nat → Nat → Bool} {G : Nat → Bool} {t : Nat} : nbF rw G 0 t = false := rfl
theorem nbF_s {rw : Nat → Nat → Bool} {G : Nat → Bool} {n t : Nat} : nbF rw G (n + 1) t = (nbF rw G n t || (G n && rw n t)) := rfl
theorem nbF_iff {rw : Nat → Nat → Bool} {G : Nat → Bool} {t : Nat} : ∀ n, nbF rw G n t = true ↔ ∃ k, k < n ∧ G k = true ∧ rw k t = true
  | 0 => by simp [nbF]
  | n + 1 => by
    simp only [nbF_s, Bool.or_eq_true, Bool.and_eq_true, nbF_iff n]
    constructor
    · rintro (⟨k, h1, h2⟩ | h)
      · exact ⟨k, by omega, h2⟩
      · exact ⟨n, by omega, h⟩
    · rintro ⟨k, h1, h2⟩
      by_cases e : k = n
      · subst e; exact Or.inr h2
      · exact Or.inl ⟨k, by omega, h2⟩
theorem nbF_ext {rw : Nat → Nat → Bool} {G G' : Nat → Bool} {t : Nat} : ∀ n, (∀ k, k < n → G k = G' k) → nbF rw G n t = nbF rw G' n t
  | 0, _ => rfl
  | n + 1, h => by rw [nbF_s, nbF_s, nbF_ext n (fun k hk => h k (by omega)), h n (by omega)]
theorem mn_le {rw : Nat → Nat → Bool} {w : Nat} {G : Nat → Bool} : ∀ (n : Nat) (a : Nat → Bool), mnR rw w n a ≤ cntB (fun t => a t || nbF rw G n t) w + cntB (fun k => !G k) n
  | 0, a => by
    rw [mnR_0, cntB_0, Nat.add_zero]
    exact cntB_le w (fun k _ h => by simp [h])
  | n + 1, a => by
    have h1 := mn_le (rw := rw) (w := w) (G := G) n a
    have h2 := mn_le (rw := rw) (w := w) (G := G) n (fun t => a t || rw n t)
    rw [mnR_s, cntB_s (fun k => !G k)]
    cases hG : G n
    · have e2 : cntB (fun t => a t || nbF rw G (n + 1) t) w = cntB (fun t => a t || nbF rw G n t) w := cntB_ext w (fun k _ => by simp [nbF_s, hG])
      rw [e2, Bool.not_false, b2n_t]
      omega
    · have e2 : cntB (fun t => a t || nbF rw G (n + 1) t) w = cntB (fun t => a t || rw n t || nbF rw G n t) w := cntB_ext w (fun k _ => by rw [nbF_s, hG]; cases a k <;> cases rw n k <;> cases nbF rw G n k <;> rfl)
      rw [e2, Bool.not_true, b2n_f]
      omega
theorem mn_at {rw : Nat → Nat → Bool} {w : Nat} : ∀ (n : Nat) (a : Nat → Bool), ∃ G : Nat → Bool, mnR rw w n a = cntB (fun t => a t || nbF rw G n t) w + cntB (fun k => !G k) n
  | 0, a => ⟨fun _ => false, by
    rw [mnR_0, cntB_0, Nat.add_zero]
    exact cntB_ext w (fun k _ => by simp [nbF_0])⟩
  | n + 1, a => by
    by_cases h : mnR rw w n a + 1 ≤ mnR rw w n (fun t => a t || rw n t)
    · obtain ⟨G, hG⟩ := mn_at (rw := rw) (w := w) n a
      refine ⟨fun k => G k && !(k == n), ?_⟩
      have e1 : cntB (fun k => !(G k && !(k == n))) n = cntB (fun k => !G k) n := cntB_ext n (fun k hk => by simp [Nat.ne_of_lt hk])
      have e2 : cntB (fun t => a t || nbF rw (fun k => G k && !(k == n)) (n + 1) t) w = cntB (fun t => a t || nbF rw G n t) w := cntB_ext w (fun t _ => by
        rw [nbF_s, nbF_ext (G' := G) n (fun k hk => by simp [Nat.ne_of_lt hk])]
        simp)
      have e3 : b2n (!(G n && !(n == n))) = 1 := by simp [b2n]
      rw [mnR_s, cntB_s, e1, e2, e3]
      omega
    · obtain ⟨G, hG⟩ := mn_at (rw := rw) (w := w) n (fun t => a t || rw n t)
      refine ⟨fun k => G k || (k == n), ?_⟩
      have e1 : cntB (fun k => !(G k || (k == n))) n = cntB (fun k => !G k) n := cntB_ext n (fun k hk => by simp [Nat.ne_of_lt hk])
      have e2 : cntB (fun t => a t || nbF rw (fun k => G k || (k == n)) (n + 1) t) w = cntB (fun t => a t || rw n t || nbF rw G n t) w := cntB_ext w (fun t _ => by
        rw [nbF_s, nbF_ext (G' := G) n (fun k hk => by simp [Nat.ne_of_lt hk]), beq_self_eq_true, Bool.or_true, Bool.true_and]
        cases a t <;> cases rw n t <;> cases nbF rw G n t <;> rfl)
      have e3 : b2n (!(G n || (n == n))) = 0 := by simp [b2n]
      rw [mnR_s, cntB_s, e1, e2, e3]
      omega
/-- the least sum is v, if v is at most every sum, and one of them -/
theorem mn_is {rw : Nat → Nat → Bool} {w n v : Nat} {a G : Nat → Bool} (h1 : ∀ G : Nat → Bool, v ≤ cntB (fun t => a t || nbF rw G n t) w + cntB (fun k => !G k) n) (h2 : cntB (fun t => a t || nbF rw G n t) w + cntB (fun k => !G k) n ≤ v) : mnR rw w n a = v := by
  have h3 := mn_le (rw := rw) (w := w) (G := G) n a
  obtain ⟨G', h4⟩ := mn_at (rw := rw) (w := w) n a
  have h5 := h1 G'
  omega
theorem mn_ext {rw rw' : Nat → Nat → Bool} {w : Nat} : ∀ (n : Nat) (a b : Nat → Bool), (∀ k t, k < n → t < w → rw k t = rw' k t) → (∀ t, t < w → a t = b t) → mnR rw w n a = mnR rw' w n b
  | 0, a, b, _, h => cntB_ext w h
  | n + 1, a, b, h, h2 => by
    rw [mnR_s, mnR_s, mn_ext n a b (fun k t hk => h k t (by omega)) h2, mn_ext n (fun t => a t || rw n t) (fun t => b t || rw' n t) (fun k t hk => h k t (by omega)) (fun t ht => by rw [h2 t ht, h n t (by omega) ht])]
/-- who can take nothing counts for nothing -/
theorem mn_none {rw : Nat → Nat → Bool} {w n : Nat} {a : Nat → Bool} (h : ∀ t, t < w → rw n t = false) : mnR rw w (n + 1) a = mnR rw w n a := by
  have : mnR rw w n (fun t => a t || rw n t) = mnR rw w n a := mn_ext n _ _ (fun _ _ _ _ => rfl) (fun t ht => by rw [h t ht, Bool.or_false])
  rw [mnR_s, this]
  omega
theorem mn_nones {rw : Nat → Nat → Bool} {w n : Nat} {a : Nat → Bool} : ∀ k, (∀ i t, n ≤ i → i < n + k → t < w → rw i t = false) → mnR rw w (n + k) a = mnR rw w n a
  | 0, _ => rfl
  | k + 1, h => by
    rw [← Nat.add_assoc, mn_none (fun t ht => h (n + k) t (by omega) (by omega) ht), mn_nones k (fun i t h1 h2 => h i t h1 (by omega))]
/-- those below can take nothing: the others alone -/
theorem mn_off {rw : Nat → Nat → Bool} {w s : Nat} (h : ∀ i t, i < s → t < w → rw i t = false) : ∀ (n : Nat) (a : Nat → Bool), mnR rw w (s + n) a = mnR (fun i => rw (s + i)) w n a
  | 0, a => by
    have := mn_nones (rw := rw) (w := w) (n := 0) (a := a) s (fun i t _ h2 => h i t (by omega))
    rw [Nat.zero_add] at this
    exact this
  | n + 1, a => by
    rw [← Nat.add_assoc, mnR_s, mnR_s, mn_off h n a, mn_off h n]
