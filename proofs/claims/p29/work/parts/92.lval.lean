/-! how many the plan serves; the best skill, the best part -/
section ROT
variable {rw : Nat → Nat → Bool} {w n : Nat}
/-- the first row behind the others -/
def rotR (rw : Nat → Nat → Bool) (n : Nat) : Nat → Nat → Bool := fun k t => if k < n then rw (k + 1) t else rw 0 t
theorem cntB_first (P : Nat → Bool) : ∀ n, cntB P (n + 1) = b2n (P 0) + cntB (fun k => P (k + 1)) n
  | 0 => by
    rw [cntB_s, cntB_0, cntB_0, Nat.zero_add, Nat.add_zero]
  | n + 1 => by
    have ih := cntB_first P n
    rw [cntB_s, ih, cntB_s]
    omega
theorem mn_rot : mnR (rotR rw n) w (n + 1) noB = mnR rw w (n + 1) noB := by
  have key : ∀ G G' : Nat → Bool, (∀ k, k < n → G' k = G (k + 1)) → G' n = G 0 → cntB (fun t => noB t || nbF rw G (n + 1) t) w + cntB (fun k => !G k) (n + 1) = cntB (fun t => noB t || nbF (rotR rw n) G' (n + 1) t) w + cntB (fun k => !G' k) (n + 1) := by
    intro G G' h1 h2
    have e1 : cntB (fun t => noB t || nbF rw G (n + 1) t) w = cntB (fun t => noB t || nbF (rotR rw n) G' (n + 1) t) w := cntB_ext w (fun t _ => by
      congr 1
      rw [Bool.eq_iff_iff, nbF_iff, nbF_iff]
      constructor
      · rintro ⟨k, k1, k2, k3⟩
        cases k with
        | zero => exact ⟨n, by omega, by rw [h2]; exact k2, by unfold rotR; rw [if_neg (by omega)]; exact k3⟩
        | succ k => exact ⟨k, by omega, by rw [h1 k (by omega)]; exact k2, by unfold rotR; rw [if_pos (by omega)]; exact k3⟩
      · rintro ⟨k, k1, k2, k3⟩
        unfold rotR at k3
        by_cases e : k < n
        · rw [if_pos e] at k3
          exact ⟨k + 1, by omega, by rw [← h1 k e]; exact k2, k3⟩
        · rw [if_neg e] at k3
          obtain rfl : k = n := by omega
          exact ⟨0, by omega, by rw [← h2]; exact k2, k3⟩)
    have e2 : cntB (fun k => !G k) (n + 1) = cntB (fun k => !G' k) (n + 1) := by
      rw [cntB_first (fun k => !G k), cntB_s (fun k => !G' k), h2, cntB_ext (P := fun k => !G' k) (R := fun k => !G (k + 1)) n (fun k hk => by rw [h1 k hk])]
      omega
    rw [e1, e2]
  obtain ⟨G0, e0⟩ := mn_at (rw := rw) (w := w) (n + 1) noB
  refine mn_is (G := fun k => if k < n then G0 (k + 1) else G0 0) (fun G => ?_) ?_
  · have h := key (fun k => if k = 0 then G n else G (k - 1)) G (fun k _ => by simp) (by simp)
    rw [← h]
    exact mn_le (n + 1) noB
  · rw [e0, key G0 (fun k => if k < n then G0 (k + 1) else G0 0) (fun k hk => by rw [if_pos hk]) (by rw [if_neg (by omega)])]
    exact Nat.le_refl _
end ROT
section GRE
variable {A : Nat → Nat → Bool} {n g : Nat} {S : Nat → Bool}
theorem beh_split (hg : g < n) : behF A n g S = mnR (fun i t => A (g + i) t && S t) 16 ((n - (g + 1)) + 1) noB ∧ behF A n (g + 1) S = mnR (rotR (fun i t => A (g + i) t && S t) (n - (g + 1))) 16 (n - (g + 1)) noB := by
  constructor
  · unfold behF svF
    rw [(by omega : n - g = (n - (g + 1)) + 1)]
    rfl
  · unfold behF svF
    refine mn_ext _ _ _ (fun k t hk _ => ?_) (fun _ _ => rfl)
    show (A (g + 1 + k) t && S t) = (if k < n - (g + 1) then (A (g + (k + 1)) t && S t) else _)
    rw [if_pos hk, (by omega : g + 1 + k = g + (k + 1))]
/-- a fixer who gets nothing is not missed, or a thing serves -/
theorem beh_hall (hg : g < n) : behF A n (g + 1) S = behF A n g S ∨ ∃ t, t < 16 ∧ A g t = true ∧ S t = true ∧ 1 + behF A n (g + 1) (fun u => S u && !(u == t)) = behF A n g S := by
  obtain ⟨e1, e2⟩ := beh_split (A := A) (S := S) hg
  have er := mn_rot (rw := fun i t => A (g + i) t && S t) (w := 16) (n := n - (g + 1))
  rcases mn_step (rw := rotR (fun i t => A (g + i) t && S t) (n - (g + 1))) (w := 16) (n := n - (g + 1)) with h | h
  · left
    rw [e1, e2, ← er, h]
  · right
    obtain ⟨t, ht, hr, ho⟩ := mn_hall h
    unfold rotR at hr
    rw [if_neg (by omega)] at hr
    simp only [Nat.add_zero, Bool.and_eq_true] at hr
    refine ⟨t, ht, hr.1, hr.2, ?_⟩
    have e3 := (beh_split (A := A) (S := fun u => S u && !(u == t)) hg).2
    rw [e1, e3, ← er, h, ← ho, Nat.add_comm]
    congr 1
    refine mn_ext _ _ _ (fun k v hk _ => ?_) (fun _ _ => rfl)
    unfold rotR
    rw [if_pos hk, if_pos hk, Bool.and_assoc]
theorem low_none {need : Int32} : ∀ k t, lowF A n g S need k t = m6 → ∀ u, t ≤ u → u < t + k → u < 16 → ¬ (A g u = true ∧ S u = true ∧ nI 1 + nI (behF A n (g + 1) (fun v => S v && !(v == u))) = need)
  | 0, t, _, u, h1, h2, _ => by omega
  | k + 1, t, h, u, h1, h2, h16 => by
    unfold lowF at h
    intro q
    by_cases e : u = t
    · subst e
      rw [if_pos (by simp only [Bool.and_eq_true, beq_iff_eq]; exact q)] at h
      exact nI_nm6 (by omega) h
    · split at h
      · rename_i hc
        rcases Nat.lt_or_ge t (2 ^ 31) with q1 | q1
        · exact nI_nm6 q1 h
        · omega
      · exact low_none k (t + 1) h u (by omega) (by omega) h16 q
theorem low_some {need : Int32} {u : Nat} (hu : u < 16) : ∀ k t, t + k ≤ 16 → lowF A n g S need k t = nI u → nI 1 + nI (behF A n (g + 1) (fun v => S v && !(v == u))) = need
  | 0, t, _, h => absurd h.symm (nI_nm6 (by omega))
  | k + 1, t, ht, h => by
    unfold lowF at h
    split at h
    · rename_i hc
      have := nI9 (by omega) (by omega) h
      subst this
      simp only [Bool.and_eq_true, beq_iff_eq] at hc
      exact hc.2.2
    · exact low_some hu k (t + 1) (by omega) h
theorem beh_le : behF A n g S ≤ 16 := by
  unfold behF svF
  obtain ⟨G, e⟩ := mn_at (rw := fun i t => A (g + i) t && S t) (w := 16) (n - g) noB
  have h1 := mn_le (rw := fun i t => A (g + i) t && S t) (w := 16) (G := fun _ => true) (n - g) noB
  have h2 := cntB_n (fun t => noB t || nbF (fun i t => A (g + i) t && S t) (fun _ => true) (n - g) t) 16
  have h3 : ∀ m, cntB (fun _ => !true) m = 0 := fun m => by
    have := cntB_no m
    exact this
  have h4 := h3 (n - g)
  have e5 : mnR (fun i t => A (g + i) t && S t) 16 (n - g) (fun _ => false) = mnR (fun i t => A (g + i) t && S t) 16 (n - g) noB := rfl
  rw [e5]
  omega
/-- the need is always what those behind can be served -/
theorem pl_need : ∀ g, g ≤ n → (plS A n g).2 = nI (behF A n g (plS A n g).1)
  | 0, _ => rfl
  | g + 1, hg => by
    have ih := pl_need g (by omega)
    have b1 := beh_le (A := A) (n := n) (g := g) (S := (plS A n g).1)
    rw [plS_s]
    rcases plV_spec (A := A) (n := n) (g := g) with e | ⟨u, hu, e, ha, hs⟩
    · rw [if_pos e, ih]
      congr 1
      rcases beh_hall (A := A) (S := (plS A n g).1) (by omega : g < n) with q | ⟨t, t16, q1, q2, q3⟩
      · exact q.symm
      · exfalso
        exact low_none 16 0 e t (Nat.zero_le _) (by omega) t16 ⟨q1, q2, by rw [ih, nI_add, q3]⟩
    · rw [if_neg (by rw [e]; exact nI_nm6 (by omega)), e, nI_clamp (by omega)]
      have := low_some hu 16 0 (by omega) e
      simp only []
      rw [← this, Int32.add_comm, Int32.add_sub_cancel]
/-- how many of the first fixers get a thing -/
def gotN (P : Nat → Int32) : Nat → Nat
  | 0 => 0
  | i + 1 => gotN P i + (if P i = m6 then 0 else 1)
theorem got_need : ∀ g, g ≤ n → nI (gotN (plV A n) g) + (plS A n g).2 = nI (behF A n 0 (fun _ => true))
  | 0, _ => by
    show nI 0 + nI (behF A n 0 (fun _ => true)) = _
    rw [nI_add, Nat.zero_add]
  | g + 1, hg => by
    have ih := got_need g (by omega)
    rw [← ih, plS_s]
    simp only [gotN]
    by_cases e : plV A n g = m6
    · rw [if_pos e, if_pos e, Nat.add_zero]
    · rw [if_neg e, if_neg e, ← nI_add]
      simp only []
      rw [Int32.add_assoc, Int32.add_comm (nI 1), Int32.sub_add_cancel]
theorem got_all : nI (gotN (plV A n) n) = nI (behF A n 0 (fun _ => true)) := by
  have h := got_need (A := A) (n := n) n (Nat.le_refl n)
  rw [pl_need n (Nat.le_refl n)] at h
  have e : behF A n n (plS A n n).1 = 0 := by
    unfold behF svF
    rw [Nat.sub_self]
    exact cntB_no 16
  rw [e, i32_add0] at h
  exact h
end GRE
/-! the first that is best -/
def Fst (v : Nat → Nat) (a b k : Nat) : Prop := (a ≤ k ∧ k < b) ∧ (∀ j, a ≤ j → j < b → v j ≤ v k) ∧ ∀ j, a ≤ j → j < k → v j < v k
theorem Fst.uniq {v : Nat → Nat} {a b k k' : Nat} (h : Fst v a b k) (h' : Fst v a b k') : k = k' := by
  obtain ⟨⟨a1, a2⟩, a3, a4⟩ := h
  obtain ⟨⟨b1, b2⟩, b3, b4⟩ := h'
  rcases Nat.lt_trichotomy k k' with q | q | q
  · have := b4 k a1 q
    have := a3 k' b1 b2
    omega
  · exact q
  · have := a4 k' b1 q
    have := b3 k a1 a2
    omega
theorem Fst.up {v : Nat → Nat} {a b k : Nat} (h : Fst v (a + 1) b k) : (v a < v k → Fst v a b k) ∧ (¬ v a < v k → Fst v a b a) := by
  obtain ⟨⟨a1, a2⟩, a3, a4⟩ := h
  constructor
  · intro q
    refine ⟨⟨by omega, a2⟩, fun j h1 h2 => ?_, fun j h1 h2 => ?_⟩
    · by_cases e : j = a
      · subst e; omega
      · exact a3 j (by omega) h2
    · by_cases e : j = a
      · subst e; exact q
      · exact a4 j (by omega) h2
  · intro q
    refine ⟨⟨Nat.le_refl _, by omega⟩, fun j h1 h2 => ?_, fun j h1 h2 => by omega⟩
    by_cases e : j = a
    · subst e; exact Nat.le_refl _
    · have := a3 j (by omega) h2
      omega
theorem Fst.one {v : Nat → Nat} {a : Nat} : Fst v a (a + 1) a := ⟨⟨Nat.le_refl _, by omega⟩, fun j h1 h2 => by
  obtain rfl : j = a := by omega
  exact Nat.le_refl _, fun j h1 h2 => by omega⟩
theorem Fst.dn {v : Nat → Nat} {b k : Nat} (h : Fst v 0 b k) : (v k < v b → Fst v 0 (b + 1) b) ∧ (¬ v k < v b → Fst v 0 (b + 1) k) := by
  obtain ⟨⟨a1, a2⟩, a3, a4⟩ := h
  constructor
  · intro q
    refine ⟨⟨Nat.zero_le _, by omega⟩, fun j h1 h2 => ?_, fun j h1 h2 => ?_⟩
    · by_cases e : j = b
      · subst e; exact Nat.le_refl _
      · have := a3 j h1 (by omega)
        omega
    · have := a3 j h1 h2
      omega
  · intro q
    refine ⟨⟨a1, by omega⟩, fun j h1 h2 => ?_, a4⟩
    by_cases e : j = b
    · subst e; omega
    · exact a3 j h1 (by omega)
theorem bs_fst {f : Nat → Int32} {nF nT : Nat} : ∀ s, ∃ k, Fst (bsV f nF nT) 0 (s + 1) k ∧ bsF f nF nT (s + 1) = (nI k, nI (bsV f nF nT k))
  | 0 => by
    have hb := bsV_le (f := f) (nF := nF) (nT := nT) (s := 0)
    refine ⟨0, Fst.one, ?_⟩
    rw [bsF_s, if_neg]
    show ¬ nI (bsV f nF nT 0) ≤ m1
    intro q
    exact Int32.lt_irrefl (Int32.lt_of_lt_of_le (m1_lt_nI (by omega)) q)
  | s + 1 => by
    obtain ⟨k, h1, h2⟩ := bs_fst (f := f) (nF := nF) (nT := nT) s
    have b1 := bsV_le (f := f) (nF := nF) (nT := nT) (s := k)
    have b2 := bsV_le (f := f) (nF := nF) (nT := nT) (s := s + 1)
    rw [bsF_s, h2]
    simp only [leI _ _ (by omega : bsV f nF nT (s + 1) < 2 ^ 31) (by omega : bsV f nF nT k < 2 ^ 31)]
    by_cases q : bsV f nF nT k < bsV f nF nT (s + 1)
    · rw [if_neg (by omega)]
      exact ⟨s + 1, h1.dn.1 q, rfl⟩
    · rw [if_pos (by omega)]
      exact ⟨k, h1.dn.2 q, rfl⟩
/-- how many are mended with one part more -/
def bpN (N : Nat) (f : Nat → Int32) (p : Nat) : Nat := (bpV N f p).toNatClampNeg
theorem bpN_is {f : Nat → Int32} {nF nT N p : Nat} (hW : WF f nF nT) (hp : p < 4) : bpV N f p = nI (bpN N f p) ∧ bpN N f p ≤ 16 := by
  obtain ⟨v, hv, e⟩ := pass_nn (WF_part hW hp (v := gG f (6 + p) + nI 1)) N
  have e : bpV N f p = nI v := e
  have e2 : bpN N f p = v := by unfold bpN; rw [e, nI_clamp (by omega)]
  rw [e2]
  exact ⟨e, hv⟩
theorem bp_fst {f : Nat → Int32} {nF nT N : Nat} (hW : WF f nF nT) : ∀ s, s < 4 → ∃ k, Fst (bpN N f) 0 (s + 1) k ∧ bpF N f (s + 1) = (nI k, nI (bpN N f k))
  | 0, _ => by
    obtain ⟨e, hb⟩ := bpN_is (N := N) hW (p := 0) (by decide)
    refine ⟨0, Fst.one, ?_⟩
    rw [bpF_s, e, if_pos]
    exact m1_lt_nI (by omega)
  | s + 1, hs => by
    obtain ⟨k, h1, h2⟩ := bp_fst (f := f) (N := N) hW s (by omega)
    obtain ⟨e1, b1⟩ := bpN_is (N := N) hW (p := k) (by have := h1.1; omega)
    obtain ⟨e2, b2⟩ := bpN_is (N := N) hW (p := s + 1) hs
    rw [bpF_s, h2, e2]
    simp only [ltI _ _ (by omega : bpN N f k < 2 ^ 31) (by omega : bpN N f (s + 1) < 2 ^ 31)]
    by_cases q : bpN N f k < bpN N f (s + 1)
    · rw [if_pos q]
      exact ⟨s + 1, h1.dn.1 q, rfl⟩
    · rw [if_neg q]
      exact ⟨k, h1.dn.2 q, rfl⟩
