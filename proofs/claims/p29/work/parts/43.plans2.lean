/-! findPlan, plan, giveOut -/
theorem plS_s {A : Nat → Nat → Bool} {n g : Nat} : plS A n (g + 1) = if plV A n g = m6 then plS A n g else (fun u => (plS A n g).1 u && !(u == (plV A n g).toNatClampNeg), (plS A n g).2 - nI 1) := rfl
theorem plV_spec {A : Nat → Nat → Bool} {n g : Nat} : plV A n g = m6 ∨ ∃ u, u < 16 ∧ plV A n g = nI u ∧ A g u = true ∧ (plS A n g).1 u = true := by
  rcases lowF_spec (A := A) (n := n) (g := g) (S := (plS A n g).1) (need := (plS A n g).2) 16 0 with h | ⟨u, h1, h2, h3, h4⟩
  · exact Or.inl h
  · exact Or.inr ⟨u, by omega, h3, h4⟩
theorem plS_mono {A : Nat → Nat → Bool} {n u : Nat} {g : Nat} : ∀ k, (plS A n (g + k)).1 u = true → (plS A n g).1 u = true
  | 0, h => h
  | k + 1, h => by
    apply plS_mono k
    rw [← Nat.add_assoc, plS_s] at h
    split at h
    · exact h
    · simp only [Bool.and_eq_true] at h
      exact h.1
theorem plV_dis {A : Nat → Nat → Bool} {n g k : Nat} {u : Nat} (hu : u < 16) (h : plV A n g = nI u) (h2 : plV A n (g + 1 + k) = nI u) : False := by
  rcases plV_spec (A := A) (n := n) (g := g + 1 + k) with e | ⟨v, v16, e1, e2, e3⟩
  · rw [e] at h2
    exact nI_nm6 (by omega) h2.symm
  · rw [h2] at e1
    have := nI9 (by omega) (by omega) e1
    subst this
    have h3 := plS_mono k e3
    rw [plS_s, if_neg (by rw [h]; exact nI_nm6 (by omega)), h, nI_clamp (by omega)] at h3
    simp at h3
section PLANS2
variable {D : vDD} {m : vMM} {f : Nat → Int32} {z : vZZ} {nF nT r : Nat}
theorem i32_sub0 (x : Int32) : x - nI 0 = x := Int32.sub_zero x
/-- what is planned from fixer i on can still be given out -/
def GOk (P : Nat → Int32) (g : Nat → Int32) (nF nT i : Nat) : Prop := ∀ j, i ≤ j → j < 8 → P j = m6 ∨ ∃ t, t < nT ∧ j < nF ∧ P j = nI t ∧ gF g j 3 = m6 ∧ gT g t 0 = nI 0
theorem outP_F {p : Int32} {j : Nat} (hp : p = m6 ∨ ∃ n, n < 4 ∧ p = nI n) (hj : j < 8) : gF (outP f p) j 3 = gF f j 3 := by
  unfold outP
  rcases hp with rfl | ⟨n, hn, rfl⟩
  · rw [if_pos rfl]
  · rw [if_neg (nI_nm6 (by omega)), nI_clamp (by omega)]
    exact gF_sG (by omega) hj (by decide)
theorem takes_F {i t j : Nat} (hk : okT f t) (hi : i < 8) (hj : j < 8) (h : j ≠ i) : gF (takesF f i t) j 3 = gF f j 3 := by
  unfold takesF
  rw [gF_sFi h (by decide) (by decide), gF_sFi h (by decide) (by decide), gF_sT hj (by decide), gF_sT hj (by decide), outP_F hk.2 hj]
theorem takes_T {i t u : Nat} (hk : okT f t) (hi : i < 8) (hu : u < 16) (h : u ≠ t) : gT (takesF f i t) u 0 = gT f u 0 := by
  unfold takesF
  rw [gT_sF hi (by decide), gT_sF hi (by decide), gT_sTt h (by decide) (by decide), gT_sTt h (by decide) (by decide)]
  exact (nsF_outP (w := 0) hk.2).2.2 0
theorem plV_GO (hW : WF f nF nT) : GOk (plV (ablN f nF nT) nF) f nF nT 0 := by
  intro j _ hj
  rcases plV_spec (A := ablN f nF nT) (n := nF) (g := j) with e | ⟨u, u16, e1, e2, e3⟩
  · exact Or.inl e
  · unfold ablN ableF at e2
    simp only [Bool.and_eq_true, decide_eq_true_eq] at e2
    have := canF_w e2.2.2
    exact Or.inr ⟨u, e2.2.1, e2.1, e1, this.2.2, this.2.1⟩
/-- one given out -/
theorem go_step {P g : Nat → Int32} {i : Nat} (hW : WF g nF nT) (hG : GOk P g nF nT i) (hD : ∀ j k u, u < 16 → P j = nI u → P (j + 1 + k) = nI u → False) (hi : i < 8) (h : P i ≠ m6) : ∃ t, P i = nI t ∧ t < nT ∧ i < nF ∧ WF (takesF g i t) nF nT ∧ GOk P (takesF g i t) nF nT (i + 1) := by
  have h16 := hW.1.2.2.2
  rcases hG i (Nat.le_refl _) hi with e | ⟨t, t1, t2, t3, t4, t5⟩
  · exact absurd e h
  · have hk : okT g t := (hW.2.2.1 t t1).okT
    refine ⟨t, t3, t1, t2, hW.takes t2 t1 t4 t5, fun j hj hj8 => ?_⟩
    rcases hG j (by omega) hj8 with e | ⟨u, u1, u2, u3, u4, u5⟩
    · exact Or.inl e
    · have hne : u ≠ t := fun e => by
        subst e
        have ej : j = i + 1 + (j - (i + 1)) := by omega
        rw [ej] at u3
        exact hD i (j - (i + 1)) u (by omega) t3 u3
      exact Or.inr ⟨u, u1, u2, u3, by rw [takes_F hk hi hj8 (by omega)]; exact u4, by rw [takes_T hk hi (by omega) hne]; exact u5⟩
theorem GOk.next {P g : Nat → Int32} {i : Nat} (hG : GOk P g nF nT i) : GOk P g nF nT (i + 1) := fun j hj hj8 => hG j (by omega) hj8
theorem goF_s {P : Nat → Int32} {i : Nat} : goF P f (i + 1) = if P i = m6 then goF P f i else if inStF (goF P f i).2 (nsF (goF P f i).2 (P i).toNatClampNeg 2) = true then ((goF P f i).1 + 1, takesF (goF P f i).2 i (P i).toNatClampNeg) else goF P f i := rfl
theorem goF_WF {P : Nat → Int32} (hW : WF f nF nT) (hG : GOk P f nF nT 0) (hD : ∀ j k u, u < 16 → P j = nI u → P (j + 1 + k) = nI u → False) : ∀ i, i ≤ 8 → WF (goF P f i).2 nF nT ∧ GOk P (goF P f i).2 nF nT i ∧ (goF P f i).1 ≤ i
  | 0, _ => ⟨hW, hG, Nat.le_refl _⟩
  | i + 1, hi => by
    have h16 := hW.1.2.2.2
    obtain ⟨w1, w2, w3⟩ := goF_WF hW hG hD i (by omega)
    rw [goF_s]
    by_cases h6 : P i = m6
    · rw [if_pos h6]
      exact ⟨w1, w2.next, by omega⟩
    · rw [if_neg h6]
      obtain ⟨t, t1, t2, t3, t4, t5⟩ := go_step w1 w2 hD (by omega) h6
      rw [t1, nI_clamp (by omega)]
      split
      · exact ⟨t4, t5, by simp only []; omega⟩
      · exact ⟨w1, w2.next, by omega⟩
end PLANS2
