/-! most: the least sum -/
def selB (y : Int32) (g : Nat) : Bool := ((y >>> (nI g &&& 31)) &&& nI 1) == nI 1
def rwY (m : vMM) (y x : Int32) : Nat → Nat → Bool := fun g t => selB y g && rwM m x g t
def mtB (tO : Nat → Int32) : Nat → Bool := fun g => !(tO g == m6)
theorem mtB_t {tO : Nat → Int32} {g : Nat} : mtB tO g = true ↔ tO g ≠ m6 := by simp [mtB]
theorem boolOf (W : Nat → Prop) : ∃ B : Nat → Bool, ∀ g, B g = true ↔ W g := ⟨fun g => @decide (W g) (Classical.propDecidable _), fun g => @decide_eq_true_iff (W g) (Classical.propDecidable _)⟩
theorem most_is {rw : Nat → Nat → Bool} {sel : Nat → Bool} {W : Nat → Prop} {tO fO : Nat → Int32} (hT : MTs rw tO fO) (hC : CLs rw W fO) (h1 : ∀ g, g < 9 → tO g ≠ m6 → sel g = true) (h2 : ∀ g, g < 9 → sel g = true → tO g = m6 → W g) :
    mnR (fun g t => sel g && rw g t) 16 9 (fun _ => false) = cntB (mtB tO) 9 := by
  obtain ⟨B, hB⟩ := boolOf W
  have cl : ∀ {n : Nat}, n < 100 → (nI n).toNatClampNeg = n := fun h => nI_clamp (by omega)
  have key : ∀ g, g < 9 → mtB tO g = true → ∃ u, u < 16 ∧ tO g = nI u ∧ fO u = nI g ∧ rw g u = true := by
    intro g hg h
    rcases hT.1 g hg with e | e
    · exact absurd e (mtB_t.mp h)
    · exact e
  apply mn_is (G := fun g => !(sel g) || B g)
  · intro G
    have s1 := cntB_sum (P := mtB tO) (R := G) 9
    have s2 : cntB (fun g => mtB tO g && G g) 9 ≤ cntB (fun t => false || nbF (fun g t => sel g && rw g t) G 9 t) 16 := by
      apply cntB_inj 9 _ _ (fun g => (tO g).toNatClampNeg)
      · intro g hg h
        simp only [Bool.and_eq_true] at h
        obtain ⟨u, u16, e1, e2, e3⟩ := key g hg h.1
        simp only [e1, cl (show u < 100 by omega)]
        refine ⟨u16, ?_⟩
        rw [Bool.false_or]
        exact (nbF_iff 9).mpr ⟨g, hg, h.2, by simp only [Bool.and_eq_true]; exact ⟨h1 g hg (mtB_t.mp h.1), e3⟩⟩
      · intro g g' hg hg' h h' e
        simp only [Bool.and_eq_true] at h h'
        obtain ⟨u, u16, e1, e2, e3⟩ := key g hg h.1
        obtain ⟨u', u16', e1', e2', e3'⟩ := key g' hg' h'.1
        simp only [e1, e1', cl (show u < 100 by omega), cl (show u' < 100 by omega)] at e
        subst e
        rw [e2] at e2'
        exact nI9 (by omega) (by omega) e2'
    omega
  · have s1 : cntB (fun t => false || nbF (fun g t => sel g && rw g t) (fun g => !(sel g) || B g) 9 t) 16 ≤ cntB (fun g => mtB tO g && B g) 9 := by
      apply cntB_inj 16 _ _ (fun u => (fO u).toNatClampNeg)
      · intro u hu h
        rw [Bool.false_or] at h
        obtain ⟨k, k9, g1, g2⟩ := (nbF_iff 9).mp h
        simp only [Bool.and_eq_true] at g2
        rw [g2.1, Bool.not_true, Bool.false_or, hB] at g1
        obtain ⟨h', h9, hW, hf⟩ := hC k k9 g1 u hu g2.2
        have e0 : (fO u).toNatClampNeg = h' := by rw [hf, cl (show h' < 100 by omega)]
        simp only [e0]
        refine ⟨h9, ?_⟩
        simp only [Bool.and_eq_true, hB]
        refine ⟨mtB_t.mpr ?_, hW⟩
        rcases hT.2 u hu with e | ⟨g', a1, a2, a3⟩
        · rw [e] at hf
          exact absurd hf.symm (nI_nm6 (by omega))
        · rw [hf] at a2
          have := nI9 (by omega) (by omega) a2
          subst this
          rw [a3]
          exact nI_nm6 (by omega)
      · intro u v hu hv hpu hpv e
        rw [Bool.false_or] at hpu hpv
        have own : ∀ u, u < 16 → nbF (fun g t => sel g && rw g t) (fun g => !(sel g) || B g) 9 u = true → ∃ h, h < 9 ∧ fO u = nI h ∧ tO h = nI u := by
          intro u hu h
          obtain ⟨k, k9, g1, g2⟩ := (nbF_iff 9).mp h
          simp only [Bool.and_eq_true] at g2
          rw [g2.1, Bool.not_true, Bool.false_or, hB] at g1
          obtain ⟨h', h9, hW, hf⟩ := hC k k9 g1 u hu g2.2
          rcases hT.2 u hu with e | ⟨g', a1, a2, a3⟩
          · rw [e] at hf
            exact absurd hf.symm (nI_nm6 (by omega))
          · exact ⟨g', a1, a2, a3⟩
        obtain ⟨a, a9, a1, a2⟩ := own u hu hpu
        obtain ⟨b, b9, b1, b2⟩ := own v hv hpv
        simp only [a1, b1, cl (show a < 100 by omega), cl (show b < 100 by omega)] at e
        subst e
        rw [a2] at b2
        exact nI9 (by omega) (by omega) b2
    have s2 := cntB_or (P := fun g => mtB tO g && B g) (R := fun k => !(!(sel k) || B k)) (S := mtB tO) 9 (fun k hk h => by
        simp only [Bool.and_eq_true] at h
        rw [h.2]
        simp) (fun k hk h => by
        simp only [Bool.and_eq_true] at h
        exact h.1) (fun k hk h => by
        simp only [Bool.not_or, Bool.not_not, Bool.and_eq_true, Bool.not_eq_true'] at h
        exact mtB_t.mpr (fun e => by
          have := (hB k).mpr (h2 k hk h.1 e)
          rw [h.2] at this
          cases this))
    omega
section MOST
variable {D : vDD} {m : vMM} {z : vZZ} {rw : Nat → Nat → Bool} {x y : Int32}
theorem k_self : kM m (m 861) (m 862) (m 863) (m 864) = m := by
  unfold kM
  rw [setR_self]
  have e1 : setR m 862 (m 862) = m := setR_self
  have e2 : setR m 863 (m 863) = m := setR_self
  have e3 : setR m 864 (m 864) = m := setR_self
  rw [e1, e2, e3]
end MOST
