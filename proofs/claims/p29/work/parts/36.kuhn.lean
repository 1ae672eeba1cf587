/-! giving a thing to one fixer more: the mathematics -/
def MTs (rw : Nat → Nat → Bool) (tO fO : Nat → Int32) : Prop := (∀ g, g < 9 → (tO g = m6 ∨ ∃ u, u < 16 ∧ tO g = nI u ∧ fO u = nI g ∧ rw g u = true)) ∧ ∀ u, u < 16 → (fO u = m6 ∨ ∃ g, g < 9 ∧ fO u = nI g ∧ tO g = nI u)
/-- a closed set of fixers: what they could take, they have -/
def CLs (rw : Nat → Nat → Bool) (W : Nat → Prop) (fO : Nat → Int32) : Prop := ∀ g, g < 9 → W g → ∀ u, u < 16 → rw g u = true → ∃ h, h < 9 ∧ W h ∧ fO u = nI h
def TRp (rw : Nat → Nat → Bool) (W : Nat → Prop) (q : Nat → Nat) (cF tO fO : Nat → Int32) (j l : Nat) : Prop :=
  (l < 16 ∧ cF l = nI (q j) ∧ rw (q j) l = true) ∧
  (∀ g, g < 9 → (tO g = m6 ∨ ∃ u, u < 16 ∧ tO g = nI u ∧ fO u = nI g ∧ rw g u = true)) ∧
  (∀ u, u < 16 → u ≠ l → (fO u = m6 ∨ ∃ g, g < 9 ∧ fO u = nI g ∧ tO g = nI u)) ∧
  (∀ g, g < 9 → tO g ≠ nI l) ∧
  ((∀ i, 1 ≤ i → i ≤ j → ∃ u, u < 16 ∧ u ≠ l ∧ fO u = nI (q i) ∧ tO (q i) = nI u ∧ ∃ i', i' < i ∧ cF u = nI (q i') ∧ rw (q i') u = true) ∧ tO (q 0) = m6 ∧ (∀ i, i ≤ j → q i < 9) ∧ ∀ i i', i ≤ j → i' ≤ j → q i = q i' → i = i') ∧
  (∀ g, g < 9 → W g → ∀ u, u < 16 → rw g u = true → u ≠ l ∧ ∃ h, h < 9 ∧ W h ∧ fO u = nI h ∧ tO h = nI u)
theorem nI9 {a b : Nat} (ha : a < 100) (hb : b < 100) (h : nI a = nI b) : a = b := nI_inj (by omega) (by omega) h
theorem TRp.step {rw : Nat → Nat → Bool} {W : Nat → Prop} {q : Nat → Nat} {cF tO fO : Nat → Int32} {j l : Nat} (H : TRp rw W q cF tO fO j l) (hj : 1 ≤ j) :
    ∃ u i, i < j ∧ u < 16 ∧ tO (q j) = nI u ∧ TRp rw W q cF (upd tO (q j) (nI l)) (upd fO l (nI (q j))) i u ∧ ∀ g, g < 9 → (upd tO (q j) (nI l) g = m6 ↔ tO g = m6) := by
  obtain ⟨⟨l16, c1, c2⟩, P2, P3, P4, ⟨P5, P5b, P5c, P5d⟩, P6⟩ := H
  obtain ⟨u, u16, ul, fu, tu, i, ij, cu, ru⟩ := P5 j hj (Nat.le_refl _)
  have qj := P5c j (Nat.le_refl _)
  have nW : ¬ W (q j) := fun h => (P6 (q j) qj h l l16 c2).1 rfl
  refine ⟨u, i, ij, u16, tu, ⟨⟨u16, cu, ru⟩, ?_, ?_, ?_, ⟨?_, ?_, fun i' h => P5c i' (by omega), fun i1 i2 h1 h2 => P5d i1 i2 (by omega) (by omega)⟩, ?_⟩, ?_⟩
  · intro g hg
    by_cases e : g = q j
    · subst e
      rw [upd_eq]
      exact Or.inr ⟨l, l16, rfl, upd_eq _ _ _, c2⟩
    · rw [upd_ne _ _ e]
      rcases P2 g hg with h | ⟨v, v16, h1, h2, h3⟩
      · exact Or.inl h
      · have : v ≠ l := fun e2 => P4 g hg (by rw [h1, e2])
        exact Or.inr ⟨v, v16, h1, by rw [upd_ne _ _ this]; exact h2, h3⟩
  · intro v hv hvu
    by_cases e : v = l
    · subst e
      rw [upd_eq]
      exact Or.inr ⟨q j, qj, rfl, upd_eq _ _ _⟩
    · rw [upd_ne _ _ e]
      rcases P3 v hv e with h | ⟨g, h1, h2, h3⟩
      · exact Or.inl h
      · have : g ≠ q j := fun e2 => by
          subst e2
          rw [tu] at h3
          exact hvu (nI9 (by omega) (by omega) h3).symm
        exact Or.inr ⟨g, h1, h2, by rw [upd_ne _ _ this]; exact h3⟩
  · intro g hg
    by_cases e : g = q j
    · subst e
      rw [upd_eq]
      exact fun h => ul (nI9 (by omega) (by omega) h).symm
    · rw [upd_ne _ _ e]
      intro h
      rcases P2 g hg with h1 | ⟨v, v16, h1, h2, h3⟩
      · rw [h1] at h
        exact nI_nm6 (by omega) h.symm
      · rw [h1] at h
        have := nI9 (by omega) (by omega) h
        subst this
        rw [fu] at h2
        exact e (nI9 (by omega) (by omega) h2).symm
  · intro i1 h1 h2
    obtain ⟨v, v16, vl, fv, tv, hx⟩ := P5 i1 h1 (by omega)
    have qi := P5c i1 (by omega)
    have ne : q i1 ≠ q j := fun e => by have := P5d i1 j (by omega) (Nat.le_refl _) e; omega
    refine ⟨v, v16, ?_, by rw [upd_ne _ _ vl]; exact fv, by rw [upd_ne _ _ ne]; exact tv, hx⟩
    intro e
    subst e
    rw [fu] at fv
    exact ne (nI9 (by omega) (by omega) fv).symm
  · have : q 0 ≠ q j := fun e => by have := P5d 0 j (by omega) (Nat.le_refl _) e; omega
    rw [upd_ne _ _ this]
    exact P5b
  · intro g hg hW v hv hr
    obtain ⟨a1, h, h9, hh, a2, a3⟩ := P6 g hg hW v hv hr
    have hne : h ≠ q j := fun e => by subst e; exact nW hh
    refine ⟨?_, h, h9, hh, by rw [upd_ne _ _ a1]; exact a2, by rw [upd_ne _ _ hne]; exact a3⟩
    intro e
    subst e
    rw [fu] at a2
    exact hne (nI9 (by omega) (by omega) a2).symm
  · intro g hg
    by_cases e : g = q j
    · subst e
      rw [upd_eq, tu]
      exact ⟨fun h => absurd h (nI_nm6 (by omega)), fun h => absurd h (nI_nm6 (by omega))⟩
    · rw [upd_ne _ _ e]
theorem TRp.fin {rw : Nat → Nat → Bool} {W : Nat → Prop} {q : Nat → Nat} {cF tO fO : Nat → Int32} {l : Nat} (H : TRp rw W q cF tO fO 0 l) :
    MTs rw (upd tO (q 0) (nI l)) (upd fO l (nI (q 0))) ∧ CLs rw W (upd fO l (nI (q 0))) ∧ tO (q 0) = m6 ∧ ∀ g, g < 9 → (upd tO (q 0) (nI l) g = m6 ↔ (tO g = m6 ∧ g ≠ q 0)) := by
  obtain ⟨⟨l16, c1, c2⟩, P2, P3, P4, ⟨P5, P5b, P5c, P5d⟩, P6⟩ := H
  have qj := P5c 0 (Nat.le_refl _)
  refine ⟨⟨?_, ?_⟩, ?_, P5b, ?_⟩
  · intro g hg
    by_cases e : g = q 0
    · subst e
      rw [upd_eq]
      exact Or.inr ⟨l, l16, rfl, upd_eq _ _ _, c2⟩
    · rw [upd_ne _ _ e]
      rcases P2 g hg with h | ⟨v, v16, h1, h2, h3⟩
      · exact Or.inl h
      · have : v ≠ l := fun e2 => P4 g hg (by rw [h1, e2])
        exact Or.inr ⟨v, v16, h1, by rw [upd_ne _ _ this]; exact h2, h3⟩
  · intro v hv
    by_cases e : v = l
    · subst e
      rw [upd_eq]
      exact Or.inr ⟨q 0, qj, rfl, upd_eq _ _ _⟩
    · rw [upd_ne _ _ e]
      rcases P3 v hv e with h | ⟨g, h1, h2, h3⟩
      · exact Or.inl h
      · have : g ≠ q 0 := fun e2 => by
          subst e2
          rw [P5b] at h3
          exact nI_nm6 (by omega) h3.symm
        exact Or.inr ⟨g, h1, h2, by rw [upd_ne _ _ this]; exact h3⟩
  · intro g hg hW v hv hr
    obtain ⟨a1, h, h9, hh, a2, a3⟩ := P6 g hg hW v hv hr
    exact ⟨h, h9, hh, by rw [upd_ne _ _ a1]; exact a2⟩
  · intro g hg
    by_cases e : g = q 0
    · subst e
      rw [upd_eq]
      exact ⟨fun h => absurd h (nI_nm6 (by omega)), fun h => absurd rfl h.2⟩
    · rw [upd_ne _ _ e]
      exact ⟨fun h => ⟨h, e⟩, fun h => h.1⟩
/-! the search: fixers q 0 .. q (b - 1) in a row; cF says who first came to a thing -/
def BQs (rw : Nat → Nat → Bool) (q : Nat → Nat) (cF tO fO rq : Nat → Int32) (fx b : Nat) : Prop :=
  (1 ≤ b ∧ b ≤ 9 ∧ q 0 = fx ∧ (∀ j, j < b → rq j = nI (q j) ∧ q j < 9) ∧ ∀ i j, i < b → j < b → q i = q j → i = j) ∧
  (∀ j, 1 ≤ j → j < b → ∃ u, u < 16 ∧ fO u = nI (q j) ∧ tO (q j) = nI u ∧ ∃ i, i < j ∧ cF u = nI (q i) ∧ rw (q i) u = true) ∧
  (∀ u, u < 16 → cF u ≠ m6 → ∃ j, 1 ≤ j ∧ j < b ∧ fO u = nI (q j))
theorem BQs.room {rw : Nat → Nat → Bool} {q : Nat → Nat} {cF tO fO rq : Nat → Int32} {fx b g t : Nat} (H : BQs rw q cF tO fO rq fx b) (hM : MTs rw tO fO) (h0 : tO fx = m6) (ht : t < 16) (hc : cF t = m6) (hg : g < 9) (hf : fO t = nI g) (ht2 : tO g = nI t) : (∀ j, j < b → q j ≠ g) ∧ b < 9 := by
  obtain ⟨⟨b1, b9, q0, qb, qi⟩, H2, H3⟩ := H
  have hn : ∀ j, j < b → q j ≠ g := by
    intro j hj e
    rcases Nat.eq_zero_or_pos j with z | z
    · subst z
      rw [q0] at e
      subst e
      rw [h0] at ht2
      exact nI_nm6 (by omega) ht2.symm
    · obtain ⟨u, u16, fu, tu, i, ij, cu, ru⟩ := H2 j z hj
      rw [e, ht2] at tu
      have := nI9 (by omega) (by omega) tu
      subst this
      rw [hc] at cu
      exact nI_nm6 (by have := (qb i (by omega)).2; omega) cu.symm
  refine ⟨hn, ?_⟩
  rcases Nat.lt_or_ge b 9 with h | h
  · exact h
  · exfalso
    have e : b = 9 := by omega
    subst e
    have h1 : cntB (fun _ => true) 9 ≤ cntB (fun k => !(k == g)) 9 := cntB_inj 9 (fun _ => true) (fun k => !(k == g)) q (fun t ht _ => ⟨(qb t ht).2, by simp [hn t ht]⟩) (fun t u ht hu _ _ e => qi t u ht hu e)
    have h2 := cntB_out (P := fun _ => true) (a := g) 9 hg rfl
    simp only [Bool.true_and] at h2
    omega
theorem BQs.push {rw : Nat → Nat → Bool} {q q' : Nat → Nat} {cF tO fO rq : Nat → Int32} {fx b g t a : Nat} (H : BQs rw q cF tO fO rq fx b) (hM : MTs rw tO fO) (h0 : tO fx = m6) (ht : t < 16) (hc : cF t = m6) (hg : g < 9) (hf : fO t = nI g) (ht2 : tO g = nI t) (ha : a < b) (hr : rw (q a) t = true) (hq1 : q' b = g) (hq2 : ∀ j, j ≠ b → q' j = q j) :
    BQs rw q' (upd cF t (nI (q a))) tO fO (upd rq b (nI g)) fx (b + 1) := by
  obtain ⟨hn, hb⟩ := H.room hM h0 ht hc hg hf ht2
  obtain ⟨⟨b1, b9, q0, qb, qi⟩, H2, H3⟩ := H
  refine ⟨⟨by omega, by omega, by rw [hq2 _ (by omega)]; exact q0, ?_, ?_⟩, ?_, ?_⟩
  · intro j hj
    by_cases e : j = b
    · subst e
      rw [upd_eq, hq1]
      exact ⟨rfl, hg⟩
    · rw [upd_ne _ _ e, hq2 _ e]
      exact qb j (by omega)
  · intro i j hi hj
    by_cases e : i = b
    · by_cases e2 : j = b
      · intro _; omega
      · rw [e, hq1, hq2 _ e2]
        exact fun h => absurd h.symm (hn j (by omega))
    · by_cases e2 : j = b
      · rw [e2, hq1, hq2 _ e]
        exact fun h => absurd h (hn i (by omega))
      · rw [hq2 _ e, hq2 _ e2]
        exact qi i j (by omega) (by omega)
  · intro j h1 h2
    by_cases e : j = b
    · subst e
      rw [hq1]
      refine ⟨t, ht, hf, ht2, a, ha, ?_, ?_⟩
      · rw [upd_eq, hq2 _ (by omega)]
      · rw [hq2 _ (by omega)]; exact hr
    · rw [hq2 _ e]
      obtain ⟨u, u16, fu, tu, i, ij, cu, ru⟩ := H2 j h1 (by omega)
      have : u ≠ t := fun e2 => by
        subst e2
        rw [hc] at cu
        exact nI_nm6 (by have := (qb i (by omega)).2; omega) cu.symm
      exact ⟨u, u16, fu, tu, i, ij, by rw [upd_ne _ _ this, hq2 _ (by omega)]; exact cu, by rw [hq2 _ (by omega)]; exact ru⟩
  · intro u hu hc2
    by_cases e : u = t
    · subst e
      exact ⟨b, by omega, by omega, by rw [hq1]; exact hf⟩
    · rw [upd_ne _ _ e] at hc2
      obtain ⟨j, h1, h2, h3⟩ := H3 u hu hc2
      exact ⟨j, h1, by omega, by rw [hq2 _ (by omega)]; exact h3⟩
theorem BQs.found {rw : Nat → Nat → Bool} {W : Nat → Prop} {q : Nat → Nat} {cF tO fO rq : Nat → Int32} {fx b t a : Nat} (H : BQs rw q cF tO fO rq fx b) (hM : MTs rw tO fO) (hC : CLs rw W fO) (h0 : tO fx = m6) (ht : t < 16) (hc : cF t = m6) (hf : fO t = m6) (ha : a < b) (hr : rw (q a) t = true) :
    TRp rw W q (upd cF t (nI (q a))) tO fO a t := by
  obtain ⟨⟨b1, b9, q0, qb, qi⟩, H2, H3⟩ := H
  refine ⟨⟨ht, upd_eq _ _ _, hr⟩, hM.1, fun u hu _ => hM.2 u hu, ?_, ⟨?_, by rw [q0]; exact h0, fun i h => (qb i (by omega)).2, fun i i' h1 h2 => qi i i' (by omega) (by omega)⟩, ?_⟩
  · intro g hg h
    rcases hM.1 g hg with e | ⟨u, u16, e1, e2, e3⟩
    · rw [e] at h
      exact nI_nm6 (by omega) h.symm
    · rw [e1] at h
      have := nI9 (by omega) (by omega) h
      subst this
      rw [hf] at e2
      exact nI_nm6 (by omega) e2.symm
  · intro i h1 h2
    obtain ⟨u, u16, fu, tu, i', ij, cu, ru⟩ := H2 i h1 (by omega)
    have : u ≠ t := fun e2 => by
      subst e2
      rw [hc] at cu
      exact nI_nm6 (by have := (qb i' (by omega)).2; omega) cu.symm
    exact ⟨u, u16, this, fu, tu, i', ij, by rw [upd_ne _ _ this]; exact cu, ru⟩
  · intro g hg hW u hu hru
    obtain ⟨h, h9, hh, a2⟩ := hC g hg hW u hu hru
    refine ⟨?_, h, h9, hh, a2, ?_⟩
    · intro e
      subst e
      rw [hf] at a2
      exact nI_nm6 (by omega) a2.symm
    · rcases hM.2 u hu with e | ⟨g', g1, e1, e2⟩
      · rw [e] at a2
        exact absurd a2.symm (nI_nm6 (by omega))
      · rw [e1] at a2
        have := nI9 (by omega) (by omega) a2
        subst this
        exact e2
