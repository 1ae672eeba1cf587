/-! the states that make sense stay so -/
section WFS
variable {f g : Nat → Int32} {i j t u nF nT : Nat}
theorem gT_sG0' {k k' : Nat} {v : Int32} (h : k' < 10) : gT (sG f k' v) t k = gT f t k := upd_ne _ _ (by omega)
theorem WT.okT (h : WT f t) : (testedF f t = false → ∃ n, n < 4 ∧ gT f t 2 = nI n) ∧ (nsF f t 2 = m6 ∨ ∃ p, p < 4 ∧ nsF f t 2 = nI p) := by
  obtain ⟨n, s, ⟨h2, h1, hn, hs1, hs4⟩, hst, -, -⟩ := h
  have key : testedF f t = false → n < s := by
    intro h
    unfold testedF at h
    rw [h2, h1] at h
    have := beq_eq_false_iff_ne.mp h
    rcases Nat.lt_or_ge n s with q | q
    · exact q
    · exact absurd (by rw [show n = s by omega]) this
  refine ⟨fun h => ⟨n, by have := key h; omega, h2⟩, ?_⟩
  unfold nsF
  cases h : testedF f t with
  | true => simp
  | false =>
    have := key h
    rw [if_neg (by decide), h2, nI_clamp (by omega)]
    exact (hst n this).2
theorem WT.sk (h : WT f t) : ∃ q, q < 6 ∧ nsF f t 0 = nI q := by
  obtain ⟨n, s, ⟨h2, h1, hn, hs1, hs4⟩, hst, -, -⟩ := h
  unfold nsF
  cases hh : testedF f t with
  | true => exact ⟨5, by decide, rfl⟩
  | false =>
    have : n < s := by
      unfold testedF at hh
      rw [h2, h1] at hh
      have := beq_eq_false_iff_ne.mp hh
      rcases Nat.lt_or_ge n s with q | q
      · exact q
      · exact absurd (by rw [show n = s by omega]) this
    rw [if_neg (by decide), h2, nI_clamp (by omega)]
    obtain ⟨q, hq, e⟩ := (hst n this).1
    exact ⟨q, by omega, e⟩
theorem WT.mk (h : WT f t) (e1 : gT g t 1 = gT f t 1) (eh : ∀ k, 6 ≤ k → k < 18 → gT g t k = gT f t k)
    (e2 : ∃ n, gT g t 2 = nI n ∧ ∀ s, gT f t 1 = nI s → 1 ≤ s → s ≤ 4 → n ≤ s) (e0 : ∃ q, q < 4 ∧ gT g t 0 = nI q) (e3 : gT g t 0 = nI 0 → ∃ w, w ≤ 50 ∧ gT g t 3 = nI w) : WT g t := by
  obtain ⟨n, s, ⟨h2, h1, hn, hs1, hs4⟩, hst, -, -⟩ := h
  obtain ⟨n', h2', hn'⟩ := e2
  refine ⟨n', s, ⟨h2', e1.trans h1, hn' s h1 hs1 hs4, hs1, hs4⟩, fun k hk => ?_, e0, e3⟩
  rw [eh _ (by omega) (by omega), eh _ (by omega) (by omega)]
  exact hst k hk
theorem WT.same (h : WT f t) (e : ∀ k, k < 18 → gT g t k = gT f t k) : WT g t := by
  obtain ⟨n, s, ⟨h2, h1, hn, hs1, hs4⟩, hst, h0, h3⟩ := h
  refine ⟨n, s, ⟨by rw [e _ (by omega)]; exact h2, by rw [e _ (by omega)]; exact h1, hn, hs1, hs4⟩, fun k hk => ?_, by rw [e _ (by omega)]; exact h0, by rw [e _ (by omega), e _ (by omega)]; exact h3⟩
  rw [e _ (by omega), e _ (by omega)]
  exact hst k hk
theorem WT.nx (h : WT f t) : ∃ n, gT f t 2 = nI n ∧ ∀ s, gT f t 1 = nI s → 1 ≤ s → s ≤ 4 → n ≤ s := by
  obtain ⟨n, s, ⟨h2, h1, hn, hs1, hs4⟩, -, -, -⟩ := h
  refine ⟨n, h2, fun s' h1' _ h4 => ?_⟩
  rw [h1] at h1'
  have := (nI_eq (by omega) (by omega)).mp h1'
  omega
theorem nI_inj {a b : Nat} (ha : a < 2 ^ 31) (hb : b < 2 ^ 31) (h : nI a = nI b) : a = b := (nI_eq ha hb).mp h
theorem nI_ne {a b : Nat} (ha : a < 2 ^ 31) (hb : b < 2 ^ 31) (h : a ≠ b) : nI a ≠ nI b := fun q => h (nI_inj ha hb q)
theorem nI_nm6 {a : Nat} (ha : a < 2 ^ 31) : nI a ≠ m6 := fun q => by have := ne_m6 a ha; rw [this] at q; exact q
/-- a free fixer takes a waiting thing -/
theorem WF.takes (h : WF f nF nT) (hi : i < nF) (ht : t < nT) (hd : gF f i 3 = m6) (hw : gT f t 0 = nI 0) : WF (takesF f i t) nF nT := by
  obtain ⟨⟨g2, hF, g3, hT⟩, hp, hWT, hWX, hinj⟩ := h
  have hi8 : i < 8 := by omega
  have ht16 : t < 16 := by omega
  have hok := (hWT t ht).okT
  unfold takesF
  generalize hv : nsF f t 1 = v
  have hout : (∀ k, k < 10 → k < 6 → gG (outP f (nsF f t 2)) k = gG f k) ∧ (∀ j k, j < 8 → k < 6 → gF (outP f (nsF f t 2)) j k = gF f j k) ∧ ∀ u k, gT (outP f (nsF f t 2)) u k = gT f u k := by
    unfold outP
    rcases hok.2 with e | ⟨p, hp4, e⟩
    · rw [if_pos e]
      exact ⟨fun _ _ _ => rfl, fun _ _ _ _ => rfl, fun _ _ => rfl⟩
    · rw [e, if_neg (nI_nm6 (by omega)), nI_clamp (by omega)]
      exact ⟨fun k _ hk => gG_sGk (by omega), fun j k hj hk => gF_sG (Or.inl (by omega)) hj hk, fun u k => gT_sG0' (by omega)⟩
  generalize outP f (nsF f t 2) = f1 at hout ⊢
  obtain ⟨o1, o2, o3⟩ := hout
  have R1 : ∀ k, k < 6 → gG (sF (sF (sT (sT f1 t 0 (nI 1)) t 3 (nI 0)) i 3 (nI t)) i 4 v) k = gG f k := by
    intro k hk
    rw [gG_sF (Or.inl (by omega)) hi8 (by decide), gG_sF (Or.inl (by omega)) hi8 (by decide), gG_sT (Or.inl (by omega)) ht16 (by decide), gG_sT (Or.inl (by omega)) ht16 (by decide), o1 k (by omega) hk]
  have R2 : ∀ u k, u ≠ t → k < 18 → gT (sF (sF (sT (sT f1 t 0 (nI 1)) t 3 (nI 0)) i 3 (nI t)) i 4 v) u k = gT f u k := by
    intro u k hu hk
    rw [gT_sF hi8 (by decide), gT_sF hi8 (by decide), gT_sTt hu (by decide) hk, gT_sTt hu (by decide) hk, o3]
  have R3 : ∀ k, k ≠ 0 → k ≠ 3 → gT (sF (sF (sT (sT f1 t 0 (nI 1)) t 3 (nI 0)) i 3 (nI t)) i 4 v) t k = gT f t k := by
    intro k hk0 hk3
    rw [gT_sF hi8 (by decide), gT_sF hi8 (by decide), gT_sTk hk3, gT_sTk hk0, o3]
  have R4 : gT (sF (sF (sT (sT f1 t 0 (nI 1)) t 3 (nI 0)) i 3 (nI t)) i 4 v) t 0 = nI 1 := by
    rw [gT_sF hi8 (by decide), gT_sF hi8 (by decide), gT_sTk (by decide), gT_sT]
  have R5 : ∀ j k, j ≠ i → j < 8 → k < 6 → gF (sF (sF (sT (sT f1 t 0 (nI 1)) t 3 (nI 0)) i 3 (nI t)) i 4 v) j k = gF f j k := by
    intro j k hj hj8 hk
    rw [gF_sFi hj (by decide) hk, gF_sFi hj (by decide) hk, gF_sT hj8 hk, gF_sT hj8 hk, o2 j k hj8 hk]
  have R6 : gF (sF (sF (sT (sT f1 t 0 (nI 1)) t 3 (nI 0)) i 3 (nI t)) i 4 v) i 3 = nI t := by
    rw [gF_sFk (by decide), gF_sF]
  have R7 : gF (sF (sF (sT (sT f1 t 0 (nI 1)) t 3 (nI 0)) i 3 (nI t)) i 4 v) i 2 = gF f i 2 := by
    rw [gF_sFk (by decide), gF_sFk (by decide), gF_sT hi8 (by decide), gF_sT hi8 (by decide), o2 i 2 hi8 (by decide)]
  generalize sF (sF (sT (sT f1 t 0 (nI 1)) t 3 (nI 0)) i 3 (nI t)) i 4 v = g at R1 R2 R3 R4 R5 R6 R7 ⊢
  have busy : ∀ j, j < nF → j ≠ i → gF f j 3 = m6 ∨ ∃ u, u < nT ∧ u ≠ t ∧ gF f j 3 = nI u ∧ gT f u 0 = nI 1 := by
    intro j hj hji
    rcases (hWX j hj).1 with e | ⟨u, hu, e1, e2⟩
    · exact Or.inl e
    · refine Or.inr ⟨u, hu, fun q => ?_, e1, e2⟩
      subst q
      rw [hw] at e2
      exact nI_ne (by decide) (by decide) (by decide) e2
  refine ⟨⟨by rw [R1 2 (by decide)]; exact g2, hF, by rw [R1 3 (by decide)]; exact g3, hT⟩, by rw [R1 0 (by decide)]; exact hp, fun u hu => ?_, fun j hj => ?_, fun a c ha hc hac he => ?_⟩
  · by_cases hut : u = t
    · subst hut
      refine (hWT u hu).mk (R3 1 (by decide) (by decide)) (fun k h6 _ => R3 k (by omega) (by omega)) ?_ ⟨1, by decide, R4⟩ (fun q => ?_)
      · rw [R3 2 (by decide) (by decide)]
        exact (hWT u hu).nx
      · rw [R4] at q
        exact absurd q (nI_ne (by decide) (by decide) (by decide))
    · exact (hWT u hu).same (fun k hk => R2 u k hut hk)
  · by_cases hji : j = i
    · subst hji
      refine ⟨Or.inr ⟨t, ht, R6, R4⟩, ?_⟩
      rw [R7]
      exact (hWX j hj).2
    · refine ⟨?_, by rw [R5 j 2 hji (by omega) (by decide)]; exact (hWX j hj).2⟩
      rw [R5 j 3 hji (by omega) (by decide)]
      rcases busy j hj hji with e | ⟨u, hu, hut, e1, e2⟩
      · exact Or.inl e
      · exact Or.inr ⟨u, hu, e1, by rw [R2 u 0 hut (by decide)]; exact e2⟩
  · have one : ∀ j, j < nF → j ≠ i → gF f j 3 = nI t → False := by
      intro j hj hji e
      rcases busy j hj hji with e' | ⟨u, hu, hut, e1, -⟩
      · rw [e'] at e
        exact nI_nm6 (by omega : t < 2 ^ 31) e.symm
      · rw [e1] at e
        exact hut (nI_inj (by omega) (by omega) e)
    by_cases hai : a = i
    · subst hai
      rw [R6, R5 c 3 (fun q => hac q.symm) (by omega) (by decide)] at he
      exact (one c hc (fun q => hac q.symm) he.symm).elim
    · rw [R5 a 3 hai (by omega) (by decide)] at he ⊢
      by_cases hci : c = i
      · subst hci
        rw [R6] at he
        exact (one a ha hai he).elim
      · rw [R5 c 3 hci (by omega) (by decide)] at he
        exact hinj a c ha hc hac he
/-- a busy fixer's step ends: whatever happens to the thing's state, next, waited and failed -/
theorem WF.ends (h : WF f nF nT) (hi : i < nF) (ht : t < nT) (hd : gF f i 3 = nI t)
    (R1 : ∀ k, (k = 0 ∨ k = 2 ∨ k = 3) → gG g k = gG f k) (R2 : ∀ u k, u ≠ t → u < 16 → k < 18 → gT g u k = gT f u k) (R3 : ∀ k, k = 1 ∨ 6 ≤ k → k < 18 → gT g t k = gT f t k)
    (R4 : ∃ n, gT g t 2 = nI n ∧ ∀ s, gT f t 1 = nI s → 1 ≤ s → s ≤ 4 → n ≤ s) (R5 : (gT g t 0 = nI 0 ∧ gT g t 3 = nI 0) ∨ gT g t 0 = nI 2)
    (R6 : ∀ j k, j ≠ i → j < 8 → k < 6 → gF g j k = gF f j k) (R7 : gF g i 3 = m6) (R8 : gF g i 2 = gF f i 2) : WF g nF nT := by
  obtain ⟨⟨g2, hF, g3, hT⟩, hp, hWT, hWX, hinj⟩ := h
  refine ⟨⟨by rw [R1 2 (by decide)]; exact g2, hF, by rw [R1 3 (by decide)]; exact g3, hT⟩, by rw [R1 0 (by decide)]; exact hp, fun u hu => ?_, fun j hj => ?_, fun a c ha hc hac he => ?_⟩
  · by_cases hut : u = t
    · subst hut
      refine (hWT u hu).mk (R3 1 (by decide) (by decide)) (fun k h6 h18 => R3 k (Or.inr h6) h18) R4 ?_ (fun q => ?_)
      · rcases R5 with e | e
        · exact ⟨0, by decide, e.1⟩
        · exact ⟨2, by decide, e⟩
      · rcases R5 with e | e
        · exact ⟨0, by decide, e.2⟩
        · rw [e] at q
          exact absurd q (nI_ne (by decide) (by decide) (by decide))
    · exact (hWT u hu).same (fun k hk => R2 u k hut (by omega) hk)
  · by_cases hji : j = i
    · subst hji
      exact ⟨Or.inl R7, by rw [R8]; exact (hWX j hj).2⟩
    · refine ⟨?_, by rw [R6 j 2 hji (by omega) (by decide)]; exact (hWX j hj).2⟩
      rw [R6 j 3 hji (by omega) (by decide)]
      rcases (hWX j hj).1 with e | ⟨u, hu, e1, e2⟩
      · exact Or.inl e
      · refine Or.inr ⟨u, hu, e1, ?_⟩
        rw [R2 u 0 (fun q => ?_) (by omega) (by decide)]
        · exact e2
        · subst q
          have := hinj j i hj hi hji (by rw [e1, hd])
          rw [e1] at this
          exact nI_nm6 (by omega) this
  · by_cases hai : a = i
    · subst hai
      exact R7
    · by_cases hci : c = i
      · subst hci
        rw [he]
        exact R7
      · rw [R6 a 3 hai (by omega) (by decide)] at he ⊢
        rw [R6 c 3 hci (by omega) (by decide)] at he
        exact hinj a c ha hc hac he
/-- what only changes work left, or slots, or counters -/
theorem WF.same (h : WF f nF nT) (R1 : ∀ k, (k = 0 ∨ k = 2 ∨ k = 3) → gG g k = gG f k) (R2 : ∀ u k, u < 16 → k < 18 → gT g u k = gT f u k) (R3 : ∀ j k, j < 8 → (k = 2 ∨ k = 3) → gF g j k = gF f j k) : WF g nF nT := by
  obtain ⟨⟨g2, hF, g3, hT⟩, hp, hWT, hWX, hinj⟩ := h
  refine ⟨⟨by rw [R1 2 (by decide)]; exact g2, hF, by rw [R1 3 (by decide)]; exact g3, hT⟩, by rw [R1 0 (by decide)]; exact hp, fun u hu => (hWT u hu).same (fun k hk => R2 u k (by omega) hk), fun j hj => ?_, fun a c ha hc hac he => ?_⟩
  · unfold WX
    rw [R3 j 3 (by omega) (by decide), R3 j 2 (by omega) (by decide)]
    refine ⟨?_, (hWX j hj).2⟩
    rcases (hWX j hj).1 with e | ⟨u, hu, e1, e2⟩
    · exact Or.inl e
    · exact Or.inr ⟨u, hu, e1, by rw [R2 u 0 (by omega) (by decide)]; exact e2⟩
  · rw [R3 a 3 (by omega) (by decide)] at he ⊢
    rw [R3 c 3 (by omega) (by decide)] at he
    exact hinj a c ha hc hac he
/-- a waiting thing's slots, or its end -/
theorem WF.waits (h : WF f nF nT) (ht : t < nT) (hw : gT f t 0 = nI 0)
    (R1 : ∀ k, (k = 0 ∨ k = 2 ∨ k = 3) → gG g k = gG f k) (R2 : ∀ u k, u ≠ t → u < 16 → k < 18 → gT g u k = gT f u k) (R3 : ∀ k, k = 1 ∨ k = 2 ∨ 6 ≤ k → k < 18 → gT g t k = gT f t k)
    (R5 : (gT g t 0 = nI 0 ∧ ∃ w, w ≤ 50 ∧ gT g t 3 = nI w) ∨ gT g t 0 = nI 3)
    (R6 : ∀ j k, j < 8 → k < 6 → gF g j k = gF f j k) : WF g nF nT := by
  obtain ⟨⟨g2, hF, g3, hT⟩, hp, hWT, hWX, hinj⟩ := h
  refine ⟨⟨by rw [R1 2 (by decide)]; exact g2, hF, by rw [R1 3 (by decide)]; exact g3, hT⟩, by rw [R1 0 (by decide)]; exact hp, fun u hu => ?_, fun j hj => ?_, fun a c ha hc hac he => ?_⟩
  · by_cases hut : u = t
    · subst hut
      refine (hWT u hu).mk (R3 1 (by decide) (by decide)) (fun k h6 h18 => R3 k (Or.inr (Or.inr h6)) h18) ?_ ?_ (fun q => ?_)
      · rw [R3 2 (by decide) (by decide)]
        exact (hWT u hu).nx
      · rcases R5 with e | e
        · exact ⟨0, by decide, e.1⟩
        · exact ⟨3, by decide, e⟩
      · rcases R5 with e | e
        · exact e.2
        · rw [e] at q
          exact absurd q (nI_ne (by decide) (by decide) (by decide))
    · exact (hWT u hu).same (fun k hk => R2 u k hut (by omega) hk)
  · unfold WX
    rw [R6 j 3 (by omega) (by decide), R6 j 2 (by omega) (by decide)]
    refine ⟨?_, (hWX j hj).2⟩
    rcases (hWX j hj).1 with e | ⟨u, hu, e1, e2⟩
    · exact Or.inl e
    · refine Or.inr ⟨u, hu, e1, ?_⟩
      rw [R2 u 0 (fun q => ?_) (by omega) (by decide)]
      · exact e2
      · subst q
        rw [hw] at e2
        exact nI_ne (by decide) (by decide) (by decide) e2
  · rw [R6 a 3 (by omega) (by decide)] at he ⊢
    rw [R6 c 3 (by omega) (by decide)] at he
    exact hinj a c ha hc hac he
theorem i32_lt_ge {x y : Int32} (h : ¬ x < y) : y ≤ x := Int32.not_lt.mp h
theorem WF.wait (h : WF f nF nT) (ht : t < nT) : WF (waitF t f) nF nT := by
  have h0 := h
  obtain ⟨⟨g2, hF, g3, hT⟩, ⟨p, hp1, hp50, hp⟩, hWT, hWX, hinj⟩ := h
  have ht16 : t < 16 := by omega
  unfold waitF
  by_cases hw : gT f t 0 = nI 0
  · rw [if_pos hw]
    obtain ⟨n, s, -, -, -, hwt⟩ := hWT t ht
    obtain ⟨w, hw50, hwe⟩ := hwt hw
    by_cases hg : gG f 0 < gT f t 3 + nI 1
    · rw [if_pos hg]
      generalize gT f t 3 + nI 1 = v1
      refine h0.waits ht hw (fun k hk => ?_) (fun u k hu hu16 hk => ?_) (fun k hk hk18 => ?_) (Or.inr ?_) (fun j k hj hk => ?_)
      · rw [gG_sGk (by omega), gG_sT (Or.inl (by omega)) ht16 (by decide), gG_sT (Or.inl (by omega)) ht16 (by decide)]
      · rw [gT_sG (Or.inr (by decide)) hu16 hk, gT_sTt hu (by decide) hk, gT_sTt hu (by decide) hk]
      · rw [gT_sG (Or.inr (by decide)) ht16 hk18, gT_sTk (by omega), gT_sTk (by omega)]
      · rw [gT_sG (Or.inr (by decide)) ht16 (by decide), gT_sT]
      · rw [gF_sG (Or.inr (by decide)) hj hk, gF_sT hj hk, gF_sT hj hk]
    · rw [if_neg hg]
      rw [hwe, hp, nI_add, ltI _ _ (by omega) (by omega)] at hg
      refine h0.waits ht hw (fun k hk => ?_) (fun u k hu hu16 hk => ?_) (fun k hk hk18 => ?_) (Or.inl ⟨?_, w + 1, by omega, ?_⟩) (fun j k hj hk => ?_)
      · rw [gG_sT (Or.inl (by omega)) ht16 (by decide)]
      · rw [gT_sTt hu (by decide) hk]
      · rw [gT_sTk (by omega)]
      · rw [gT_sTk (by decide)]
        exact hw
      · rw [gT_sT, hwe, nI_add]
      · rw [gF_sT hj hk]
  · rw [if_neg hw]
    exact h0
theorem offF_R (hi : i < 8) : (∀ k, k < 10 ∨ 346 ≤ k → gG (offF f i) k = gG f k) ∧ (∀ u k, gT (offF f i) u k = gT f u k) ∧ (∀ j k, j ≠ i → k < 6 → gF (offF f i) j k = gF f j k) ∧ gF (offF f i) i 3 = m6 ∧ gF (offF f i) i 2 = gF f i 2 := by
  unfold offF
  generalize gF f i 5 + nI 1 = v
  refine ⟨fun k hk => ?_, fun u k => ?_, fun j k hj hk => ?_, ?_, ?_⟩
  · rw [gG_sF hk hi (by decide), gG_sF hk hi (by decide), gG_sF hk hi (by decide)]
  · rw [gT_sF hi (by decide), gT_sF hi (by decide), gT_sF hi (by decide)]
  · rw [gF_sFi hj (by decide) hk, gF_sFi hj (by decide) hk, gF_sFi hj (by decide) hk]
  · rw [gF_sFk (by decide), gF_sFk (by decide), gF_sF]
  · rw [gF_sFk (by decide), gF_sFk (by decide), gF_sFk (by decide)]
theorem wA_R (ht : t < 16) : (∀ k, k < 10 ∨ 346 ≤ k → gG (wA f t) k = gG f k) ∧ (∀ u k, u ≠ t → k < 18 → gT (wA f t) u k = gT f u k) ∧ (∀ k, k ≠ 0 → k ≠ 3 → gT (wA f t) t k = gT f t k) ∧ gT (wA f t) t 0 = nI 0 ∧ gT (wA f t) t 3 = nI 0 ∧ ∀ j k, j < 8 → k < 6 → gF (wA f t) j k = gF f j k := by
  unfold wA
  refine ⟨fun k hk => ?_, fun u k hu hk => ?_, fun k h0 h3 => ?_, ?_, ?_, fun j k hj hk => ?_⟩
  · rw [gG_sT hk ht (by decide), gG_sT hk ht (by decide)]
  · rw [gT_sTt hu (by decide) hk, gT_sTt hu (by decide) hk]
  · rw [gT_sTk h3, gT_sTk h0]
  · rw [gT_sTk (by decide), gT_sT]
  · rw [gT_sT]
  · rw [gF_sT hj hk, gF_sT hj hk]
theorem nI_pred1 {s : Nat} (h : 1 ≤ s) : nI s - nI 1 = nI (s - 1) := nI_sub s 1 h
theorem WF.endsStep (h : WF f nF nT) (hi : i < nF) (ht : t < nT) (hd : gF f i 3 = nI t) : WF (endsStepF f i t) nF nT := by
  have h0 := h
  obtain ⟨⟨g2, hF, g3, hT⟩, hp, hWT, hWX, hinj⟩ := h
  have hi8 : i < 8 := by omega
  have ht16 : t < 16 := by omega
  obtain ⟨o1, o2, o3, o4, o5⟩ := offF_R (f := f) hi8
  obtain ⟨n, s, ⟨e2, e1, hn, hs1, hs4⟩, -, -, -⟩ := hWT t ht
  unfold endsStepF
  cases hte : testedF f t with
  | true =>
    rw [if_pos rfl]
    unfold endsTestF
    have hns : n = s := by
      unfold testedF at hte
      rw [e2, e1] at hte
      exact nI_inj (by omega) (by omega) (eq_of_beq hte)
    by_cases hw : gT (offF f i) t 4 < gT (offF f i) t 5
    · rw [if_pos hw]
      generalize gT (offF f i) t 4 + nI 1 = v1
      generalize gG (offF f i) 5 + nI 1 = v2
      generalize gG (offF f i) 348 + nI 1 = v3
      rw [o2 t 1, e1, nI_pred1 hs1]
      obtain ⟨w1, w2, w3, w4, w5, w6⟩ := wA_R (f := sT (sG (sG (sT (offF f i) t 4 v1) 5 v2) 348 v3) t 2 (nI (s - 1))) ht16
      refine h0.ends hi ht hd (fun k hk => ?_) (fun u k hu hu16 hk => ?_) (fun k hk hk18 => ?_) ⟨s - 1, ?_, fun s' h1' _ _ => ?_⟩ (Or.inl ⟨w4, w5⟩) (fun j k hj hj8 hk => ?_) ?_ ?_
      · rw [w1 k (Or.inl (by omega)), gG_sT (Or.inl (by omega)) ht16 (by decide), gG_sGk (by omega), gG_sGk (by omega), gG_sT (Or.inl (by omega)) ht16 (by decide), o1 k (Or.inl (by omega))]
      · rw [w2 u k hu hk, gT_sTt hu (by decide) hk, gT_sG (Or.inr (by decide)) hu16 hk, gT_sG0' (by decide), gT_sTt hu (by decide) hk, o2]
      · rw [w3 k (by omega) (by omega), gT_sTk (by omega), gT_sG (Or.inr (by decide)) ht16 hk18, gT_sG0' (by decide), gT_sTk (by omega), o2]
      · rw [w3 2 (by decide) (by decide), gT_sT]
      · rw [e1] at h1'
        have := nI_inj (by omega) (by omega) h1'
        omega
      · rw [w6 j k hj8 hk, gF_sT hj8 hk, gF_sG (Or.inr (by decide)) hj8 hk, gF_sG (Or.inl (by decide)) hj8 hk, gF_sT hj8 hk, o3 j k hj hk]
      · rw [w6 i 3 hi8 (by decide), gF_sT hi8 (by decide), gF_sG (Or.inr (by decide)) hi8 (by decide), gF_sG (Or.inl (by decide)) hi8 (by decide), gF_sT hi8 (by decide), o4]
      · rw [w6 i 2 hi8 (by decide), gF_sT hi8 (by decide), gF_sG (Or.inr (by decide)) hi8 (by decide), gF_sG (Or.inl (by decide)) hi8 (by decide), gF_sT hi8 (by decide), o5]
    · rw [if_neg hw]
      generalize gG (offF f i) 346 + nI 1 = v1
      refine h0.ends hi ht hd (fun k hk => ?_) (fun u k hu hu16 hk => ?_) (fun k hk hk18 => ?_) ⟨n, ?_, fun s' h1' _ _ => ?_⟩ (Or.inr ?_) (fun j k hj hj8 hk => ?_) ?_ ?_
      · rw [gG_sGk (by omega), gG_sT (Or.inl (by omega)) ht16 (by decide), o1 k (Or.inl (by omega))]
      · rw [gT_sG (Or.inr (by decide)) hu16 hk, gT_sTt hu (by decide) hk, o2]
      · rw [gT_sG (Or.inr (by decide)) ht16 hk18, gT_sTk (by omega), o2]
      · rw [gT_sG (Or.inr (by decide)) ht16 (by decide), gT_sTk (by decide), o2, e2]
      · rw [e1] at h1'
        have := nI_inj (by omega) (by omega) h1'
        omega
      · rw [gT_sG (Or.inr (by decide)) ht16 (by decide), gT_sT]
      · rw [gF_sG (Or.inr (by decide)) hj8 hk, gF_sT hj8 hk, o3 j k hj hk]
      · rw [gF_sG (Or.inr (by decide)) hi8 (by decide), gF_sT hi8 (by decide), o4]
      · rw [gF_sG (Or.inr (by decide)) hi8 (by decide), gF_sT hi8 (by decide), o5]
  | false =>
    rw [if_neg (by decide)]
    have hns : n < s := by
      unfold testedF at hte
      rw [e2, e1] at hte
      have := beq_eq_false_iff_ne.mp hte
      rcases Nat.lt_or_ge n s with q | q
      · exact q
      · exact absurd (by rw [show n = s by omega]) this
    rw [e2, nI_add]
    obtain ⟨w1, w2, w3, w4, w5, w6⟩ := wA_R (f := sT (offF f i) t 2 (nI (n + 1))) ht16
    refine h0.ends hi ht hd (fun k hk => ?_) (fun u k hu hu16 hk => ?_) (fun k hk hk18 => ?_) ⟨n + 1, ?_, fun s' h1' _ _ => ?_⟩ (Or.inl ⟨w4, w5⟩) (fun j k hj hj8 hk => ?_) ?_ ?_
    · rw [w1 k (Or.inl (by omega)), gG_sT (Or.inl (by omega)) ht16 (by decide), o1 k (Or.inl (by omega))]
    · rw [w2 u k hu hk, gT_sTt hu (by decide) hk, o2]
    · rw [w3 k (by omega) (by omega), gT_sTk (by omega), o2]
    · rw [w3 2 (by decide) (by decide), gT_sT]
    · rw [e1] at h1'
      have := nI_inj (by omega) (by omega) h1'
      omega
    · rw [w6 j k hj8 hk, gF_sT hj8 hk, o3 j k hj hk]
    · rw [w6 i 3 hi8 (by decide), gF_sT hi8 (by decide), o4]
    · rw [w6 i 2 hi8 (by decide), gF_sT hi8 (by decide), o5]
theorem WF.left (h : WF f nF nT) (hi : i < nF) (v : Int32) : WF (sF f i 4 v) nF nT := by
  obtain ⟨⟨g2, hF, g3, hT⟩, -⟩ := id h
  refine h.same (fun k hk => gG_sF (Or.inl (by omega)) (by omega) (by decide)) (fun u k _ _ => gT_sF (by omega) (by decide)) (fun j k hj hk => ?_)
  by_cases hji : j = i
  · subst hji
    exact gF_sFk (by omega)
  · exact gF_sFi hji (by decide) (by omega)
theorem WF.work (h : WF f nF nT) (hi : i < nF) : WF (workF i f) nF nT := by
  obtain ⟨⟨g2, hF, g3, hT⟩, -, -, hWX, -⟩ := id h
  unfold workF
  by_cases hd : gF f i 3 = m6
  · rw [if_pos hd]
    exact h
  · rw [if_neg hd]
    rcases (hWX i hi).1 with e | ⟨t, ht, e1, e2⟩
    · exact absurd e hd
    · generalize gF f i 4 - gF f i 1 = v
      by_cases hl : v ≤ nI 0
      · rw [if_pos hl, e1, nI_clamp (by omega)]
        exact (h.left hi v).endsStep hi ht (by rw [gF_sFk (by decide)]; exact e1)
      · rw [if_neg hl]
        exact h.left hi v
theorem lgF_spec (n : Nat) : lgF f i n = m6 ∨ ∃ t, t < n ∧ lgF f i n = nI t ∧ canF f i t = true := by
  induction n with
  | zero => exact Or.inl rfl
  | succ n ih =>
    simp only [lgF]
    split
    · rename_i hc
      simp only [Bool.and_eq_true] at hc
      exact Or.inr ⟨n, by omega, rfl, hc.1⟩
    · rcases ih with e | ⟨t, ht, e, hc⟩
      · exact Or.inl e
      · exact Or.inr ⟨t, by omega, e, hc⟩
theorem canF_w (h : canF f i t = true) : freeF f i = true ∧ gT f t 0 = nI 0 ∧ gF f i 3 = m6 := by
  unfold canF at h
  simp only [Bool.and_eq_true] at h
  obtain ⟨h1, h2, -⟩ := h
  have h1' := h1
  unfold freeF at h1
  unfold wwpF at h2
  simp only [Bool.and_eq_true, beq_iff_eq] at h1 h2
  exact ⟨h1', h2.1, h1.2⟩
theorem WF.take (h : WF f nF nT) (hi : i < nF) : WF (takeF nT i f) nF nT := by
  obtain ⟨⟨g2, hF, g3, hT⟩, -⟩ := id h
  unfold takeF
  split
  · rcases lgF_spec (f := f) (i := i) nT with e | ⟨t, ht, e, hc⟩
    · rw [if_pos e]
      exact h
    · rw [e, if_neg (nI_nm6 (by omega)), nI_clamp (by omega)]
      obtain ⟨c1, c2, c3⟩ := canF_w hc
      exact h.takes hi ht c3 c2
  · exact h
theorem WF.lp {g : Nat → (Nat → Int32) → (Nat → Int32)} {n : Nat} (h : WF f nF nT) (hg : ∀ i, i < n → ∀ f', WF f' nF nT → WF (g i f') nF nT) : WF (lpF g n f) nF nT := by
  induction n with
  | zero => exact h
  | succ n ih => exact hg n (by omega) _ (ih (fun i hi => hg i (by omega)))
theorem WF.ns (h : WF f nF nT) : nFf f = nF ∧ nTf f = nT := by
  obtain ⟨⟨g2, hF, g3, hT⟩, -⟩ := h
  unfold nFf nTf
  rw [g2, g3, nI_clamp (by omega), nI_clamp (by omega)]
  exact ⟨rfl, rfl⟩
theorem WF.works (h : WF f nF nT) : WF (worksF f) nF nT := by
  unfold worksF
  rw [h.ns.1]
  exact h.lp (fun i hi f' h' => h'.work hi)
theorem WF.takeAll (h : WF f nF nT) : WF (takeAllF f) nF nT := by
  unfold takeAllF
  rw [h.ns.1, h.ns.2]
  exact h.lp (fun i hi f' h' => h'.take hi)
theorem WF.waitOn (h : WF f nF nT) : WF (waitOnF f) nF nT := by
  unfold waitOnF
  rw [h.ns.2]
  exact h.lp (fun i hi f' h' => h'.wait hi)
theorem WF.sG (h : WF f nF nT) {k : Nat} (v : Int32) (hk : k = 1 ∨ (4 ≤ k ∧ k < 10) ∨ 346 ≤ k) : WF (sG f k v) nF nT :=
  h.same (fun k' hk' => gG_sGk (by omega)) (fun u k' hu hk' => gT_sG (by omega) hu hk') (fun j k' hj hk' => gF_sG (by omega) hj (by omega))
theorem WF.slot (h : WF f nF nT) : WF (slotF f) nF nT := h.works.takeAll.waitOn.sG _ (by decide)
theorem WF.zero (h : WF f nF nT) : WF (zeroF f) nF nT := ((h.sG _ (by decide)).sG _ (by decide)).sG _ (by decide)
theorem WF.slots (h : WF f nF nT) (n : Nat) : WF (slotsF n f) nF nT := h.lp (fun _ _ _ h' => h'.slot)
theorem WF.passes (h : WF f nF nT) (n : Nat) : WF (passesF n f) nF nT := h.zero.slots n
end WFS
