/-! the law's run from its start -/
def D0s (L : Nat) : vDD := fun a => if a = 0 then (20, L, fun _ => none) else (99, 0, fun _ => none)
def m0s (xs : Nat → Int32) : vMM := fun a => if a = 0 then xs else fun _ => 0
theorem WF_f0 : WF f0F 0 0 :=
  ⟨⟨rfl, by decide, rfl, by decide⟩, ⟨6, by decide, by decide, rfl⟩, fun t ht => absurd ht (Nat.not_lt_zero t), fun i hi => absurd hi (Nat.not_lt_zero i), fun i _ hi => absurd hi (Nat.not_lt_zero i)⟩
theorem Rfc_ini {m : vMM} {b : Nat} {c : Nat → Int32} (hB : Blk m b c) (hI : INI m b) : Rfc f0F c 0 0 := by
  obtain ⟨g2, g3, g0, g1, g4, g5⟩ := hB.G
  obtain ⟨⟨i3, i4, i5, i6, i7, i8⟩, ip⟩ := hI
  refine ⟨fun k hk => ?_, fun i hi => absurd hi (Nat.not_lt_zero i), fun t ht => absurd ht (Nat.not_lt_zero t)⟩
  by_cases h6 : 6 ≤ k
  · have hp := hB.p (k := k - 6) (by omega)
    rw [ip (k - 6) (by omega), (by omega : 6 + (k - 6) = k)] at hp
    rw [← hp]
    show nI 2 = if k = 0 then nI 6 else if k = 1 then nI 2 else if 6 ≤ k ∧ k < 10 then nI 2 else nI 0
    rw [if_neg (by omega), if_neg (by omega), if_pos ⟨h6, hk⟩]
  · rcases (by omega : k = 0 ∨ k = 1 ∨ k = 2 ∨ k = 3 ∨ k = 4 ∨ k = 5) with rfl | rfl | rfl | rfl | rfl | rfl
    · exact (i5.symm.trans g0).symm.trans rfl
    · exact (i6.symm.trans g1).symm.trans rfl
    · exact (i3.symm.trans g2).symm.trans rfl
    · exact (i4.symm.trans g3).symm.trans rfl
    · exact (i7.symm.trans g4).symm.trans rfl
    · exact (i8.symm.trans g5).symm.trans rfl
theorem Wd0.wd {D D' : vDD} (h : Wd0 D) (e : ∀ q, q < 853 → D' q = D q) (hM : IsMo D') : Wd D' id := by
  obtain ⟨h1, ⟨h2, h3, h4, h5, h6⟩, h7, h8, h9⟩ := h
  refine ⟨?_, ⟨h2.cong (fun a _ _ => e a (by omega)), h3.cong (fun a _ _ => e a (by omega)), h4.cong (fun a _ _ => e a (by omega)), h5.cong (fun a _ _ => e a (by omega)), fun k hk => (h6 k hk).cong (fun a _ _ => e a (by omega))⟩, ?_, ?_, hM, ?_⟩
  · unfold IsMM at h1 ⊢
    rw [e 1 (by decide), e 154 (by decide), e 307 (by decide), e 308 (by decide)]
    exact h1
  · unfold IsPad at h7 ⊢
    rw [e 766 (by decide), e 767 (by decide), e 768 (by decide)]
    exact ⟨h7.1, h7.2.1, h7.2.2.1, fun j hj => (h7.2.2.2 j hj).cong (fun a _ _ => e a (by omega))⟩
  · unfold IsPl at h8 ⊢
    rw [e 849 (by decide), e 850 (by decide), e 851 (by decide), e 852 (by decide)]
    exact h8
  · unfold IsHi at h9 ⊢
    rw [e 309 (by decide)]
    exact h9
theorem law_runs {L : Nat} {xs : Nat → Int32} (hL : L ≤ 2048) : Runs ML_law 0 [.ref 0, vJ, vJ, vJ] [] (D0s L) (m0s xs) (1, 0) (fun v _ _ z' => v = .int (nI 1) ∧ z' = (867, 9024)) := by
  obtain ⟨D1, M1, W1, F1, I1, z1, z2, z3, y1⟩ := x_newMM (D := nwD (D0s L) 1 (6, 0, fun _ => none)) (m := nwM (m0s xs) 1) (n := 7) (by rw [nwD_e])
  obtain ⟨D2, M2, W2, F2, r2, g1, g2, y2⟩ := x_newModel (D := nwD D1 853 (7, 0, fun _ => none)) (m := nwM M1 853) (n := 5267 + 21) (by rw [nwD_e]) nwM_e
  have f2 : ∀ q, q < 853 → D2 q = D1 q ∧ M2 q = M1 q := fun q hq => by rw [(F2 q (Or.inl hq)).1, (F2 q (Or.inl hq)).2, nwD_o (by omega), nwM_o (by omega)]; exact ⟨rfl, rfl⟩
  have hW : Wd D2 id := W1.wd (fun q hq => (f2 q hq).1) W2
  obtain ⟨c, hc⟩ := bM_rB M2 2
  have hI : INI M2 2 := by
    unfold INI at I1 ⊢
    rw [(f2 2 (by decide)).2, (f2 5 (by decide)).2]
    exact I1
  have hB : Blk M2 2 c := hc
  have hs : M2 307 = fun _ => 0 := by rw [(f2 307 (by decide)).2, z1]
  have hh : M2 308 = fun _ => 0 := by rw [(f2 308 (by decide)).2, z2]
  have hp : M2 766 = fun _ => 0 := by rw [(f2 766 (by decide)).2, z3]
  have C : ClS D2 id M2 f0F 0 0 0 0 (M2 856) (M2 857) false false (fun _ => 0) := by
    refine ⟨hW, ⟨c, hB, Rfc_ini hB hI⟩, WF_f0, ⟨by rw [hp]; rfl, by decide, fun j hj => absurd hj (Nat.not_lt_zero j)⟩, ⟨by rw [hh]; rfl, by decide, fun j hj => absurd hj (Nat.not_lt_zero j)⟩, ⟨by rw [hs]; rfl, by rw [hs]; rfl⟩, fun h => absurd h (by decide), fun h => absurd h (by decide)⟩
  have S : MoS M2 0 0 (M2 856) (M2 857) false false (fun _ => 0) := by
    refine ⟨⟨by rw [g1]; rfl, by decide, rfl, rfl⟩, ⟨by rw [g2]; rfl, by rw [g2]; rfl⟩, ⟨by rw [g1]; rfl, by decide, fun j hj => absurd hj (Nat.not_lt_zero j)⟩, 0, 0, by rw [g1]; rfl, by rw [g1]; rfl⟩
  have E : eM M2 f0F = M2 := by
    funext a
    by_cases h4 : a = 854
    · subst h4
      funext k
      by_cases hk : k < 346
      · rw [eM_st hk, r2 k]
      · simp only [eM, ↓reduceIte, hk]
    · by_cases h3 : a = 853
      · subst h3
        funext j
        by_cases j8 : j = 8
        · subst j8; rw [g1]; rfl
        · by_cases j9 : j = 9
          · subst j9; rw [g1]; rfl
          · by_cases j10 : j = 10
            · subst j10; rw [g1]; rfl
            · rw [eM_fld j8 j9 j10]
      · rw [eM_oth h4 h3]
  have K : Cpl D2 M2 := ⟨id, f0F, 0, 0, 0, 0, M2 856, M2 857, false, false, fun _ => 0, C, S, E⟩
  have e0 : D2 0 = D0s L 0 ∧ M2 0 = m0s xs 0 := by
    rw [(f2 0 (by decide)).1, (f2 0 (by decide)).2, (F1 0 (by decide)).1, (F1 0 (by decide)).2, nwD_o (by decide), nwM_o (by decide)]
    exact ⟨rfl, rfl⟩
  have hS : SCR D2 M2 L xs := ⟨by rw [e0.1]; rfl, by rw [e0.1]; rfl, by rw [e0.2]; rfl⟩
  have ll := l_law (z := (867, 9024)) (xs := xs) hL (by decide) 512 0 D2 M2 (by omega) (by omega) hS K
  have k1 : (D1 1).1 = 6 := W1.1.1.1
  have k2 : (D2 853).1 = 7 := W2.1.1
  simp only [Nat.reduceAdd] at y1 y2
  simp (disch := omega) only [sL_law_0, sL_law_3, sL_law_4, sL_law_7, sL_law_8, sL_law_11, sL_law_12, sL_law_15, sL_law_16, sL_law_17, nwD_e, true_and, Nat.reduceAdd, y1, y2, k1, k2]
  exact ll
