/-! the model's slot: its writes and loops -/
section NS
variable {f : Nat → Int32} {i t u w k : Nat} {v : Int32}
theorem gT_sG0 {k' : Nat} (h : k' < 10) : gT (sG f k' v) t k = gT f t k := upd_ne _ _ (by omega)
theorem testedF_sF (h : i < 8) (h1 : k < 6) : testedF (sF f i k v) t = testedF f t := by unfold testedF; rw [gT_sF h h1, gT_sF h h1]
theorem testedF_sTk (h1 : k ≠ 1) (h2 : k ≠ 2) : testedF (sT f t k v) t = testedF f t := by unfold testedF; rw [gT_sTk (Ne.symm h2), gT_sTk (Ne.symm h1)]
theorem testedF_sTt (h : u ≠ t) (h1 : k < 18) : testedF (sT f t k v) u = testedF f u := by unfold testedF; rw [gT_sTt h h1 (by decide), gT_sTt h h1 (by decide)]
theorem testedF_sG (h : k < 10) : testedF (sG f k v) t = testedF f t := by unfold testedF; rw [gT_sG0 h, gT_sG0 h]
theorem nsF_sF (h : i < 8) (h1 : k < 6) : nsF (sF f i k v) t w = nsF f t w := by unfold nsF; simp only [testedF_sF h h1, gT_sF h h1, gG_sF (k' := 1) (Or.inl (by decide)) h h1]
theorem nsF_sTk (ht : t < 16) (h1 : k ≠ 1) (h2 : k ≠ 2) (h3 : k < 6) : nsF (sT f t k v) t w = nsF f t w := by
  unfold nsF
  rw [testedF_sTk h1 h2, gG_sT (Or.inl (by decide)) ht (by omega), gT_sTk (k' := 2) (Ne.symm h2), gT_sTk (by omega)]
theorem nsF_sG (h : k < 10) (h1 : k ≠ 1) : nsF (sG f k v) t w = nsF f t w := by unfold nsF; rw [testedF_sG h, gT_sG0 h, gT_sG0 h, gG_sGk (Ne.symm h1)]
theorem nsF_outP {p : Int32} (hp : p = m6 ∨ ∃ n, n < 4 ∧ p = nI n) : nsF (outP f p) t w = nsF f t w ∧ testedF (outP f p) t = testedF f t ∧ ∀ k, gT (outP f p) t k = gT f t k := by
  unfold outP
  rcases hp with rfl | ⟨n, hn, rfl⟩
  · simp
  · rw [if_neg (by rw [ne_m6 n (by omega)]; exact id), nI_clamp (by omega)]
    exact ⟨nsF_sG (by omega) (by omega), testedF_sG (by omega), fun k => gT_sG0 (by omega)⟩
end NS
section MDL2
variable {D : vDD} {m : vMM} {f : Nat → Int32} {z : vZZ} {Q : Value → vDD → vMM → vZZ → Prop}
end MDL2
