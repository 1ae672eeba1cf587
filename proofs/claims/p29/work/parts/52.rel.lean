/-! a normal form of rows, and what keeps the relation -/
section NFS
variable {f : Nat → Int32} {i t k k' : Nat} {v w : Int32}
theorem n_FT (hi : i < 8) (h : k < 6) : sF (sT f t k' v) i k w = sT (sF f i k w) t k' v := upd_comm (by omega)
theorem n_GT (h : k < 10 ∨ 346 ≤ k) (ht : t < 16) (hk : k' < 18) : sG (sT f t k' v) k w = sT (sG f k w) t k' v := upd_comm (by omega)
theorem n_GF (h : k < 10 ∨ 346 ≤ k) (hi : i < 8) (hk : k' < 6) : sG (sF f i k' v) k w = sF (sG f k w) i k' v := upd_comm (by omega)
theorem n_FF : sF (sF f i k v) i k w = sF f i k w := upd_upd
theorem n_FFc (h : k' < k) : sF (sF f i k v) i k' w = sF (sF f i k' w) i k v := upd_comm (by omega)
theorem n_TT : sT (sT f t k v) t k w = sT f t k w := upd_upd
theorem n_TTc (h : k' < k) : sT (sT f t k v) t k' w = sT (sT f t k' w) t k v := upd_comm (by omega)
theorem n_GG : sG (sG f k v) k w = sG f k w := upd_upd
theorem n_GGc (h : k' < k) : sG (sG f k v) k' w = sG (sG f k' w) k v := upd_comm (by omega)
end NFS
section RFC
variable {f c : Nat → Int32} {nF nT : Nat}
theorem Rfc.G (h : Rfc f c nF nT) {k : Nat} {v : Int32} (hk : k < 10) (h8 : nF ≤ 8) (h16 : nT ≤ 16) : Rfc (sG f k v) (sG c k v) nF nT := by
  refine ⟨fun j hj => ?_, fun i hi j hj => ?_, fun t ht => ?_⟩
  · by_cases e : j = k
    · subst e; rw [gG_sG, gG_sG]
    · rw [gG_sGk e, gG_sGk e]; exact h.1 j hj
  · rw [gF_sG (Or.inl hk) (by omega) hj, gF_sG (Or.inl hk) (by omega) hj]; exact h.2.1 i hi j hj
  · have e : ∀ (g : Nat → Int32) j, gT (sG g k v) t j = gT g t j := fun g j => gT_sG0 hk
    obtain ⟨a, b, c'⟩ := h.2.2 t ht
    refine ⟨fun j hj h3 => by rw [e, e]; exact a j hj h3, by rw [e, e, e]; exact b, fun s n hn hs h4 w hw => ?_⟩
    rw [e] at hn
    rw [e, e]
    exact c' s n hn hs h4 w hw
/-- the model's counters -/
theorem Rfc.o (h : Rfc f c nF nT) {k : Nat} {v : Int32} (hk : 346 ≤ k) (h8 : nF ≤ 8) (h16 : nT ≤ 16) : Rfc (sG f k v) c nF nT := by
  refine ⟨fun j hj => ?_, fun i hi j hj => ?_, fun t ht => ?_⟩
  · rw [gG_sGk (by omega)]; exact h.1 j hj
  · rw [gF_sG (Or.inr hk) (by omega) hj]; exact h.2.1 i hi j hj
  · have e : ∀ j, j < 18 → gT (sG f k v) t j = gT f t j := fun j hj => gT_sG (Or.inr hk) (by omega) hj
    obtain ⟨a, b, c'⟩ := h.2.2 t ht
    refine ⟨fun j hj h3 => by rw [e j (by omega)]; exact a j hj h3, by rw [e 0 (by decide), e 3 (by decide)]; exact b, fun s n hn hs h4 w hw => ?_⟩
    rw [e 1 (by decide)] at hn
    rw [e _ (by omega)]
    exact c' s n hn hs h4 w hw
theorem Rfc.F (h : Rfc f c nF nT) {i k : Nat} {v : Int32} (hi : i < 8) (hk : k < 6) (h8 : nF ≤ 8) : Rfc (sF f i k v) (sF c i k v) nF nT := by
  refine ⟨fun j hj => ?_, fun i' hi' j hj => ?_, fun t ht => ?_⟩
  · rw [gG_sF (Or.inl hj) hi hk, gG_sF (Or.inl hj) hi hk]; exact h.1 j hj
  · by_cases e : i' = i
    · subst e
      by_cases e2 : j = k
      · subst e2; rw [gF_sF, gF_sF]
      · rw [gF_sFk e2, gF_sFk e2]; exact h.2.1 i' hi' j hj
    · rw [gF_sFi e hk hj, gF_sFi e hk hj]; exact h.2.1 i' hi' j hj
  · have e : ∀ (g : Nat → Int32) j, gT (sF g i k v) t j = gT g t j := fun g j => gT_sF hi hk
    obtain ⟨a, b, c'⟩ := h.2.2 t ht
    refine ⟨fun j hj h3 => by rw [e, e]; exact a j hj h3, by rw [e, e, e]; exact b, fun s n hn hs h4 w hw => ?_⟩
    rw [e] at hn
    rw [e, e]
    exact c' s n hn hs h4 w hw
theorem Rfc.T (h : Rfc f c nF nT) {t k : Nat} {v : Int32} (ht : t < 16) (hk : k = 2 ∨ k = 4 ∨ k = 5) (h16 : nT ≤ 16) (h8 : nF ≤ 8) : Rfc (sT f t k v) (sT c t k v) nF nT := by
  refine ⟨fun j hj => ?_, fun i hi j hj => ?_, fun u hu => ?_⟩
  · rw [gG_sT (Or.inl hj) ht (by omega), gG_sT (Or.inl hj) ht (by omega)]; exact h.1 j hj
  · rw [gF_sT (by omega) hj, gF_sT (by omega) hj]; exact h.2.1 i hi j hj
  · obtain ⟨a, b, c'⟩ := h.2.2 u hu
    by_cases e : u = t
    · subst e
      have e : ∀ (g : Nat → Int32) j, j ≠ k → gT (sT g u k v) u j = gT g u j := fun g j hj => gT_sTk hj
      refine ⟨fun j hj h3 => ?_, by rw [e _ _ (by omega), e _ _ (by omega), e _ _ (by omega)]; exact b, fun s n hn hs h4 w hw => ?_⟩
      · by_cases e2 : j = k
        · subst e2; rw [gT_sT, gT_sT]
        · rw [e _ _ e2, e _ _ e2]; exact a j hj h3
      · rw [e _ _ (by omega)] at hn
        rw [e _ _ (by omega), e _ _ (by omega)]
        exact c' s n hn hs h4 w hw
    · have e : ∀ (g : Nat → Int32) j, j < 18 → gT (sT g t k v) u j = gT g u j := fun g j hj => gT_sTt e (by omega) hj
      refine ⟨fun j hj h3 => by rw [e _ _ (by omega), e _ _ (by omega)]; exact a j hj h3, by rw [e _ _ (by decide), e _ _ (by decide), e _ _ (by decide)]; exact b, fun s n hn hs h4 w hw => ?_⟩
      rw [e _ _ (by decide)] at hn
      rw [e _ _ (by omega), e _ _ (by omega)]
      exact c' s n hn hs h4 w hw
/-- the state v, and the waiting x in the model, y in the class -/
theorem Rfc.st (h : Rfc f c nF nT) {t : Nat} {v x y : Int32} (ht : t < 16) (h16 : nT ≤ 16) (h8 : nF ≤ 8) (hxy : y = if v = nI 0 then x else nI 0) : Rfc (sT (sT f t 0 v) t 3 x) (sT (sT c t 0 v) t 3 y) nF nT := by
  refine ⟨fun j hj => ?_, fun i hi j hj => ?_, fun u hu => ?_⟩
  · rw [gG_sT (Or.inl hj) ht (by omega), gG_sT (Or.inl hj) ht (by omega), gG_sT (Or.inl hj) ht (by omega), gG_sT (Or.inl hj) ht (by omega)]; exact h.1 j hj
  · rw [gF_sT (by omega) hj, gF_sT (by omega) hj, gF_sT (by omega) hj, gF_sT (by omega) hj]; exact h.2.1 i hi j hj
  · obtain ⟨a, b, c'⟩ := h.2.2 u hu
    by_cases e : u = t
    · subst e
      have e : ∀ (g : Nat → Int32) (q : Int32) j, j ≠ 0 → j ≠ 3 → gT (sT (sT g u 0 v) u 3 q) u j = gT g u j := fun g q j h0 h3 => by rw [gT_sTk h3, gT_sTk h0]
      refine ⟨fun j hj h3 => ?_, ?_, fun s n hn hs h4 w hw => ?_⟩
      · by_cases e2 : j = 0
        · subst e2; rw [gT_sTk (k := 3) (by decide), gT_sT, gT_sTk (k := 3) (by decide), gT_sT]
        · rw [e _ _ _ e2 h3, e _ _ _ e2 h3]; exact a j hj h3
      · rw [gT_sT, gT_sT, gT_sTk (by decide), gT_sT]
        exact hxy
      · rw [e _ _ _ (by omega) (by omega)] at hn
        rw [e _ _ _ (by omega) (by omega), e _ _ _ (by omega) (by omega)]
        exact c' s n hn hs h4 w hw
    · have e : ∀ (g : Nat → Int32) (q : Int32) j, j < 18 → gT (sT (sT g t 0 v) t 3 q) u j = gT g u j := fun g q j hj => by rw [gT_sTt e (by decide) hj, gT_sTt e (by decide) hj]
      refine ⟨fun j hj h3 => by rw [e _ _ _ (by omega), e _ _ _ (by omega)]; exact a j hj h3, by rw [e _ _ _ (by decide), e _ _ _ (by decide), e _ _ _ (by decide)]; exact b, fun s n hn hs h4 w hw => ?_⟩
      rw [e _ _ _ (by decide)] at hn
      rw [e _ _ _ (by omega), e _ _ _ (by omega)]
      exact c' s n hn hs h4 w hw
theorem sT_self {f : Nat → Int32} {t k : Nat} {v : Int32} (h : gT f t k = v) : sT f t k v = f := by
  funext j
  unfold sT upd
  by_cases e : j = 58 + 18 * t + k
  · rw [if_pos e, e]; exact h.symm
  · rw [if_neg e]
theorem sG_self {f : Nat → Int32} {k : Nat} {v : Int32} (h : gG f k = v) : sG f k v = f := by
  funext j
  unfold sG upd
  by_cases e : j = k
  · rw [if_pos e, e]; exact h.symm
  · rw [if_neg e]
/-- the state v alone in the model (its waiting stays) -/
theorem Rfc.st1 (h : Rfc f c nF nT) {t : Nat} {v : Int32} (ht : t < 16) (h16 : nT ≤ 16) (h8 : nF ≤ 8) (hv : v ≠ nI 0) : Rfc (sT f t 0 v) (sT (sT c t 0 v) t 3 (nI 0)) nF nT := by
  have := h.st (v := v) (x := gT f t 3) (y := nI 0) ht h16 h8 (by rw [if_neg hv])
  rw [sT_self (f := sT f t 0 v) (by rw [gT_sTk (by decide)])] at this
  exact this
/-- one waits on -/
theorem Rfc.wt (h : Rfc f c nF nT) {t : Nat} {x : Int32} (ht : t < 16) (ht2 : t < nT) (h16 : nT ≤ 16) (h8 : nF ≤ 8) (hv : gT f t 0 = nI 0) : Rfc (sT f t 3 x) (sT c t 3 x) nF nT := by
  have := h.st (v := nI 0) (x := x) (y := x) ht h16 h8 (by rw [if_pos rfl])
  rw [sT_self hv, sT_self (((h.2.2 t ht2).1 0 (by decide) (by decide)).trans hv)] at this
  exact this
theorem Rfc.out (h : Rfc f c nF nT) {p : Int32} (hp : p = m6 ∨ ∃ n, n < 4 ∧ p = nI n) (h8 : nF ≤ 8) (h16 : nT ≤ 16) : Rfc (outP f p) (outP c p) nF nT := by
  unfold outP
  rcases hp with rfl | ⟨n, hn, rfl⟩
  · rw [if_pos rfl, if_pos rfl]; exact h
  · rw [if_neg (nI_nm6 (by omega)), if_neg (nI_nm6 (by omega)), nI_clamp (by omega), h.1 (6 + n) (by omega)]
    exact h.G (by omega) h8 h16
end RFC
section CLS2
variable {D : vDD} {m : vMM} {f c : Nat → Int32} {z : vZZ} {Q : Value → vDD → vMM → vZZ → Prop} {nF nT b : Nat}
theorem x_leaveQueue (hB : IsM D b) {t : Nat} {v : Int32} (ht : t < 16) : Runs MX5_leaveQueue 0 [.ref (b + 12 + 4 * t), .int v] [] D (bM m b c) z Q = Q vJ D (bM m b (sT (sT c t 0 v) t 3 (nI 0))) z := by
  simp only [IsM] at hB
  simp (disch := omega) only [sX5_leaveQueue_0, sX5_leaveQueue_1, sX5_leaveQueue_2, sX5_leaveQueue_5, sX5_leaveQueue_6, sX5_leaveQueue_7, sX5_leaveQueue_10, hB, true_and, and_true, true_or, or_true, eq_self, ↓reduceIte, if_true, if_false, nI_add, nI_mul, inB_nI, nI_clamp, Nat.add_zero, eqI, ltI, leI, m6_ne, ne_m6, Nat.reduceEqDiff, reduceCtorEq, Nat.reduceLT, Nat.reduceLeDiff, Nat.reduceAdd, Nat.reduceMul, Nat.zero_add, Nat.mul_zero, nar_0, nar_1, nar_b, bI_t, bI_f, bI_0, bI_1, Bool.true_eq_false, Bool.false_eq_true, Bool.and_self, Bool.and_false, Bool.false_and, Bool.true_and, Bool.and_true, and_self, w_T0, w_T3]
theorem x_becomeWaiting (hB : IsM D b) {t : Nat} (ht : t < 16) : Runs MX5_becomeWaiting 0 [.ref (b + 12 + 4 * t)] [] D (bM m b c) z Q = Q vJ D (bM m b (wA c t)) z := by
  simp only [IsM] at hB
  simp (disch := omega) only [sX5_becomeWaiting_0, sX5_becomeWaiting_1, sX5_becomeWaiting_2, sX5_becomeWaiting_5, sX5_becomeWaiting_6, sX5_becomeWaiting_7, sX5_becomeWaiting_10, hB, true_and, and_true, true_or, or_true, eq_self, ↓reduceIte, if_true, if_false, nI_add, nI_mul, inB_nI, nI_clamp, Nat.add_zero, eqI, ltI, leI, m6_ne, ne_m6, Nat.reduceEqDiff, reduceCtorEq, Nat.reduceLT, Nat.reduceLeDiff, Nat.reduceAdd, Nat.reduceMul, Nat.zero_add, Nat.mul_zero, nar_0, nar_1, nar_b, bI_t, bI_f, bI_0, bI_1, Bool.true_eq_false, Bool.false_eq_true, Bool.and_self, Bool.and_false, Bool.false_and, Bool.true_and, Bool.and_true, and_self, w_T0, w_T3, wA]
theorem x_becomeFree (hB : IsM D b) {i : Nat} (hi : i < 8) : Runs MX0_becomeFree 0 [.ref (b + 4 + i)] [] D (bM m b c) z Q = Q vJ D (bM m b (clrF i c)) z := by
  simp only [IsM] at hB
  simp (disch := omega) only [sX0_becomeFree_0, sX0_becomeFree_1, sX0_becomeFree_3, sX0_becomeFree_6, sX0_becomeFree_7, sX0_becomeFree_8, sX0_becomeFree_11, hB, true_and, and_true, true_or, or_true, eq_self, ↓reduceIte, if_true, if_false, nI_add, nI_mul, inB_nI, nI_clamp, Nat.add_zero, eqI, ltI, leI, m6_ne, ne_m6, Nat.reduceEqDiff, reduceCtorEq, Nat.reduceLT, Nat.reduceLeDiff, Nat.reduceAdd, Nat.reduceMul, Nat.zero_add, Nat.mul_zero, nar_0, nar_1, nar_b, bI_t, bI_f, bI_0, bI_1, Bool.true_eq_false, Bool.false_eq_true, Bool.and_self, Bool.and_false, Bool.false_and, Bool.true_and, Bool.and_true, and_self, w_F, clrF]
theorem x_waitOn (hB : IsM D b) (hR : Rfc f c nF nT) (hW : WF f nF nT) {t : Nat} (ht : t < nT) : ∃ c', Rfc (waitF t f) c' nF nT ∧ ∀ Q, Runs MX2_waitOn 0 [.ref b, .ref (b + 12 + 4 * t)] [] D (bM m b c) z Q = Q vJ D (bM m b c') z := by
  have hb := hB
  simp only [IsM] at hb
  have h16 := hW.1.2.2.2
  have h8 := hW.1.2.1
  have e0 := (hR.2.2 t ht).1 0 (by decide) (by decide)
  have e3 := (hR.2.2 t ht).2.1
  have ep := hR.1 0 (by decide)
  unfold waitF
  by_cases h0 : gT f t 0 = nI 0
  · rw [h0] at e0
    rw [if_pos h0] at e3
    rw [if_pos h0]
    have r1 := hR.wt (x := gT f t 3 + nI 1) (by omega) ht h16 h8 h0
    by_cases hl : gG f 0 < gT f t 3 + nI 1
    · have hl' : ¬ gT f t 3 + nI 1 ≤ gG f 0 := fun q => Int32.lt_irrefl (Int32.lt_of_lt_of_le hl q)
      rw [if_pos hl]
      refine ⟨_, (r1.st1 (t := t) (v := nI 3) (by omega) h16 h8 (nI_ne (by decide) (by decide) (by decide))).o (by decide) h8 h16, fun Q => ?_⟩
      have lq : ∀ c Q, Runs MX5_leaveQueue 0 [.ref (b + 12 + 4 * t), .int (nI 3)] [] D (bM m b c) z Q = Q vJ D (bM m b (sT (sT c t 0 (nI 3)) t 3 (nI 0))) z := fun c Q => x_leaveQueue hB (by omega)
      simp (disch := omega) only [sX2_waitOn_0, sX2_waitOn_1, sX2_waitOn_4, sX2_waitOn_7, sX2_waitOn_8, sX2_waitOn_9, sX2_waitOn_10, sX2_waitOn_13, sX2_waitOn_14, sX2_waitOn_15, sX2_waitOn_18, sX2_waitOn_19, sX2_waitOn_22, sX2_waitOn_23, sX2_waitOn_26, sX2_waitOn_29, sX2_waitOn_30, sX2_waitOn_31, sX2_waitOn_34, hb, true_and, and_true, true_or, or_true, eq_self, ↓reduceIte, if_true, if_false, nI_add, nI_mul, inB_nI, nI_clamp, Nat.add_zero, eqI, ltI, leI, m6_ne, ne_m6, Nat.reduceEqDiff, reduceCtorEq, Nat.reduceLT, Nat.reduceLeDiff, Nat.reduceAdd, Nat.reduceMul, Nat.zero_add, Nat.mul_zero, nar_0, nar_1, nar_b, bI_t, bI_f, bI_0, bI_1, Bool.true_eq_false, Bool.false_eq_true, Bool.and_self, Bool.and_false, Bool.false_and, Bool.true_and, Bool.and_true, and_self, b_T0, e0, b_T3, e3, w_T3, gT_sT, b_pat, gG_sT, ep, hl', lq]
    · have hl' : gT f t 3 + nI 1 ≤ gG f 0 := Int32.not_lt.mp hl
      rw [if_neg hl]
      refine ⟨_, r1, fun Q => ?_⟩
      simp (disch := omega) only [sX2_waitOn_0, sX2_waitOn_1, sX2_waitOn_4, sX2_waitOn_7, sX2_waitOn_8, sX2_waitOn_9, sX2_waitOn_10, sX2_waitOn_13, sX2_waitOn_14, sX2_waitOn_15, sX2_waitOn_18, sX2_waitOn_19, sX2_waitOn_22, sX2_waitOn_23, sX2_waitOn_26, sX2_waitOn_29, sX2_waitOn_30, sX2_waitOn_31, sX2_waitOn_34, hb, true_and, and_true, true_or, or_true, eq_self, ↓reduceIte, if_true, if_false, nI_add, nI_mul, inB_nI, nI_clamp, Nat.add_zero, eqI, ltI, leI, m6_ne, ne_m6, Nat.reduceEqDiff, reduceCtorEq, Nat.reduceLT, Nat.reduceLeDiff, Nat.reduceAdd, Nat.reduceMul, Nat.zero_add, Nat.mul_zero, nar_0, nar_1, nar_b, bI_t, bI_f, bI_0, bI_1, Bool.true_eq_false, Bool.false_eq_true, Bool.and_self, Bool.and_false, Bool.false_and, Bool.true_and, Bool.and_true, and_self, b_T0, e0, b_T3, e3, w_T3, gT_sT, b_pat, gG_sT, ep, hl']
  · rw [if_neg h0]
    refine ⟨c, hR, fun Q => ?_⟩
    simp (disch := omega) only [sX2_waitOn_0, sX2_waitOn_1, sX2_waitOn_4, sX2_waitOn_7, sX2_waitOn_8, sX2_waitOn_9, sX2_waitOn_10, sX2_waitOn_13, sX2_waitOn_14, sX2_waitOn_15, sX2_waitOn_18, sX2_waitOn_19, sX2_waitOn_22, sX2_waitOn_23, sX2_waitOn_26, sX2_waitOn_29, sX2_waitOn_30, sX2_waitOn_31, sX2_waitOn_34, hb, true_and, and_true, true_or, or_true, eq_self, ↓reduceIte, if_true, if_false, nI_add, nI_mul, inB_nI, nI_clamp, Nat.add_zero, eqI, ltI, leI, m6_ne, ne_m6, Nat.reduceEqDiff, reduceCtorEq, Nat.reduceLT, Nat.reduceLeDiff, Nat.reduceAdd, Nat.reduceMul, Nat.zero_add, Nat.mul_zero, nar_0, nar_1, nar_b, bI_t, bI_f, bI_0, bI_1, Bool.true_eq_false, Bool.false_eq_true, Bool.and_self, Bool.and_false, Bool.false_and, Bool.true_and, Bool.and_true, and_self, b_T0, e0, h0]
end CLS2
