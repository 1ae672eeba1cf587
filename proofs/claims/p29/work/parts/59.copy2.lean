/-! a morning copied onto another -/
theorem bM_rB (m : vMM) (b : Nat) : ∃ c, bM m b c = m := by
  refine ⟨fun j => @dite Int32 (∃ p : Nat × Nat, ixB b p.1 p.2 = j) (Classical.propDecidable _) (fun h => m h.choose.1 h.choose.2) (fun _ => nI 0), ?_⟩
  funext a k
  unfold bM
  by_cases h : ixB b a k < 346
  · rw [if_pos h]
    have hx : ∃ p : Nat × Nat, ixB b p.1 p.2 = ixB b a k := ⟨(a, k), rfl⟩
    refine (dif_pos hx).trans ?_
    have hs := hx.choose_spec
    have := ixB_inj (by omega) hs
    rw [this.1, this.2]
  · rw [if_neg h]
theorem ixB_in {b a k : Nat} (h : ixB b a k < 346) : b ≤ a ∧ a < b + 76 := by
  rcases ixB_row h with ⟨rfl, p1⟩ | ⟨p0, p1, p2, p3⟩ | ⟨i, p1, p2, p3, p4⟩ | ⟨t, p1, p2, p3, p4⟩ | ⟨t, w, p1, p2, p3, p4, p5⟩ <;> omega
theorem bM_bM {m : vMM} {b : Nat} {c c' : Nat → Int32} : bM (bM m b c) b c' = bM m b c' := by
  funext a k
  unfold bM
  by_cases h : ixB b a k < 346
  · rw [if_pos h, if_pos h]
  · rw [if_neg h, if_neg h, if_neg h]
theorem bM_comm {m : vMM} {a b : Nat} {c s : Nat → Int32} (hd : a + 76 ≤ b ∨ b + 76 ≤ a) : bM (bM m b c) a s = bM (bM m a s) b c := by
  funext q k
  unfold bM
  by_cases h : ixB b q k < 346
  · have h2 : ¬ ixB a q k < 346 := fun h2 => by have := ixB_in h; have := ixB_in h2; omega
    rw [if_neg h2, if_pos h, if_pos h]
  · by_cases h2 : ixB a q k < 346
    · rw [if_pos h2, if_neg h, if_pos h2]
    · rw [if_neg h2, if_neg h, if_neg h, if_neg h2]
/-- the block at b reads as the row c -/
def Blk (m : vMM) (b : Nat) (c : Nat → Int32) : Prop := bM m b c = m
theorem Blk.mk {m : vMM} {b : Nat} {c : Nat → Int32} : Blk (bM m b c) b c := bM_bM
theorem Blk.oth {m : vMM} {a b : Nat} {c s : Nat → Int32} (h : Blk m a s) (hd : a + 76 ≤ b ∨ b + 76 ≤ a) : Blk (bM m b c) a s := by
  unfold Blk at h ⊢
  rw [bM_comm hd, h]
theorem Blk.cong {m m' : vMM} {b : Nat} {c : Nat → Int32} (h : Blk m b c) (e : ∀ a, b ≤ a → a < b + 76 → m' a = m a) : Blk m' b c := by
  unfold Blk at h ⊢
  funext a k
  unfold bM
  by_cases h2 : ixB b a k < 346
  · rw [if_pos h2]
    have h3 := ixB_in h2
    rw [e a h3.1 h3.2]
    have := congrFun (congrFun h a) k
    unfold bM at this
    rw [if_pos h2] at this
    exact this
  · rw [if_neg h2]
section COPY2
variable {D : vDD} {m : vMM} {f c s : Nat → Int32} {z : vZZ} {Q : Value → vDD → vMM → vZZ → Prop} {a b nF nT : Nat}
theorem x_copyX (hB : IsM D b) {q i : Nat} {S : Nat → Int32} (hq : q < b ∨ b + 76 ≤ q) (hk : (D q).1 = 0) (hS : m q 0 = S 0 ∧ m q 1 = S 1 ∧ m q 2 = S 2 ∧ m q 3 = S 3 ∧ m q 4 = S 4 ∧ m q 5 = S 5) (h2 : S 2 = nI 0 ∨ S 2 = nI 1) (hi : i < 8) :
    Runs MX0_copyFrom 0 [.ref (b + 4 + i), .ref q] [] D (bM m b c) z Q = Q vJ D (bM m b (sF (sF (sF (sF (sF (sF c i 0 (S 0)) i 1 (S 1)) i 2 (S 2)) i 3 (S 3)) i 4 (S 4)) i 5 (S 5))) z := by
  have f0 : (D (b + 4 + i)).1 = 0 := hB.2.2.2.1 i hi
  have o : ∀ g, bM m b g q = m q := fun g => bM_o hq
  simp (disch := omega) only [sX0_copyFrom_0, sX0_copyFrom_1, sX0_copyFrom_2, sX0_copyFrom_5, sX0_copyFrom_8, sX0_copyFrom_9, sX0_copyFrom_10, sX0_copyFrom_13, sX0_copyFrom_16, sX0_copyFrom_17, sX0_copyFrom_18, sX0_copyFrom_21, sX0_copyFrom_24, sX0_copyFrom_25, sX0_copyFrom_26, sX0_copyFrom_29, sX0_copyFrom_32, sX0_copyFrom_33, sX0_copyFrom_34, sX0_copyFrom_37, sX0_copyFrom_40, sX0_copyFrom_41, sX0_copyFrom_42, sX0_copyFrom_45, sX0_copyFrom_48, f0, hk, true_and, and_true, true_or, or_true, eq_self, ↓reduceIte, if_true, if_false, nI_add, nI_mul, inB_nI, nI_clamp, Nat.add_zero, eqI, ltI, leI, m6_ne, ne_m6, Nat.reduceEqDiff, reduceCtorEq, Nat.reduceLT, Nat.reduceLeDiff, Nat.reduceAdd, Nat.reduceMul, Nat.zero_add, Nat.mul_zero, nar_0, nar_1, nar_b, bI_t, bI_f, bI_0, bI_1, Bool.true_eq_false, Bool.false_eq_true, Bool.and_self, Bool.and_false, Bool.false_and, Bool.true_and, Bool.and_true, and_self, o, hS, h2, w_F]
theorem ag_X {P : Nat → Prop} {i : Nat} (h : ∀ j, P j → c j = s j) : ∀ j, (P j ∨ (10 + 6 * i ≤ j ∧ j < 10 + 6 * (i + 1))) → sF (sF (sF (sF (sF (sF c i 0 (gF s i 0)) i 1 (gF s i 1)) i 2 (gF s i 2)) i 3 (gF s i 3)) i 4 (gF s i 4)) i 5 (gF s i 5) j = s j := by
  intro j hj
  unfold sF gF upd
  by_cases h5 : j = 10 + 6 * i + 5
  · rw [if_pos h5, h5]
  · rw [if_neg h5]
    by_cases h4 : j = 10 + 6 * i + 4
    · rw [if_pos h4, h4]
    · rw [if_neg h4]
      by_cases h3 : j = 10 + 6 * i + 3
      · rw [if_pos h3, h3]
      · rw [if_neg h3]
        by_cases h2 : j = 10 + 6 * i + 2
        · rw [if_pos h2, h2]
        · rw [if_neg h2]
          by_cases h1 : j = 10 + 6 * i + 1
          · rw [if_pos h1, h1]
          · rw [if_neg h1]
            by_cases h0 : j = 10 + 6 * i + 0
            · rw [if_pos h0, h0]
            · rw [if_neg h0]
              exact h j (hj.resolve_right (by omega))
theorem ag_T {P : Nat → Prop} {t : Nat} (h : ∀ j, P j → c j = s j) : ∀ j, (P j ∨ (58 + 18 * t ≤ j ∧ j < 58 + 18 * (t + 1))) → cpT c (fun k => gT s t k) t j = s j := by
  intro j hj
  unfold cpT gT
  by_cases h0 : 58 + 18 * t ≤ j ∧ j < 58 + 18 * t + 18
  · rw [if_pos h0]
    show s (58 + 18 * t + (j - (58 + 18 * t))) = s j
    congr 1
    omega
  · rw [if_neg h0]
    exact h j (hj.resolve_right (by omega))
theorem or_stp {P : Prop} {a b c j : Nat} (h : P ∨ (a ≤ j ∧ j < c)) : (P ∨ (a ≤ j ∧ j < b)) ∨ (b ≤ j ∧ j < c) := by
  rcases h with h | ⟨h1, h2⟩
  · exact Or.inl (Or.inl h)
  · by_cases e : j < b
    · exact Or.inl (Or.inr ⟨h1, e⟩)
    · exact Or.inr ⟨by omega, h2⟩
theorem ag_G {P : Nat → Prop} {k : Nat} (h : ∀ j, P j → c j = s j) : ∀ j, (P j ∨ j = k) → sG c k (gG s k) j = s j := by
  intro j hj
  unfold sG gG upd
  by_cases h0 : j = k
  · rw [if_pos h0, h0]
  · rw [if_neg h0]
    exact h j (hj.resolve_right h0)
theorem Blk.X (hs : Blk m a s) {i : Nat} (hi : i < 8) : m (a + 4 + i) 0 = gF s i 0 ∧ m (a + 4 + i) 1 = gF s i 1 ∧ m (a + 4 + i) 2 = gF s i 2 ∧ m (a + 4 + i) 3 = gF s i 3 ∧ m (a + 4 + i) 4 = gF s i 4 ∧ m (a + 4 + i) 5 = gF s i 5 := by
  unfold Blk at hs
  rw [← hs]
  exact ⟨b_F hi (by decide), b_F hi (by decide), b_F hi (by decide), b_F hi (by decide), b_F hi (by decide), b_F hi (by decide)⟩
theorem Blk.G (hs : Blk m a s) : m a 3 = gG s 2 ∧ m a 4 = gG s 3 ∧ m a 5 = gG s 0 ∧ m a 6 = gG s 1 ∧ m a 7 = gG s 4 ∧ m a 8 = gG s 5 := by
  unfold Blk at hs
  rw [← hs]
  exact ⟨b_nF, b_nT, b_pat, b_tst, b_slt, b_fld⟩
theorem Blk.p (hs : Blk m a s) {k : Nat} (hk : k < 4) : m (a + 3) k = gG s (6 + k) := by
  unfold Blk at hs
  rw [← hs]
  exact b_prt hk
theorem Blk.T (hs : Blk m a s) {t : Nat} (ht : t < 16) : RdT m (a + 12 + 4 * t) (fun k => gT s t k) := by
  unfold Blk at hs
  rw [← hs]
  exact RdT.blk ht
theorem l_cp1 (hB : IsM D b) (hA : IsM D a) (hs : Blk m a s) (hd : a + 76 ≤ b ∨ b + 76 ≤ a) (h2 : ∀ i, i < nF → gF s i 2 = nI 0 ∨ gF s i 2 = nI 1) (hn : nF ≤ 8) (e2 : gG s 2 = nI nF) : ∀ k i c, i + k = nF → (∀ j, (j = 2 ∨ (10 ≤ j ∧ j < 10 + 6 * i)) → c j = s j) →
    ∃ c', (∀ j, (j = 2 ∨ (10 ≤ j ∧ j < 10 + 6 * nF)) → c' j = s j) ∧ ∀ Q, Runs MX2_copyFrom 10 [.ref b, .ref a, .int (nI i)] [] D (bM m b c) z Q = Runs MX2_copyFrom 39 [.ref b, .ref a, .int (nI nF)] [] D (bM m b c') z Q := by
  obtain ⟨⟨b1, b2, b3, b4⟩, ⟨b5, b6, b7, b8, b9, b10⟩, b11, b12, -⟩ := id hB
  obtain ⟨⟨a1, a2, a3, a4⟩, ⟨a5, a6, a7, a8, a9, a10⟩, a11, a12, -⟩ := id hA
  intro k
  induction k with
  | zero =>
    intro i c hi hc
    obtain rfl : i = nF := by omega
    have e3 : gG c 2 = nI i := (show gG c 2 = gG s 2 from hc 2 (Or.inl rfl)).trans e2
    refine ⟨c, hc, fun Q => ?_⟩
    rw [sX2_copyFrom_10]
    simp (disch := omega) only [sX2_copyFrom_11, sX2_copyFrom_12, sX2_copyFrom_15, sX2_copyFrom_18, sX2_copyFrom_19, sX2_copyFrom_22, sX2_copyFrom_23, sX2_copyFrom_24, sX2_copyFrom_25, sX2_copyFrom_28, sX2_copyFrom_29, sX2_copyFrom_30, sX2_copyFrom_33, sX2_copyFrom_36, b1, true_and, and_true, true_or, or_true, eq_self, ↓reduceIte, if_true, if_false, nI_add, nI_mul, inB_nI, nI_clamp, Nat.add_zero, eqI, ltI, leI, m6_ne, ne_m6, Nat.reduceEqDiff, reduceCtorEq, Nat.reduceLT, Nat.reduceLeDiff, Nat.reduceAdd, Nat.reduceMul, Nat.zero_add, Nat.mul_zero, nar_0, nar_1, nar_b, bI_t, bI_f, bI_0, bI_1, Bool.true_eq_false, Bool.false_eq_true, Bool.and_self, Bool.and_false, Bool.false_and, Bool.true_and, Bool.and_true, and_self, b_nF, e3, Nat.le_refl]
  | succ k ih =>
    intro i c hi hc
    have hlt : ¬ nF ≤ i := by omega
    have e3 : gG c 2 = nI nF := (show gG c 2 = gG s 2 from hc 2 (Or.inl rfl)).trans e2
    have b11 := b11 i (by omega)
    have a11 := a11 i (by omega)
    have b12' := b12 i (by omega)
    have hc1 := ag_X (i := i) hc
    have x := fun Q => x_copyX (Q := Q) (c := c) (m := m) (z := z) hB (q := a + 4 + i) (i := i) (S := fun k => gF s i k) (by omega) (a12 i (by omega)) (hs.X (by omega)) (h2 i (by omega)) (by omega)
    generalize sF (sF (sF (sF (sF (sF c i 0 (gF s i 0)) i 1 (gF s i 1)) i 2 (gF s i 2)) i 3 (gF s i 3)) i 4 (gF s i 4)) i 5 (gF s i 5) = c1 at hc1 x
    obtain ⟨c', r, y⟩ := ih (i + 1) c1 (by omega) (fun j hj => hc1 j (by omega))
    have o1 : ∀ g, bM m b g a = m a := fun g => bM_o (by omega)
    refine ⟨c', r, fun Q => ?_⟩
    rw [sX2_copyFrom_10]
    simp (disch := omega) only [sX2_copyFrom_11, sX2_copyFrom_12, sX2_copyFrom_15, sX2_copyFrom_18, sX2_copyFrom_19, sX2_copyFrom_22, sX2_copyFrom_23, sX2_copyFrom_24, sX2_copyFrom_25, sX2_copyFrom_28, sX2_copyFrom_29, sX2_copyFrom_30, sX2_copyFrom_33, sX2_copyFrom_36, b1, b2, b5, b6, b11, b12', a1, a2, a5, a6, a11, true_and, and_true, true_or, or_true, eq_self, ↓reduceIte, if_true, if_false, nI_add, nI_mul, inB_nI, nI_clamp, Nat.add_zero, eqI, ltI, leI, m6_ne, ne_m6, Nat.reduceEqDiff, reduceCtorEq, Nat.reduceLT, Nat.reduceLeDiff, Nat.reduceAdd, Nat.reduceMul, Nat.zero_add, Nat.mul_zero, nar_0, nar_1, nar_b, bI_t, bI_f, bI_0, bI_1, Bool.true_eq_false, Bool.false_eq_true, Bool.and_self, Bool.and_false, Bool.false_and, Bool.true_and, Bool.and_true, and_self, b_nF, e3, hlt, x, y]
theorem l_cp2 (hB : IsM D b) (hA : IsM D a) (hs : Blk m a s) (hd : a + 76 ≤ b ∨ b + 76 ≤ a) (hn : nT ≤ 16) (e2 : gG s 3 = nI nT) {P : Nat → Prop} : ∀ k t c, t + k = nT → (∀ j, ((P j ∨ j = 3) ∨ (58 ≤ j ∧ j < 58 + 18 * t)) → c j = s j) →
    ∃ c', (∀ j, ((P j ∨ j = 3) ∨ (58 ≤ j ∧ j < 58 + 18 * nT)) → c' j = s j) ∧ ∀ Q, Runs MX2_copyFrom 49 [.ref b, .ref a, .int (nI t)] [] D (bM m b c) z Q = Runs MX2_copyFrom 78 [.ref b, .ref a, .int (nI nT)] [] D (bM m b c') z Q := by
  obtain ⟨⟨b1, b2, b3, b4⟩, ⟨b5, b6, b7, b8, b9, b10⟩, b11, b12, b13, b14, -⟩ := id hB
  obtain ⟨⟨a1, a2, a3, a4⟩, ⟨a5, a6, a7, a8, a9, a10⟩, a11, a12, a13, a14, -⟩ := id hA
  intro k
  induction k with
  | zero =>
    intro t c hi hc
    obtain rfl : t = nT := by omega
    have e3 : gG c 3 = nI t := (show gG c 3 = gG s 3 from hc 3 (Or.inl (Or.inr rfl))).trans e2
    refine ⟨c, hc, fun Q => ?_⟩
    rw [sX2_copyFrom_49]
    simp (disch := omega) only [sX2_copyFrom_50, sX2_copyFrom_51, sX2_copyFrom_54, sX2_copyFrom_57, sX2_copyFrom_58, sX2_copyFrom_61, sX2_copyFrom_62, sX2_copyFrom_63, sX2_copyFrom_64, sX2_copyFrom_67, sX2_copyFrom_68, sX2_copyFrom_69, sX2_copyFrom_72, sX2_copyFrom_75, b1, true_and, and_true, true_or, or_true, eq_self, ↓reduceIte, if_true, if_false, nI_add, nI_mul, inB_nI, nI_clamp, Nat.add_zero, eqI, ltI, leI, m6_ne, ne_m6, Nat.reduceEqDiff, reduceCtorEq, Nat.reduceLT, Nat.reduceLeDiff, Nat.reduceAdd, Nat.reduceMul, Nat.zero_add, Nat.mul_zero, nar_0, nar_1, nar_b, bI_t, bI_f, bI_0, bI_1, Bool.true_eq_false, Bool.false_eq_true, Bool.and_self, Bool.and_false, Bool.false_and, Bool.true_and, Bool.and_true, and_self, b_nT, e3, Nat.le_refl]
  | succ k ih =>
    intro t c hi hc
    have hlt : ¬ nT ≤ t := by omega
    have e3 : gG c 3 = nI nT := (show gG c 3 = gG s 3 from hc 3 (Or.inl (Or.inr rfl))).trans e2
    have b13 := b13 t (by omega)
    have b14 := b14 t (by omega)
    have a13 := a13 t (by omega)
    have hc1 := ag_T (t := t) hc
    have x := fun Q => x_copyT (Q := Q) (c := c) (m := m) (z := z) hB (q := a + 12 + 4 * t) (t := t) (S := fun k => gT s t k) (hA.T (by omega)) (hs.T (by omega)) (by omega) (by omega)
    generalize cpT c (fun k => gT s t k) t = c1 at hc1 x
    obtain ⟨c', r, y⟩ := ih (t + 1) c1 (by omega) (fun j hj => hc1 j (or_stp hj))
    refine ⟨c', r, fun Q => ?_⟩
    rw [sX2_copyFrom_49]
    simp (disch := omega) only [sX2_copyFrom_50, sX2_copyFrom_51, sX2_copyFrom_54, sX2_copyFrom_57, sX2_copyFrom_58, sX2_copyFrom_61, sX2_copyFrom_62, sX2_copyFrom_63, sX2_copyFrom_64, sX2_copyFrom_67, sX2_copyFrom_68, sX2_copyFrom_69, sX2_copyFrom_72, sX2_copyFrom_75, b1, b3, b7, b8, b13, b14, a1, a3, a7, a8, a13, true_and, and_true, true_or, or_true, eq_self, ↓reduceIte, if_true, if_false, nI_add, nI_mul, inB_nI, nI_clamp, Nat.add_zero, eqI, ltI, leI, m6_ne, ne_m6, Nat.reduceEqDiff, reduceCtorEq, Nat.reduceLT, Nat.reduceLeDiff, Nat.reduceAdd, Nat.reduceMul, Nat.zero_add, Nat.mul_zero, nar_0, nar_1, nar_b, bI_t, bI_f, bI_0, bI_1, Bool.true_eq_false, Bool.false_eq_true, Bool.and_self, Bool.and_false, Bool.false_and, Bool.true_and, Bool.and_true, and_self, b_nT, e3, hlt, x, y]
theorem l_cp3 (hB : IsM D b) (hA : IsM D a) (hs : Blk m a s) (hd : a + 76 ≤ b ∨ b + 76 ≤ a) {P : Nat → Prop} : ∀ k i c, i + k = 4 → (∀ j, (P j ∨ (6 ≤ j ∧ j < 6 + i)) → c j = s j) →
    ∃ c', (∀ j, (P j ∨ (6 ≤ j ∧ j < 10)) → c' j = s j) ∧ ∀ Q, Runs MX2_copyFrom 80 [.ref b, .ref a, .int (nI i)] [] D (bM m b c) z Q = Runs MX2_copyFrom 103 [.ref b, .ref a, .int (nI 4)] [] D (bM m b c') z Q := by
  obtain ⟨⟨b1, b2, b3, b4⟩, ⟨b5, b6, b7, b8, b9, b10⟩, -⟩ := id hB
  obtain ⟨⟨a1, a2, a3, a4⟩, ⟨a5, a6, a7, a8, a9, a10⟩, -⟩ := id hA
  intro k
  induction k with
  | zero =>
    intro i c hi hc
    obtain rfl : i = 4 := by omega
    refine ⟨c, hc, fun Q => ?_⟩
    rw [sX2_copyFrom_80]
    simp (disch := omega) only [sX2_copyFrom_81, sX2_copyFrom_82, sX2_copyFrom_85, sX2_copyFrom_86, sX2_copyFrom_89, sX2_copyFrom_90, sX2_copyFrom_91, sX2_copyFrom_94, sX2_copyFrom_95, sX2_copyFrom_96, sX2_copyFrom_97, sX2_copyFrom_100, b1, true_and, and_true, true_or, or_true, eq_self, ↓reduceIte, if_true, if_false, nI_add, nI_mul, inB_nI, nI_clamp, Nat.add_zero, eqI, ltI, leI, m6_ne, ne_m6, Nat.reduceEqDiff, reduceCtorEq, Nat.reduceLT, Nat.reduceLeDiff, Nat.reduceAdd, Nat.reduceMul, Nat.zero_add, Nat.mul_zero, nar_0, nar_1, nar_b, bI_t, bI_f, bI_0, bI_1, Bool.true_eq_false, Bool.false_eq_true, Bool.and_self, Bool.and_false, Bool.false_and, Bool.true_and, Bool.and_true, and_self, Nat.le_refl]
  | succ k ih =>
    intro i c hi hc
    have hlt : ¬ 4 ≤ i := by omega
    have hc1 := ag_G (k := 6 + i) hc
    have p := hs.p (k := i) (by omega)
    have o3 : ∀ g, bM m b g (a + 3) = m (a + 3) := fun g => bM_o (by omega)
    obtain ⟨c', r, y⟩ := ih (i + 1) _ (by omega) (fun j hj => hc1 j ((or_stp (b := 6 + i) hj).imp_right (fun h => by omega)))
    refine ⟨c', r, fun Q => ?_⟩
    rw [sX2_copyFrom_80]
    simp (disch := omega) only [sX2_copyFrom_81, sX2_copyFrom_82, sX2_copyFrom_85, sX2_copyFrom_86, sX2_copyFrom_89, sX2_copyFrom_90, sX2_copyFrom_91, sX2_copyFrom_94, sX2_copyFrom_95, sX2_copyFrom_96, sX2_copyFrom_97, sX2_copyFrom_100, b1, b4, b9, b10, a1, a4, a9, a10, true_and, and_true, true_or, or_true, eq_self, ↓reduceIte, if_true, if_false, nI_add, nI_mul, inB_nI, nI_clamp, Nat.add_zero, eqI, ltI, leI, m6_ne, ne_m6, Nat.reduceEqDiff, reduceCtorEq, Nat.reduceLT, Nat.reduceLeDiff, Nat.reduceAdd, Nat.reduceMul, Nat.zero_add, Nat.mul_zero, nar_0, nar_1, nar_b, bI_t, bI_f, bI_0, bI_1, Bool.true_eq_false, Bool.false_eq_true, Bool.and_self, Bool.and_false, Bool.false_and, Bool.true_and, Bool.and_true, and_self, hlt, o3, p, w_prt, y]
theorem x_copyM (hB : IsM D b) (hA : IsM D a) (hs : Blk m a s) (hd : a + 76 ≤ b ∨ b + 76 ≤ a) (h2 : ∀ i, i < nF → gF s i 2 = nI 0 ∨ gF s i 2 = nI 1) (hn : nF ≤ 8) (e2 : gG s 2 = nI nF) (hn2 : nT ≤ 16) (e3 : gG s 3 = nI nT) :
    ∃ c', (∀ j, (j < 10 ∨ (10 ≤ j ∧ j < 10 + 6 * nF) ∨ (58 ≤ j ∧ j < 58 + 18 * nT)) → c' j = s j) ∧ ∀ Q, Runs MX2_copyFrom 0 [.ref b, .ref a, vJ] [] D (bM m b c) z Q = Q vJ D (bM m b c') z := by
  obtain ⟨b1, -⟩ := hB.1
  obtain ⟨a1, -⟩ := hA.1
  obtain ⟨g2, g3, g0, g1, g4, g5⟩ := hs.G
  have o : ∀ g, bM m b g a = m a := fun g => bM_o (by omega)
  have hc0 : ∀ j, (False ∨ j = 2) → sG c 2 (gG s 2) j = s j := ag_G (P := fun _ => False) (fun _ h => h.elim)
  obtain ⟨c1, r1, y1⟩ := l_cp1 (D := D) (z := z) hB hA hs hd h2 hn e2 nF 0 (sG c 2 (gG s 2)) (by omega) (fun j hj => hc0 j (by omega))
  have hc1 := ag_G (k := 3) r1
  obtain ⟨c2, r2, y2⟩ := l_cp2 (D := D) (z := z) (P := fun j => j = 2 ∨ (10 ≤ j ∧ j < 10 + 6 * nF)) hB hA hs hd hn2 e3 nT 0 (sG c1 3 (gG s 3)) (by omega) (fun j hj => hc1 j (by omega))
  obtain ⟨c3, r3, y3⟩ := l_cp3 (D := D) (z := z) (P := fun j => ((j = 2 ∨ (10 ≤ j ∧ j < 10 + 6 * nF)) ∨ j = 3) ∨ (58 ≤ j ∧ j < 58 + 18 * nT)) hB hA hs hd 4 0 c2 (by omega) (fun j hj => r2 j (by omega))
  have h0 := ag_G (k := 0) r3
  have h1 := ag_G (k := 1) h0
  have h4 := ag_G (k := 4) h1
  have h5 := ag_G (k := 5) h4
  refine ⟨_, fun j hj => h5 j (by omega), fun Q => ?_⟩
  simp (disch := omega) only [sX2_copyFrom_0, sX2_copyFrom_1, sX2_copyFrom_2, sX2_copyFrom_5, sX2_copyFrom_8, sX2_copyFrom_9, sX2_copyFrom_39, sX2_copyFrom_40, sX2_copyFrom_41, sX2_copyFrom_44, sX2_copyFrom_47, sX2_copyFrom_48, sX2_copyFrom_78, sX2_copyFrom_79, sX2_copyFrom_103, sX2_copyFrom_104, sX2_copyFrom_105, sX2_copyFrom_108, sX2_copyFrom_111, sX2_copyFrom_112, sX2_copyFrom_113, sX2_copyFrom_116, sX2_copyFrom_119, sX2_copyFrom_120, sX2_copyFrom_121, sX2_copyFrom_124, sX2_copyFrom_127, sX2_copyFrom_128, sX2_copyFrom_129, sX2_copyFrom_132, sX2_copyFrom_135, b1, a1, true_and, and_true, true_or, or_true, eq_self, ↓reduceIte, if_true, if_false, nI_add, nI_mul, inB_nI, nI_clamp, Nat.add_zero, eqI, ltI, leI, m6_ne, ne_m6, Nat.reduceEqDiff, reduceCtorEq, Nat.reduceLT, Nat.reduceLeDiff, Nat.reduceAdd, Nat.reduceMul, Nat.zero_add, Nat.mul_zero, nar_0, nar_1, nar_b, bI_t, bI_f, bI_0, bI_1, Bool.true_eq_false, Bool.false_eq_true, Bool.and_self, Bool.and_false, Bool.false_and, Bool.true_and, Bool.and_true, and_self, o, g2, g3, g0, g1, g4, g5, w_nF, y1, w_nT, y2, y3, w_pat, w_tst, w_slt, w_fld]
theorem Rfc.cp {c' : Nat → Int32} (h : Rfc f s nF nT) (e : ∀ j, (j < 10 ∨ (10 ≤ j ∧ j < 10 + 6 * nF) ∨ (58 ≤ j ∧ j < 58 + 18 * nT)) → c' j = s j) : Rfc f c' nF nT := by
  have eG : ∀ k, k < 10 → gG c' k = gG s k := fun k hk => e k (by omega)
  have eF : ∀ i, i < nF → ∀ k, k < 6 → gF c' i k = gF s i k := fun i hi k hk => e _ (by omega)
  have eT : ∀ t, t < nT → ∀ k, k < 18 → gT c' t k = gT s t k := fun t ht k hk => e _ (by omega)
  refine ⟨fun k hk => (eG k hk).trans (h.1 k hk), fun i hi k hk => (eF i hi k hk).trans (h.2.1 i hi k hk), fun t ht => ?_⟩
  obtain ⟨h1, h2, h3⟩ := h.2.2 t ht
  exact ⟨fun k hk h3 => (eT t ht k (by omega)).trans (h1 k hk h3), (eT t ht 3 (by decide)).trans h2, fun s n hn hs h4 w hw => (eT t ht _ (by omega)).trans (h3 s n hn hs h4 w hw)⟩
theorem x_copyR (hB : IsM D b) (hA : IsM D a) (hs : Blk m a s) (hd : a + 76 ≤ b ∨ b + 76 ≤ a) (hR : Rfc f s nF nT) (hW : WF f nF nT) : ∃ c', Rfc f c' nF nT ∧ ∀ Q, Runs MX2_copyFrom 0 [.ref b, .ref a, vJ] [] D m z Q = Q vJ D (bM m b c') z := by
  obtain ⟨c, hc⟩ := bM_rB m b
  obtain ⟨c', r, y⟩ := x_copyM (D := D) (z := z) (c := c) hB hA hs hd (nF := nF) (nT := nT) (fun i hi => by rw [hR.2.1 i hi 2 (by decide)]; exact (hW.2.2.2.1 i hi).2) hW.1.2.1 ((hR.1 2 (by decide)).trans hW.1.1) hW.1.2.2.2 ((hR.1 3 (by decide)).trans hW.1.2.2.1)
  rw [hc] at y
  exact ⟨c', hR.cp r, y⟩
end COPY2
