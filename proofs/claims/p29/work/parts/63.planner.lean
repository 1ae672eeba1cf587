/-! the planner: who can take what, the plan -/
def CHp (m m' : vMM) : Prop := ∀ a, a < 849 ∨ 852 < a → m' a = m a
theorem CHp.refl {m : vMM} : CHp m m := fun _ _ => rfl
theorem CHp.trans {a b c : vMM} (h : CHp a b) (h2 : CHp b c) : CHp a c := fun x hx => (h2 x hx).trans (h x hx)
theorem CHp.row {m : vMM} {row : Nat → Int32} {k : Nat} (h : 849 ≤ k ∧ k ≤ 852) : CHp m (setR m k row) := fun a ha => setR_ne (by omega)
theorem CHp.blk {m m' : vMM} {b : Nat} {c : Nat → Int32} (h : CHp m m') (hB : Blk m b c) (hb : b + 76 ≤ 849) : Blk m' b c := hB.cong (fun a h1 h2 => h a (by omega))
section PLN
variable {D : vDD} {m : vMM} {f c : Nat → Int32} {z : vZZ} {Q : Value → vDD → vMM → vZZ → Prop} {nF nT b : Nat} {A : Nat → Nat → Bool} {S : Nat → Bool} {th : Int32}
theorem bM_up {a k : Nat} {x : Int32} (h : a < b ∨ b + 76 ≤ a) : up2 (bM m b c) a k x = bM (up2 m a k x) b c := by
  funext q
  by_cases e : q = a
  · subst e
    rw [up2_eq, bM_o h, bM_o h, up2_eq]
  · rw [up2_ne e]
    funext j
    unfold bM
    rw [up2_ne e]
def caV (f : Nat → Int32) (nT i : Nat) : Int32 := if freeF f i = true then tfF f (gF f i 0) nT else nI 0
theorem ca_SB (h16 : nT ≤ 16) {i : Nat} (hi : i < nF) : SB (caV f nT i) (ablN f nF nT i) := by
  unfold caV
  have e : ∀ t, ablN f nF nT i t = (freeF f i && (decide (t < nT) && forF f (gF f i 0) t)) := by
    intro t
    unfold ablN ableF canF forF hasF
    rw [decide_eq_true hi, Bool.true_and]
    cases decide (t < nT) <;> cases freeF f i <;> rfl
  cases hf : freeF f i
  · rw [if_neg (by decide)]
    exact SB.zero.ext (fun t _ => by rw [e t, hf, Bool.false_and])
  · rw [if_pos rfl]
    exact (tfF_SB nT h16).ext (fun t _ => by rw [e t, hf, Bool.true_and])
theorem l_lookAt (hP : IsPl D) (hB : IsM D b) (hb : b + 76 ≤ 849) (hR : Rfc f c nF nT) (hW : WF f nF nT) (h3 : m 849 3 = nI nF) : ∀ k i row (v : Value), i + k = nF → (∀ j, j < i → row j = caV f nT j) →
    ∃ row', (∀ j, j < nF → row' j = caV f nT j) ∧ ∀ Q, Runs MX4_lookAt 10 [.ref 849, .ref b, .int (nI i), v] [] D (bM (setR m 850 row) b c) z Q = Q vJ D (bM (setR m 850 row') b c) z := by
  simp only [IsPl] at hP
  have hB0 := hB
  obtain ⟨⟨b1, b2, b3, b4⟩, ⟨b5, b6, b7, b8, b9, b10⟩, b11, b12, -⟩ := id hB
  have h8 := hW.1.2.1
  have o : bM (setR m 850 (m 850)) b c = bM m b c := by rw [setR_self]
  have o9 : ∀ row, bM (setR m 850 row) b c 849 = m 849 := fun row => (bM_o (by omega)).trans (setR_ne (by decide))
  have o5 : ∀ (m : vMM) k x, up2 (bM m b c) 850 k x = bM (up2 m 850 k x) b c := fun m k x => bM_up (by omega)
  intro k
  induction k with
  | zero =>
    intro i row v hi hr
    obtain rfl : i = nF := by omega
    refine ⟨row, hr, fun Q => ?_⟩
    rw [sX4_lookAt_10]
    simp (disch := omega) only [sX4_lookAt_11, sX4_lookAt_12, sX4_lookAt_15, sX4_lookAt_18, sX4_lookAt_19, sX4_lookAt_22, sX4_lookAt_23, sX4_lookAt_24, sX4_lookAt_25, sX4_lookAt_26, sX4_lookAt_29, sX4_lookAt_30, sX4_lookAt_31, sX4_lookAt_34, sX4_lookAt_37, sX4_lookAt_38, sX4_lookAt_39, sX4_lookAt_42, sX4_lookAt_45, sX4_lookAt_48, sX4_lookAt_49, sX4_lookAt_50, sX4_lookAt_53, sX4_lookAt_56, hP, true_and, and_true, true_or, or_true, eq_self, ↓reduceIte, if_true, if_false, nI_add, nI_mul, inB_nI, nI_clamp, Nat.add_zero, eqI, ltI, leI, m6_ne, ne_m6, Nat.reduceEqDiff, reduceCtorEq, Nat.reduceLT, Nat.reduceLeDiff, Nat.reduceAdd, Nat.reduceMul, Nat.zero_add, Nat.mul_zero, nar_0, nar_1, nar_b, bI_t, bI_f, bI_0, bI_1, Bool.true_eq_false, Bool.false_eq_true, Bool.and_self, Bool.and_false, Bool.false_and, Bool.true_and, Bool.and_true, and_self, o9, h3, Nat.le_refl]
  | succ k ih =>
    intro i row v hi hr
    have hlt : ¬ nF ≤ i := by omega
    have b11 := b11 i (by omega)
    have b12 := b12 i (by omega)
    have x1 := fun Q => x_canTakeMore (D := D) (m := setR m 850 row) (z := z) (Q := Q) hB0 hR hW (i := i) (by omega)
    have x2 := fun Q => x_thingsFor (D := D) (m := setR m 850 row) (z := z) (Q := Q) hB0 hR hW (sk := gF f i 0)
    have e0 := hR.2.1 i (by omega) 0 (by decide)
    have hr2 : ∀ j, j < i + 1 → upd row i (caV f nT i) j = caV f nT j := by
      intro j hj
      by_cases e : j = i
      · subst e; exact upd_eq _ _ _
      · rw [upd_ne _ _ e]; exact hr j (by omega)
    obtain ⟨row', r, y⟩ := ih (i + 1) _ (.ref (b + 4 + i)) (by omega) hr2
    refine ⟨row', r, fun Q => ?_⟩
    rw [sX4_lookAt_10]
    unfold caV at y
    cases hf : freeF f i
    · rw [hf, if_neg (by decide)] at y
      rw [hf] at x1
      simp (disch := omega) only [sX4_lookAt_11, sX4_lookAt_12, sX4_lookAt_15, sX4_lookAt_18, sX4_lookAt_19, sX4_lookAt_22, sX4_lookAt_23, sX4_lookAt_24, sX4_lookAt_25, sX4_lookAt_26, sX4_lookAt_29, sX4_lookAt_30, sX4_lookAt_31, sX4_lookAt_34, sX4_lookAt_37, sX4_lookAt_38, sX4_lookAt_39, sX4_lookAt_42, sX4_lookAt_45, sX4_lookAt_48, sX4_lookAt_49, sX4_lookAt_50, sX4_lookAt_53, sX4_lookAt_56, hP, b1, b2, b5, b6, b11, b12, true_and, and_true, true_or, or_true, eq_self, ↓reduceIte, if_true, if_false, nI_add, nI_mul, inB_nI, nI_clamp, Nat.add_zero, eqI, ltI, leI, m6_ne, ne_m6, Nat.reduceEqDiff, reduceCtorEq, Nat.reduceLT, Nat.reduceLeDiff, Nat.reduceAdd, Nat.reduceMul, Nat.zero_add, Nat.mul_zero, nar_0, nar_1, nar_b, bI_t, bI_f, bI_0, bI_1, Bool.true_eq_false, Bool.false_eq_true, Bool.and_self, Bool.and_false, Bool.false_and, Bool.true_and, Bool.and_true, and_self, o9, h3, hlt, x1, o5, up2_setR, y]
    · rw [hf, if_pos rfl] at y
      rw [hf] at x1
      simp (disch := omega) only [sX4_lookAt_11, sX4_lookAt_12, sX4_lookAt_15, sX4_lookAt_18, sX4_lookAt_19, sX4_lookAt_22, sX4_lookAt_23, sX4_lookAt_24, sX4_lookAt_25, sX4_lookAt_26, sX4_lookAt_29, sX4_lookAt_30, sX4_lookAt_31, sX4_lookAt_34, sX4_lookAt_37, sX4_lookAt_38, sX4_lookAt_39, sX4_lookAt_42, sX4_lookAt_45, sX4_lookAt_48, sX4_lookAt_49, sX4_lookAt_50, sX4_lookAt_53, sX4_lookAt_56, hP, b1, b2, b5, b6, b11, b12, true_and, and_true, true_or, or_true, eq_self, ↓reduceIte, if_true, if_false, nI_add, nI_mul, inB_nI, nI_clamp, Nat.add_zero, eqI, ltI, leI, m6_ne, ne_m6, Nat.reduceEqDiff, reduceCtorEq, Nat.reduceLT, Nat.reduceLeDiff, Nat.reduceAdd, Nat.reduceMul, Nat.zero_add, Nat.mul_zero, nar_0, nar_1, nar_b, bI_t, bI_f, bI_0, bI_1, Bool.true_eq_false, Bool.false_eq_true, Bool.and_self, Bool.and_false, Bool.false_and, Bool.true_and, Bool.and_true, and_self, o9, h3, hlt, x1, b_F, e0, x2, o5, up2_setR, y]
theorem x_lookAt (hP : IsPl D) (hB : IsM D b) (hb : b + 76 ≤ 849) (hm : Blk m b c) (hR : Rfc f c nF nT) (hW : WF f nF nT) : ∃ m', CHp m m' ∧ m' 849 3 = nI nF ∧ (∀ j, j < nF → SB (m' 850 j) (ablN f nF nT j)) ∧ ∀ Q, Runs MX4_lookAt 0 [.ref 849, .ref b, vJ, vJ] [] D m z Q = Q vJ D m' z := by
  have hP0 := hP
  simp only [IsPl] at hP
  have h16 := hW.1.2.2.2
  have b1 := hB.1.1
  have e2 : gG c 2 = nI nF := (hR.1 2 (by decide)).trans hW.1.1
  obtain ⟨row, r, y⟩ := l_lookAt (D := D) (m := up2 m 849 3 (nI nF)) (z := z) hP0 hB hb hR hW (by rw [up2_R, setR_eq, upd_eq]) nF 0 (m 850) vJ (by omega) (fun j hj => absurd hj (Nat.not_lt_zero j))
  have e1 : setR (up2 m 849 3 (nI nF)) 850 (m 850) = up2 m 849 3 (nI nF) := by
    have : m 850 = up2 m 849 3 (nI nF) 850 := by rw [up2_R, setR_ne (by decide)]
    rw [this, setR_self]
  rw [e1] at y
  refine ⟨bM (setR (up2 m 849 3 (nI nF)) 850 row) b c, fun a ha => ?_, ?_, fun j hj => ?_, fun Q => ?_⟩
  · by_cases h : a < b ∨ b + 76 ≤ a
    · rw [bM_o h, setR_ne (by omega), up2_R, setR_ne (by omega)]
    · have h1 : Blk (setR (up2 m 849 3 (nI nF)) 850 row) b c := hm.cong (fun a h1 h2 => by rw [setR_ne (by omega), up2_R, setR_ne (by omega)])
      rw [h1, setR_ne (by omega), up2_R, setR_ne (by omega)]
  · rw [bM_o (by omega), setR_ne (by decide), up2_R, setR_eq, upd_eq]
  · rw [bM_o (by omega), setR_eq, r j hj]
    exact ca_SB h16 hj
  · have o5 : ∀ (m : vMM) k x, up2 (bM m b c) 849 k x = bM (up2 m 849 k x) b c := fun m k x => bM_up (by omega)
    have hm' : bM m b c = m := hm
    conv => lhs; rw [← hm']
    simp (disch := omega) only [sX4_lookAt_0, sX4_lookAt_1, sX4_lookAt_2, sX4_lookAt_5, sX4_lookAt_8, sX4_lookAt_9, hP, b1, true_and, and_true, true_or, or_true, eq_self, ↓reduceIte, if_true, if_false, nI_add, nI_mul, inB_nI, nI_clamp, Nat.add_zero, eqI, ltI, leI, m6_ne, ne_m6, Nat.reduceEqDiff, reduceCtorEq, Nat.reduceLT, Nat.reduceLeDiff, Nat.reduceAdd, Nat.reduceMul, Nat.zero_add, Nat.mul_zero, nar_0, nar_1, nar_b, bI_t, bI_f, bI_0, bI_1, Bool.true_eq_false, Bool.false_eq_true, Bool.and_self, Bool.and_false, Bool.false_and, Bool.true_and, Bool.and_true, and_self, b_nF, e2, o5]
    exact y Q
theorem x_addFixerP (hP : IsPl D) {n : Nat} {x : Int32} (h3 : m 849 3 = nI n) (hn : n ≤ 8) : Runs MX4_addFixer 0 [.ref 849, .int x] [] D m z Q = Q vJ D (up2 (up2 m 850 n x) 849 3 (nI (n + 1))) z := by
  simp only [IsPl] at hP
  have hlt : ¬ 8 < n := by omega
  have o : ∀ k x, up2 m 850 k x 849 = m 849 := fun k x => by rw [up2_R, setR_ne (by decide)]
  simp (disch := omega) only [sX4_addFixer_0, sX4_addFixer_1, sX4_addFixer_4, sX4_addFixer_6, sX4_addFixer_9, sX4_addFixer_10, sX4_addFixer_13, sX4_addFixer_14, sX4_addFixer_17, sX4_addFixer_18, sX4_addFixer_19, sX4_addFixer_20, sX4_addFixer_21, sX4_addFixer_24, sX4_addFixer_25, sX4_addFixer_26, sX4_addFixer_29, hP, true_and, and_true, true_or, or_true, eq_self, ↓reduceIte, if_true, if_false, nI_add, nI_mul, inB_nI, nI_clamp, Nat.add_zero, eqI, ltI, leI, m6_ne, ne_m6, Nat.reduceEqDiff, reduceCtorEq, Nat.reduceLT, Nat.reduceLeDiff, Nat.reduceAdd, Nat.reduceMul, Nat.zero_add, Nat.mul_zero, nar_0, nar_1, nar_b, bI_t, bI_f, bI_0, bI_1, Bool.true_eq_false, Bool.false_eq_true, Bool.and_self, Bool.and_false, Bool.false_and, Bool.true_and, Bool.and_true, and_self, h3, hlt, o]
theorem l_lowestP (hP : IsPl D) {n g : Nat} (h3 : m 849 3 = nI n) (hn : n ≤ 9) (hg : g < n) (hC : ∀ i, i < n → SB (m 850 i) (A i)) (hS : ∀ t, t < 16 → selB th t = S t) {sv : Int32} : ∀ k t row (v5 v6 : Value), t + k = 16 →
    ∃ row', ∀ Q, Runs MX4_lowestFor 3 [.ref 849, .int (nI g), .int th, .int sv, .int (nI t), v5, v6] [] D (setR m 852 row) z Q = Q (.int (lowF A n g S sv k t)) D (setR m 852 row') z := by
  have hP0 := hP
  simp only [IsPl] at hP
  intro k
  induction k with
  | zero =>
    intro t row v5 v6 hk
    obtain rfl : t = 16 := by omega
    refine ⟨row, fun Q => ?_⟩
    rw [sX4_lowestFor_3]
    simp (disch := omega) only [sX4_lowestFor_5, sX4_lowestFor_7, sX4_lowestFor_10, sX4_lowestFor_11, sX4_lowestFor_13, sX4_lowestFor_14, sX4_lowestFor_16, sX4_lowestFor_17, sX4_lowestFor_20, sX4_lowestFor_21, sX4_lowestFor_22, sX4_lowestFor_23, sX4_lowestFor_24, sX4_lowestFor_26, sX4_lowestFor_27, sX4_lowestFor_30, sX4_lowestFor_31, sX4_lowestFor_34, sX4_lowestFor_35, sX4_lowestFor_37, sX4_lowestFor_39, sX4_lowestFor_42, sX4_lowestFor_43, sX4_lowestFor_44, sX4_lowestFor_45, sX4_lowestFor_46, sX4_lowestFor_47, sX4_lowestFor_49, sX4_lowestFor_50, sX4_lowestFor_51, sX4_lowestFor_52, sX4_lowestFor_55, sX4_lowestFor_56, sX4_lowestFor_57, sX4_lowestFor_58, sX4_lowestFor_61, sX4_lowestFor_63, sX4_lowestFor_64, sX4_lowestFor_67, sX4_lowestFor_70, sX4_lowestFor_72, true_and, and_true, true_or, or_true, eq_self, ↓reduceIte, if_true, if_false, nI_add, nI_mul, inB_nI, nI_clamp, Nat.add_zero, eqI, ltI, leI, m6_ne, ne_m6, Nat.reduceEqDiff, reduceCtorEq, Nat.reduceLT, Nat.reduceLeDiff, Nat.reduceAdd, Nat.reduceMul, Nat.zero_add, Nat.mul_zero, nar_0, nar_1, nar_b, bI_t, bI_f, bI_0, bI_1, Bool.true_eq_false, Bool.false_eq_true, Bool.and_self, Bool.and_false, Bool.false_and, Bool.true_and, Bool.and_true, and_self, Nat.le_refl, lowF]
  | succ k ih =>
    intro t row v5 v6 hk
    have hlt : ¬ 16 ≤ t := by omega
    have hb : ((m 850 g &&& th) &&& (nI 1 <<< (nI t &&& 31)) = nI 0) = ((A g t && S t) = false) := ((hC g hg).and hS).bit0 (by omega)
    have hS2 : ∀ u, u < 16 → selB (th &&& ((nI 1 <<< (nI t &&& 31)) ^^^ m1)) u = (S u && !(u == t)) := fun u hu => by rw [selB_out (by omega) (by omega), hS u hu]
    obtain ⟨row1, y1⟩ := x_served (D := D) (m := setR m 852 row) (z := z) (A := A) (S := fun u => S u && !(u == t)) (a := g + 1) (n := n) hP0 (by rw [setR_ne (by decide)]; exact h3) (by rw [setR_ne (by decide)]; exact hC) hS2 hn (by omega)
    simp only [setR_R] at y1
    cases hA : (A g t && S t)
    · rw [hA] at hb
      obtain ⟨row', y⟩ := ih (t + 1) row (.int (nI 1 <<< (nI t &&& 31))) (.int (nI 0)) (by omega)
      refine ⟨row', fun Q => ?_⟩
      have e : lowF A n g S sv (k + 1) t = lowF A n g S sv k (t + 1) := by
        have : (A g t && (S t && (nI 1 + nI (behF A n (g + 1) (fun u => S u && !(u == t))) == sv))) = false := by rw [← Bool.and_assoc, hA, Bool.false_and]
        simp only [lowF, this, Bool.false_eq_true, if_false]
      rw [sX4_lowestFor_3, e]
      simp (disch := omega) only [sX4_lowestFor_5, sX4_lowestFor_7, sX4_lowestFor_10, sX4_lowestFor_11, sX4_lowestFor_13, sX4_lowestFor_14, sX4_lowestFor_16, sX4_lowestFor_17, sX4_lowestFor_20, sX4_lowestFor_21, sX4_lowestFor_22, sX4_lowestFor_23, sX4_lowestFor_24, sX4_lowestFor_26, sX4_lowestFor_27, sX4_lowestFor_30, sX4_lowestFor_31, sX4_lowestFor_34, sX4_lowestFor_35, sX4_lowestFor_37, sX4_lowestFor_39, sX4_lowestFor_42, sX4_lowestFor_43, sX4_lowestFor_44, sX4_lowestFor_45, sX4_lowestFor_46, sX4_lowestFor_47, sX4_lowestFor_49, sX4_lowestFor_50, sX4_lowestFor_51, sX4_lowestFor_52, sX4_lowestFor_55, sX4_lowestFor_56, sX4_lowestFor_57, sX4_lowestFor_58, sX4_lowestFor_61, sX4_lowestFor_63, sX4_lowestFor_64, sX4_lowestFor_67, sX4_lowestFor_70, sX4_lowestFor_72, hP, true_and, and_true, true_or, or_true, eq_self, ↓reduceIte, if_true, if_false, nI_add, nI_mul, inB_nI, nI_clamp, Nat.add_zero, eqI, ltI, leI, m6_ne, ne_m6, Nat.reduceEqDiff, reduceCtorEq, Nat.reduceLT, Nat.reduceLeDiff, Nat.reduceAdd, Nat.reduceMul, Nat.zero_add, Nat.mul_zero, nar_0, nar_1, nar_b, bI_t, bI_f, bI_0, bI_1, Bool.true_eq_false, Bool.false_eq_true, Bool.and_self, Bool.and_false, Bool.false_and, Bool.true_and, Bool.and_true, and_self, hlt, setR_ne, hb, y]
    · rw [hA] at hb
      have e2 : nI (behF A n (g + 1) (fun u => S u && !(u == t))) + nI 1 = nI 1 + nI (behF A n (g + 1) (fun u => S u && !(u == t))) := Int32.add_comm _ _
      by_cases hv : nI 1 + nI (behF A n (g + 1) (fun u => S u && !(u == t))) = sv
      · refine ⟨row1, fun Q => ?_⟩
        have e : lowF A n g S sv (k + 1) t = nI t := by
          have : (A g t && (S t && (nI 1 + nI (behF A n (g + 1) (fun u => S u && !(u == t))) == sv))) = true := by rw [← Bool.and_assoc, hA, hv, Bool.true_and]; exact beq_self_eq_true _
          simp only [lowF, this, if_true]
        rw [sX4_lowestFor_3, e]
        simp (disch := omega) only [sX4_lowestFor_5, sX4_lowestFor_7, sX4_lowestFor_10, sX4_lowestFor_11, sX4_lowestFor_13, sX4_lowestFor_14, sX4_lowestFor_16, sX4_lowestFor_17, sX4_lowestFor_20, sX4_lowestFor_21, sX4_lowestFor_22, sX4_lowestFor_23, sX4_lowestFor_24, sX4_lowestFor_26, sX4_lowestFor_27, sX4_lowestFor_30, sX4_lowestFor_31, sX4_lowestFor_34, sX4_lowestFor_35, sX4_lowestFor_37, sX4_lowestFor_39, sX4_lowestFor_42, sX4_lowestFor_43, sX4_lowestFor_44, sX4_lowestFor_45, sX4_lowestFor_46, sX4_lowestFor_47, sX4_lowestFor_49, sX4_lowestFor_50, sX4_lowestFor_51, sX4_lowestFor_52, sX4_lowestFor_55, sX4_lowestFor_56, sX4_lowestFor_57, sX4_lowestFor_58, sX4_lowestFor_61, sX4_lowestFor_63, sX4_lowestFor_64, sX4_lowestFor_67, sX4_lowestFor_70, sX4_lowestFor_72, hP, true_and, and_true, true_or, or_true, eq_self, ↓reduceIte, if_true, if_false, nI_add, nI_mul, inB_nI, nI_clamp, Nat.add_zero, eqI, ltI, leI, m6_ne, ne_m6, Nat.reduceEqDiff, reduceCtorEq, Nat.reduceLT, Nat.reduceLeDiff, Nat.reduceAdd, Nat.reduceMul, Nat.zero_add, Nat.mul_zero, nar_0, nar_1, nar_b, bI_t, bI_f, bI_0, bI_1, Bool.true_eq_false, Bool.false_eq_true, Bool.and_self, Bool.and_false, Bool.false_and, Bool.true_and, Bool.and_true, and_self, hlt, setR_ne, hb, y1, e2, hv, Nat.one_ne_zero]
      · have hv2 : ¬ nI (1 + behF A n (g + 1) (fun u => S u && !(u == t))) = sv := by rw [← nI_add]; exact hv
        obtain ⟨row', y⟩ := ih (t + 1) row1 (.int (nI 1 <<< (nI t &&& 31))) (.int (nI 1)) (by omega)
        refine ⟨row', fun Q => ?_⟩
        have e : lowF A n g S sv (k + 1) t = lowF A n g S sv k (t + 1) := by
          have : (A g t && (S t && (nI 1 + nI (behF A n (g + 1) (fun u => S u && !(u == t))) == sv))) = false := by rw [← Bool.and_assoc, hA, Bool.true_and]; exact beq_eq_false_iff_ne.mpr hv
          simp only [lowF, this, Bool.false_eq_true, if_false]
        rw [sX4_lowestFor_3, e]
        simp (disch := omega) only [sX4_lowestFor_5, sX4_lowestFor_7, sX4_lowestFor_10, sX4_lowestFor_11, sX4_lowestFor_13, sX4_lowestFor_14, sX4_lowestFor_16, sX4_lowestFor_17, sX4_lowestFor_20, sX4_lowestFor_21, sX4_lowestFor_22, sX4_lowestFor_23, sX4_lowestFor_24, sX4_lowestFor_26, sX4_lowestFor_27, sX4_lowestFor_30, sX4_lowestFor_31, sX4_lowestFor_34, sX4_lowestFor_35, sX4_lowestFor_37, sX4_lowestFor_39, sX4_lowestFor_42, sX4_lowestFor_43, sX4_lowestFor_44, sX4_lowestFor_45, sX4_lowestFor_46, sX4_lowestFor_47, sX4_lowestFor_49, sX4_lowestFor_50, sX4_lowestFor_51, sX4_lowestFor_52, sX4_lowestFor_55, sX4_lowestFor_56, sX4_lowestFor_57, sX4_lowestFor_58, sX4_lowestFor_61, sX4_lowestFor_63, sX4_lowestFor_64, sX4_lowestFor_67, sX4_lowestFor_70, sX4_lowestFor_72, hP, true_and, and_true, true_or, or_true, eq_self, ↓reduceIte, if_true, if_false, nI_add, nI_mul, inB_nI, nI_clamp, Nat.add_zero, eqI, ltI, leI, m6_ne, ne_m6, Nat.reduceEqDiff, reduceCtorEq, Nat.reduceLT, Nat.reduceLeDiff, Nat.reduceAdd, Nat.reduceMul, Nat.zero_add, Nat.mul_zero, nar_0, nar_1, nar_b, bI_t, bI_f, bI_0, bI_1, Bool.true_eq_false, Bool.false_eq_true, Bool.and_self, Bool.and_false, Bool.false_and, Bool.true_and, Bool.and_true, and_self, hlt, setR_ne, hb, y1, e2, hv2, Nat.one_ne_zero, y]
theorem x_lowestP (hP : IsPl D) {n g : Nat} (h3 : m 849 3 = nI n) (hn : n ≤ 9) (hg : g < n) (hC : ∀ i, i < n → SB (m 850 i) (A i)) (hS : ∀ t, t < 16 → selB th t = S t) {sv : Int32} :
    ∃ row, ∀ Q, Runs MX4_lowestFor 0 [.ref 849, .int (nI g), .int th, .int sv, vJ, vJ, vJ] [] D m z Q = Q (.int (lowF A n g S sv 16 0)) D (setR m 852 row) z := by
  obtain ⟨row, y⟩ := l_lowestP (D := D) (m := m) (z := z) hP h3 hn hg hC hS (sv := sv) 16 0 (m 852) vJ vJ (by decide)
  rw [setR_self] at y
  refine ⟨row, fun Q => ?_⟩
  simp (disch := omega) only [sX4_lowestFor_0, sX4_lowestFor_1, true_and, and_true, true_or, or_true, eq_self, ↓reduceIte, if_true, if_false, nI_add, nI_mul, inB_nI, nI_clamp, Nat.add_zero, eqI, ltI, leI, m6_ne, ne_m6, Nat.reduceEqDiff, reduceCtorEq, Nat.reduceLT, Nat.reduceLeDiff, Nat.reduceAdd, Nat.reduceMul, Nat.zero_add, Nat.mul_zero, nar_0, nar_1, nar_b, bI_t, bI_f, bI_0, bI_1, Bool.true_eq_false, Bool.false_eq_true, Bool.and_self, Bool.and_false, Bool.false_and, Bool.true_and, Bool.and_true, and_self, y]
theorem l_makePlan (hP : IsPl D) {n : Nat} (hn : n ≤ 8) : ∀ k g (m : vMM) (th sv : Int32) (v5 : Value), g + k = n → m 849 3 = nI n → (∀ i, i < n → SB (m 850 i) (A i)) → (∀ t, t < 16 → selB th t = (plS A n g).1 t) → sv = (plS A n g).2 → (∀ j, j < g → m 851 j = plV A n j) →
    ∃ m', CHp m m' ∧ (∀ j, j < n → m' 851 j = plV A n j) ∧ ∀ Q, Runs MX4_makePlan 18 [.ref 849, .ref b, .int th, .int sv, .int (nI g), v5] [] D m z Q = Q vJ D m' z := by
  have hP0 := hP
  simp only [IsPl] at hP
  intro k
  induction k with
  | zero =>
    intro g m th sv v5 hk h3 hC hS hs hG
    obtain rfl : g = n := by omega
    refine ⟨m, CHp.refl, hG, fun Q => ?_⟩
    rw [sX4_makePlan_18]
    simp (disch := omega) only [sX4_makePlan_20, sX4_makePlan_21, sX4_makePlan_24, sX4_makePlan_27, sX4_makePlan_29, sX4_makePlan_31, sX4_makePlan_34, sX4_makePlan_35, sX4_makePlan_37, sX4_makePlan_38, sX4_makePlan_39, sX4_makePlan_42, sX4_makePlan_44, sX4_makePlan_45, sX4_makePlan_48, sX4_makePlan_50, sX4_makePlan_52, sX4_makePlan_53, sX4_makePlan_55, sX4_makePlan_57, sX4_makePlan_60, sX4_makePlan_61, sX4_makePlan_62, sX4_makePlan_64, sX4_makePlan_65, sX4_makePlan_66, sX4_makePlan_67, sX4_makePlan_68, sX4_makePlan_69, sX4_makePlan_72, sX4_makePlan_75, sX4_makePlan_78, hP, true_and, and_true, true_or, or_true, eq_self, ↓reduceIte, if_true, if_false, nI_add, nI_mul, inB_nI, nI_clamp, Nat.add_zero, eqI, ltI, leI, m6_ne, ne_m6, Nat.reduceEqDiff, reduceCtorEq, Nat.reduceLT, Nat.reduceLeDiff, Nat.reduceAdd, Nat.reduceMul, Nat.zero_add, Nat.mul_zero, nar_0, nar_1, nar_b, bI_t, bI_f, bI_0, bI_1, Bool.true_eq_false, Bool.false_eq_true, Bool.and_self, Bool.and_false, Bool.false_and, Bool.true_and, Bool.and_true, and_self, h3, Nat.le_refl]
  | succ k ih =>
    intro g m th sv v5 hk h3 hC hS hs hG
    have hlt : ¬ n ≤ g := by omega
    have hlt8 : ¬ 8 ≤ g := by omega
    obtain ⟨row, y1⟩ := x_lowestP (D := D) (m := m) (z := z) hP0 h3 (by omega) (g := g) (by omega) hC hS (sv := sv)
    have ev : lowF A n g (plS A n g).1 sv 16 0 = plV A n g := by rw [hs]; rfl
    rw [ev] at y1
    have hs2 := plS_s (A := A) (n := n) (g := g)
    have hG2 : ∀ j, j < g + 1 → up2 (setR m 852 row) 851 g (plV A n g) 851 j = plV A n j := by
      intro j hj
      rw [up2_R, setR_eq]
      by_cases e : j = g
      · subst e; exact upd_eq _ _ _
      · rw [upd_ne _ _ e, setR_ne (by decide)]; exact hG j (by omega)
    have hc : CHp m (up2 (setR m 852 row) 851 g (plV A n g)) := (CHp.row (k := 852) (by decide)).trans (by rw [up2_R]; exact CHp.row (by decide))
    have h32 : up2 (setR m 852 row) 851 g (plV A n g) 849 3 = nI n := by rw [up2_R, setR_ne (by decide), setR_ne (by decide)]; exact h3
    have hC2 : ∀ i, i < n → SB (up2 (setR m 852 row) 851 g (plV A n g) 850 i) (A i) := by rw [up2_R, setR_ne (by decide), setR_ne (by decide)]; exact hC
    rcases plV_spec (A := A) (n := n) (g := g) with hv | ⟨u, hu, hv, -, -⟩
    · rw [if_pos hv] at hs2
      obtain ⟨m', c', r, y⟩ := ih (g + 1) _ th sv (.int (plV A n g)) (by omega) h32 hC2 (by rw [hs2]; exact hS) (by rw [hs2]; exact hs) hG2
      refine ⟨m', hc.trans c', r, fun Q => ?_⟩
      rw [hv] at y y1
      rw [sX4_makePlan_18]
      simp (disch := omega) only [sX4_makePlan_20, sX4_makePlan_21, sX4_makePlan_24, sX4_makePlan_27, sX4_makePlan_29, sX4_makePlan_31, sX4_makePlan_34, sX4_makePlan_35, sX4_makePlan_37, sX4_makePlan_38, sX4_makePlan_39, sX4_makePlan_42, sX4_makePlan_44, sX4_makePlan_45, sX4_makePlan_48, sX4_makePlan_50, sX4_makePlan_52, sX4_makePlan_53, sX4_makePlan_55, sX4_makePlan_57, sX4_makePlan_60, sX4_makePlan_61, sX4_makePlan_62, sX4_makePlan_64, sX4_makePlan_65, sX4_makePlan_66, sX4_makePlan_67, sX4_makePlan_68, sX4_makePlan_69, sX4_makePlan_72, sX4_makePlan_75, sX4_makePlan_78, hP, true_and, and_true, true_or, or_true, eq_self, ↓reduceIte, if_true, if_false, nI_add, nI_mul, inB_nI, nI_clamp, Nat.add_zero, eqI, ltI, leI, m6_ne, ne_m6, Nat.reduceEqDiff, reduceCtorEq, Nat.reduceLT, Nat.reduceLeDiff, Nat.reduceAdd, Nat.reduceMul, Nat.zero_add, Nat.mul_zero, nar_0, nar_1, nar_b, bI_t, bI_f, bI_0, bI_1, Bool.true_eq_false, Bool.false_eq_true, Bool.and_self, Bool.and_false, Bool.false_and, Bool.true_and, Bool.and_true, and_self, h3, hlt, hlt8, y1, y]
    · have hne : plV A n g ≠ m6 := by rw [hv]; exact nI_nm6 (by omega)
      rw [if_neg hne, hv, nI_clamp (by omega)] at hs2
      obtain ⟨m', c', r, y⟩ := ih (g + 1) _ (th &&& ((nI 1 <<< (nI u &&& 31)) ^^^ m1)) (sv - nI 1) (.int (plV A n g)) (by omega) h32 hC2 (by rw [hs2]; exact fun t ht => by rw [selB_out (by omega) (by omega), hS t ht]) (by rw [hs2, hs]) hG2
      refine ⟨m', hc.trans c', r, fun Q => ?_⟩
      have e1 : sv + m1 = sv - nI 1 := by rw [Int32.sub_eq_add_neg]; congr 1
      rw [hv] at y y1
      rw [sX4_makePlan_18]
      simp (disch := omega) only [sX4_makePlan_20, sX4_makePlan_21, sX4_makePlan_24, sX4_makePlan_27, sX4_makePlan_29, sX4_makePlan_31, sX4_makePlan_34, sX4_makePlan_35, sX4_makePlan_37, sX4_makePlan_38, sX4_makePlan_39, sX4_makePlan_42, sX4_makePlan_44, sX4_makePlan_45, sX4_makePlan_48, sX4_makePlan_50, sX4_makePlan_52, sX4_makePlan_53, sX4_makePlan_55, sX4_makePlan_57, sX4_makePlan_60, sX4_makePlan_61, sX4_makePlan_62, sX4_makePlan_64, sX4_makePlan_65, sX4_makePlan_66, sX4_makePlan_67, sX4_makePlan_68, sX4_makePlan_69, sX4_makePlan_72, sX4_makePlan_75, sX4_makePlan_78, hP, true_and, and_true, true_or, or_true, eq_self, ↓reduceIte, if_true, if_false, nI_add, nI_mul, inB_nI, nI_clamp, Nat.add_zero, eqI, ltI, leI, m6_ne, ne_m6, Nat.reduceEqDiff, reduceCtorEq, Nat.reduceLT, Nat.reduceLeDiff, Nat.reduceAdd, Nat.reduceMul, Nat.zero_add, Nat.mul_zero, nar_0, nar_1, nar_b, bI_t, bI_f, bI_0, bI_1, Bool.true_eq_false, Bool.false_eq_true, Bool.and_self, Bool.and_false, Bool.false_and, Bool.true_and, Bool.and_true, and_self, h3, hlt, hlt8, y1, e1, y]
theorem x_makePlan (hP : IsPl D) (hB : IsM D b) (hb : b + 76 ≤ 849) (hm : Blk m b c) (hR : Rfc f c nF nT) (hW : WF f nF nT) : ∃ m', CHp m m' ∧ (∀ j, j < nF → m' 851 j = plV (ablN f nF nT) nF j) ∧ ∀ Q, Runs MX4_makePlan 0 [.ref 849, .ref b, vJ, vJ, vJ, vJ] [] D m z Q = Q vJ D m' z := by
  have hP0 := hP
  simp only [IsPl] at hP
  have h8 := hW.1.2.1
  obtain ⟨m1, c1, h3, hC, y1⟩ := x_lookAt (D := D) (z := z) hP0 hB hb hm hR hW
  obtain ⟨row, y2⟩ := x_served (D := D) (m := m1) (z := z) (S := fun _ => true) (th := nI 65535) (a := 0) hP0 h3 hC (fun t ht => sel65535 ht) (by omega) (by omega)
  obtain ⟨m3, c3, r, y3⟩ := l_makePlan (D := D) (z := z) (b := b) (A := ablN f nF nT) hP0 h8 nF 0 (setR m1 852 row) (nI 65535) (nI (behF (ablN f nF nT) nF 0 (fun _ => true))) vJ (by omega) (by rw [setR_ne (by decide)]; exact h3) (by rw [setR_ne (by decide)]; exact hC) (fun t ht => sel65535 ht) rfl (fun j hj => absurd hj (Nat.not_lt_zero j))
  refine ⟨m3, (c1.trans (CHp.row (k := 852) (by decide))).trans c3, r, fun Q => ?_⟩
  simp (disch := omega) only [sX4_makePlan_0, sX4_makePlan_1, sX4_makePlan_2, sX4_makePlan_5, sX4_makePlan_7, sX4_makePlan_8, sX4_makePlan_9, sX4_makePlan_10, sX4_makePlan_11, sX4_makePlan_14, sX4_makePlan_15, sX4_makePlan_16, hP, true_and, and_true, true_or, or_true, eq_self, ↓reduceIte, if_true, if_false, nI_add, nI_mul, inB_nI, nI_clamp, Nat.add_zero, eqI, ltI, leI, m6_ne, ne_m6, Nat.reduceEqDiff, reduceCtorEq, Nat.reduceLT, Nat.reduceLeDiff, Nat.reduceAdd, Nat.reduceMul, Nat.zero_add, Nat.mul_zero, nar_0, nar_1, nar_b, bI_t, bI_f, bI_0, bI_1, Bool.true_eq_false, Bool.false_eq_true, Bool.and_self, Bool.and_false, Bool.false_and, Bool.true_and, Bool.and_true, and_self, y1, y2, y3]
end PLN
