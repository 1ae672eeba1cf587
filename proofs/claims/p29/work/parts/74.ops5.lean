/-! giveOut, texts, undo, saving -/
section OP5
variable {D : vDD} {m : vMM} {z : vZZ}
theorem goF_end {P : Nat → Int32} {f : Nat → Int32} {n : Nat} : ∀ k, (∀ j, n ≤ j → j < n + k → P j = m6) → goF P f (n + k) = goF P f n
  | 0, _ => rfl
  | k + 1, h => by
    rw [← Nat.add_assoc, goF_s, if_pos (h (n + k) (by omega) (by omega)), goF_end k (fun j h1 h2 => h j h1 (by omega))]
theorem l_give {f : Nat → Int32} {nF nT : Nat} {P : Nat → Int32} (hA : IsMM D) (hPl : IsPl D) (hB : IsM D 2) (hW : WF f nF nT) (hG : GOk P f nF nT 0) (hD : ∀ j k u, u < 16 → P j = nI u → P (j + 1 + k) = nI u → False) (hp : ∀ j, j < nF → m 851 j = P j) : ∀ (k i : Nat) (c : Nat → Int32), i + k = nF → Rfc (goF P f i).2 c nF nT →
    ∃ c', Rfc (goF P f nF).2 c' nF nT ∧ ∀ Q, Runs MX6_giveOut 26 [.ref 1, .int (nI (goF P f i).1), .int (nI i)] [] D (bM m 2 c) z Q = Q (.int (nI (goF P f nF).1)) D (bM m 2 c') z := by
  simp only [IsMM] at hA
  simp only [IsPl] at hPl
  have h8 := hW.1.2.1
  obtain ⟨⟨b1, b2, b3, b4⟩, ⟨b5, b6, -⟩, b11, b12, -⟩ := id hB
  intro k
  induction k with
  | zero =>
    intro i c hi hR
    obtain rfl : i = nF := by omega
    obtain ⟨w1, w2, w3⟩ := goF_WF hW hG hD i (by omega)
    have e2 : gG c 2 = nI i := (hR.1 2 (by decide)).trans w1.1.1
    refine ⟨c, hR, fun Q => ?_⟩
    rw [sX6_giveOut_26]
    simp (disch := omega) only [sX6_giveOut_27, sX6_giveOut_28, sX6_giveOut_31, sX6_giveOut_34, sX6_giveOut_37, sX6_giveOut_38, sX6_giveOut_41, sX6_giveOut_42, sX6_giveOut_45, sX6_giveOut_48, sX6_giveOut_49, sX6_giveOut_50, sX6_giveOut_51, sX6_giveOut_54, sX6_giveOut_57, sX6_giveOut_58, sX6_giveOut_59, sX6_giveOut_62, sX6_giveOut_65, sX6_giveOut_68, sX6_giveOut_71, sX6_giveOut_74, sX6_giveOut_75, hA, b1, true_and, and_true, true_or, or_true, eq_self, ↓reduceIte, if_true, if_false, nI_add, nI_mul, inB_nI, nI_clamp, Nat.add_zero, eqI, ltI, leI, m6_ne, ne_m6, Nat.reduceEqDiff, reduceCtorEq, Nat.reduceLT, Nat.reduceLeDiff, Nat.reduceAdd, Nat.reduceMul, Nat.zero_add, Nat.mul_zero, nar_0, nar_1, nar_b, bI_t, bI_f, bI_0, bI_1, Bool.true_eq_false, Bool.false_eq_true, Bool.and_self, Bool.and_false, Bool.false_and, Bool.true_and, Bool.and_true, and_self, b_nF, e2, Nat.le_refl]
  | succ k ih =>
    intro i c hi hR
    have hlt : ¬ nF ≤ i := by omega
    obtain ⟨w1, w2, w3⟩ := goF_WF hW hG hD i (by omega)
    have e2 : gG c 2 = nI nF := (hR.1 2 (by decide)).trans w1.1.1
    have b11 := b11 i (by omega)
    have b12 := b12 i (by omega)
    have g1 : ∀ c, bM m 2 c 851 i = P i := fun c => by rw [bM_o (by omega)]; exact hp i (by omega)
    have es := goF_s (P := P) (f := f) (i := i)
    by_cases h6 : P i = m6
    · rw [if_pos h6] at es
      obtain ⟨c', r, y⟩ := ih (i + 1) c (by omega) (by rw [es]; exact hR)
      rw [es] at y
      have xn := fun Q => x_take_none (D := D) (m := m) (z := z) (Q := Q) hB hR w1 (i := i)
      refine ⟨c', r, fun Q => ?_⟩
      rw [h6] at g1
      generalize hq : 2 + 4 + i = q at b11 b12 xn
      rw [sX6_giveOut_26]
      simp (disch := omega) only [sX6_giveOut_27, sX6_giveOut_28, sX6_giveOut_31, sX6_giveOut_34, sX6_giveOut_37, sX6_giveOut_38, sX6_giveOut_41, sX6_giveOut_42, sX6_giveOut_45, sX6_giveOut_48, sX6_giveOut_49, sX6_giveOut_50, sX6_giveOut_51, sX6_giveOut_54, sX6_giveOut_57, sX6_giveOut_58, sX6_giveOut_59, sX6_giveOut_62, sX6_giveOut_65, sX6_giveOut_68, sX6_giveOut_71, sX6_giveOut_74, sX6_giveOut_75, hA, hPl, b1, b2, b5, b6, b11, b12, true_and, and_true, true_or, or_true, eq_self, ↓reduceIte, if_true, if_false, nI_add, nI_mul, inB_nI, nI_clamp, Nat.add_zero, eqI, ltI, leI, m6_ne, ne_m6, Nat.reduceEqDiff, reduceCtorEq, Nat.reduceLT, Nat.reduceLeDiff, Nat.reduceAdd, Nat.reduceMul, Nat.zero_add, Nat.mul_zero, nar_0, nar_1, nar_b, bI_t, bI_f, bI_0, bI_1, Bool.true_eq_false, Bool.false_eq_true, Bool.and_self, Bool.and_false, Bool.false_and, Bool.true_and, Bool.and_true, and_self, b_nF, e2, hlt, g1, xn, y]
    · rw [if_neg h6] at es
      obtain ⟨t, t1, t2, t3, t4, t5⟩ := go_step w1 w2 hD (by omega) h6
      rw [t1, nI_clamp (by have := hW.1.2.2.2; omega)] at es
      obtain ⟨c1, r1, xt⟩ := x_take (D := D) (m := m) (z := z) hB hR w1 (i := i) (t := t) (by omega) t2
      rw [t1] at g1
      by_cases hs : inStF (goF P f i).2 (nsF (goF P f i).2 t 2) = true
      · rw [if_pos hs] at es
        obtain ⟨c', r, y⟩ := ih (i + 1) c1 (by omega) (by rw [es]; exact r1)
        rw [es] at y
        simp only [if_pos hs] at xt
        refine ⟨c', r, fun Q => ?_⟩
        generalize hq : 2 + 4 + i = q at b11 b12 xt
        rw [sX6_giveOut_26]
        simp (disch := omega) only [sX6_giveOut_27, sX6_giveOut_28, sX6_giveOut_31, sX6_giveOut_34, sX6_giveOut_37, sX6_giveOut_38, sX6_giveOut_41, sX6_giveOut_42, sX6_giveOut_45, sX6_giveOut_48, sX6_giveOut_49, sX6_giveOut_50, sX6_giveOut_51, sX6_giveOut_54, sX6_giveOut_57, sX6_giveOut_58, sX6_giveOut_59, sX6_giveOut_62, sX6_giveOut_65, sX6_giveOut_68, sX6_giveOut_71, sX6_giveOut_74, sX6_giveOut_75, hA, hPl, b1, b2, b5, b6, b11, b12, true_and, and_true, true_or, or_true, eq_self, ↓reduceIte, if_true, if_false, nI_add, nI_mul, inB_nI, nI_clamp, Nat.add_zero, eqI, ltI, leI, m6_ne, ne_m6, Nat.reduceEqDiff, reduceCtorEq, Nat.reduceLT, Nat.reduceLeDiff, Nat.reduceAdd, Nat.reduceMul, Nat.zero_add, Nat.mul_zero, nar_0, nar_1, nar_b, bI_t, bI_f, bI_0, bI_1, Bool.true_eq_false, Bool.false_eq_true, Bool.and_self, Bool.and_false, Bool.false_and, Bool.true_and, Bool.and_true, and_self, b_nF, e2, hlt, g1, xt, y, Nat.one_ne_zero]
      · rw [if_neg hs] at es
        obtain ⟨c', r, y⟩ := ih (i + 1) c (by omega) (by rw [es]; exact hR)
        rw [es] at y
        simp only [if_neg hs] at xt
        refine ⟨c', r, fun Q => ?_⟩
        generalize hq : 2 + 4 + i = q at b11 b12 xt
        rw [sX6_giveOut_26]
        simp (disch := omega) only [sX6_giveOut_27, sX6_giveOut_28, sX6_giveOut_31, sX6_giveOut_34, sX6_giveOut_37, sX6_giveOut_38, sX6_giveOut_41, sX6_giveOut_42, sX6_giveOut_45, sX6_giveOut_48, sX6_giveOut_49, sX6_giveOut_50, sX6_giveOut_51, sX6_giveOut_54, sX6_giveOut_57, sX6_giveOut_58, sX6_giveOut_59, sX6_giveOut_62, sX6_giveOut_65, sX6_giveOut_68, sX6_giveOut_71, sX6_giveOut_74, sX6_giveOut_75, hA, hPl, b1, b2, b5, b6, b11, b12, true_and, and_true, true_or, or_true, eq_self, ↓reduceIte, if_true, if_false, nI_add, nI_mul, inB_nI, nI_clamp, Nat.add_zero, eqI, ltI, leI, m6_ne, ne_m6, Nat.reduceEqDiff, reduceCtorEq, Nat.reduceLT, Nat.reduceLeDiff, Nat.reduceAdd, Nat.reduceMul, Nat.zero_add, Nat.mul_zero, nar_0, nar_1, nar_b, bI_t, bI_f, bI_0, bI_1, Bool.true_eq_false, Bool.false_eq_true, Bool.and_self, Bool.and_false, Bool.false_and, Bool.true_and, Bool.and_true, and_self, b_nF, e2, hlt, g1, xt, y]
theorem CHp_bM {M : vMM} {c c2 : Nat → Int32} (h : CHp (bM m 2 c) M) : CHp (bM m 2 c2) (bM M 2 c2) := by
  intro a ha
  funext k
  have h1 := congrFun (h a ha) k
  unfold bM at h1 ⊢
  by_cases h2 : ixB 2 a k < 346
  · rw [if_pos h2, if_pos h2]
  · rw [if_neg h2] at h1
    rw [if_neg h2, if_neg h2]
    exact h1
theorem int_put (x : Int64) : ∃ n, n < 2 ^ 64 ∧ x = uL n := ⟨x.toUInt64.toNat, x.toUInt64.toNat_lt, (uL_all x).symm⟩
theorem ClS.pad {H : Nat → Nat} {f : Nat → Int32} {nF nT r L L' : Nat} {h s : Nat → Int32} {b0 b1 : Bool} {ch ch' : Nat → Nat} {m' : vMM} (C : ClS D H m f nF nT r L h s b0 b1 ch) (e : ∀ a, a < 766 → m' a = m a) (hp : PadM m' L' ch') : ClS D H m' f nF nT r L' h s b0 b1 ch' := by
  obtain ⟨h1, ⟨c, h2, h3⟩, h4, h5, h6, h7⟩ := C
  exact ⟨h1, ⟨c, h2.cong (fun a _ _ => e a (by omega)), h3⟩, h4, hp, h6.cong h1.2.2.2.2 (fun a _ _ => e a (by omega)), h7.cong (fun a _ _ => e a (by omega))⟩
end OP5
