/-! giveOut, texts, undo, saving -/
section OP5
variable {D : vDD} {m : vMM} {z : vZZ}
theorem goF_end {P : Nat → Int32} {f : Nat → Int32} {n : Nat} : ∀ k, (∀ j, n ≤ j → j < n + k → P j = m6) → goF P f (n + k) = goF P f n
  | 0, _ => rfl
  | k + 1, h => by
    rw [← Nat.add_assoc, goF_s, if_pos (h (n + k) (by omega) (by omega)), goF_end k (fun j h1 h2 => h j h1 (by omega))]
theorem l_give {f : Nat → Int32} {nF nT : Nat} {P : Nat → Int32} (hA : IsMM D) (hPl : IsPl D) (hB : IsM D 2) (hW : WF f nF nT) (hG : GOk P f nF nT 0) (hD : ∀ j k u, u < 16 → P j = nI u → P (j + 1 + k) = nI u → False) (hp : ∀ j, j < nF → m 851 j = P j) : ∀ (k i : Nat) (c : Nat → Int32), i + k = nF → Rfc (goF P f i).2 c nF nT →
    ∃ c', Rfc (goF P f nF).2 c' nF nT ∧ ∀ Q, Runs MX6_giveOut 26 [.ref 1, .int (nI (goF P f i).1), .int (nI i)] [] D (bM m 2 c) z Q = Q (.int (nI (goF P f nF).1)) D (bM m 2 c') z := by
  simp only [IsMM] at hA
  simp only [IsPl] at hPl
  have h8 := hW.1.2.1
  obtain ⟨⟨b1, b2, b3, b4⟩, ⟨b5, b6, -⟩, b11, b12, -⟩ := id hB
  intro k
  induction k with
  | zero =>
    intro i c hi hR
    obtain rfl : i = nF := by omega
    obtain ⟨w1, w2, w3⟩ := goF_WF hW hG hD i (by omega)
    have e2 : gG c 2 = nI i := (hR.1 2 (by decide)).trans w1.1.1
    refine ⟨c, hR, fun Q => ?_⟩
    rw [sX6_giveOut_26]
    simp (disch := omega) only [sX6_giveOut_27, sX6_giveOut_28, sX6_giveOut_31, sX6_giveOut_34, sX6_giveOut_37, sX6_giveOut_38, sX6_giveOut_41, sX6_giveOut_42, sX6_giveOut_45, sX6_giveOut_48, sX6_giveOut_49, sX6_giveOut_50, sX6_giveOut_51, sX6_giveOut_54, sX6_giveOut_57, sX6_giveOut_58, sX6_giveOut_59, sX6_giveOut_62, sX6_giveOut_65, sX6_giveOut_68, sX6_giveOut_71, sX6_giveOut_74, sX6_giveOut_75, hA, b1, true_and, and_true, true_or, or_true, eq_self, ↓reduceIte, if_true, if_false, nI_add, nI_mul, inB_nI, nI_clamp, Nat.add_zero, eqI, ltI, leI, m6_ne, ne_m6, Nat.reduceEqDiff, reduceCtorEq, Nat.reduceLT, Nat.reduceLeDiff, Nat.reduceAdd, Nat.reduceMul, Nat.zero_add, Nat.mul_zero, nar_0, nar_1, nar_b, bI_t, bI_f, bI_0, bI_1, Bool.true_eq_false, Bool.false_eq_true, Bool.and_self, Bool.and_false, Bool.false_and, Bool.true_and, Bool.and_true, and_self, b_nF, e2, Nat.le_refl]
  | succ k ih =>
    intro i c hi hR
    have hlt : ¬ nF ≤ i := by omega
    obtain ⟨w1, w2, w3⟩ := goF_WF hW hG hD i (by omega)
    have e2 : gG c 2 = nI nF := (hR.1 2 (by decide)).trans w1.1.1
    have b11 := b11 i (by omega)
    have b12 := b12 i (by omega)
    have g1 : ∀ c, bM m 2 c 851 i = P i := fun c => by rw [bM_o (by omega)]; exact hp i (by omega)
    have es := goF_s (P := P) (f := f) (i := i)
    by_cases h6 : P i = m6
    · rw [if_pos h6] at es
      obtain ⟨c', r, y⟩ := ih (i + 1) c (by omega) (by rw [es]; exact hR)
      rw [es] at y
      have xn := fun Q => x_take_none (D := D) (m := m) (z := z) (Q := Q) hB hR w1 (i := i)
      refine ⟨c', r, fun Q => ?_⟩
      rw [h6] at g1
      generalize hq : 2 + 4 + i = q at b11 b12 xn
      rw [sX6_giveOut_26]
      simp (disch := omega) only [sX6_giveOut_27, sX6_giveOut_28, sX6_giveOut_31, sX6_giveOut_34, sX6_giveOut_37, sX6_giveOut_38, sX6_giveOut_41, sX6_giveOut_42, sX6_giveOut_45, sX6_giveOut_48, sX6_giveOut_49, sX6_giveOut_50, sX6_giveOut_51, sX6_giveOut_54, sX6_giveOut_57, sX6_giveOut_58, sX6_giveOut_59, sX6_giveOut_62, sX6_giveOut_65, sX6_giveOut_68, sX6_giveOut_71, sX6_giveOut_74, sX6_giveOut_75, hA, hPl, b1, b2, b5, b6, b11, b12, true_and, and_true, true_or, or_true, eq_self, ↓reduceIte, if_true, if_false, nI_add, nI_mul, inB_nI, nI_clamp, Nat.add_zero, eqI, ltI, leI, m6_ne, ne_m6, Nat.reduceEqDiff, reduceCtorEq, Nat.reduceLT, Nat.reduceLeDiff, Nat.reduceAdd, Nat.reduceMul, Nat.zero_add, Nat.mul_zero, nar_0, nar_1, nar_b, bI_t, bI_f, bI_0, bI_1, Bool.true_eq_false, Bool.false_eq_true, Bool.and_self, Bool.and_false, Bool.false_and, Bool.true_and, Bool.and_true, and_self, b_nF, e2, hlt, g1, xn, y]
    · rw [if_neg h6] at es
      obtain ⟨t, t1, t2, t3, t4, t5⟩ := go_step w1 w2 hD (by omega) h6
      rw [t1, nI_clamp (by have := hW.1.2.2.2; omega)] at es
      obtain ⟨c1, r1, xt⟩ := x_take (D := D) (m := m) (z := z) hB hR w1 (i := i) (t := t) (by omega) t2
      rw [t1] at g1
      by_cases hs : inStF (goF P f i).2 (nsF (goF P f i).2 t 2) = true
      · rw [if_pos hs] at es
        obtain ⟨c', r, y⟩ := ih (i + 1) c1 (by omega) (by rw [es]; exact r1)
        rw [es] at y
        simp only [if_pos hs] at xt
        refine ⟨c', r, fun Q => ?_⟩
        generalize hq : 2 + 4 + i = q at b11 b12 xt
        rw [sX6_giveOut_26]
        simp (disch := omega) only [sX6_giveOut_27, sX6_giveOut_28, sX6_giveOut_31, sX6_giveOut_34, sX6_giveOut_37, sX6_giveOut_38, sX6_giveOut_41, sX6_giveOut_42, sX6_giveOut_45, sX6_giveOut_48, sX6_giveOut_49, sX6_giveOut_50, sX6_giveOut_51, sX6_giveOut_54, sX6_giveOut_57, sX6_giveOut_58, sX6_giveOut_59, sX6_giveOut_62, sX6_giveOut_65, sX6_giveOut_68, sX6_giveOut_71, sX6_giveOut_74, sX6_giveOut_75, hA, hPl, b1, b2, b5, b6, b11, b12, true_and, and_true, true_or, or_true, eq_self, ↓reduceIte, if_true, if_false, nI_add, nI_mul, inB_nI, nI_clamp, Nat.add_zero, eqI, ltI, leI, m6_ne, ne_m6, Nat.reduceEqDiff, reduceCtorEq, Nat.reduceLT, Nat.reduceLeDiff, Nat.reduceAdd, Nat.reduceMul, Nat.zero_add, Nat.mul_zero, nar_0, nar_1, nar_b, bI_t, bI_f, bI_0, bI_1, Bool.true_eq_false, Bool.false_eq_true, Bool.and_self, Bool.and_false, Bool.false_and, Bool.true_and, Bool.and_true, and_self, b_nF, e2, hlt, g1, xt, y, Nat.one_ne_zero]
      · rw [if_neg hs] at es
        obtain ⟨c', r, y⟩ := ih (i + 1) c (by omega) (by rw [es]; exact hR)
        rw [es] at y
        simp only [if_neg hs] at xt
        refine ⟨c', r, fun Q => ?_⟩
        generalize hq : 2 + 4 + i = q at b11 b12 xt
        rw [sX6_giveOut_26]
        simp (disch := omega) only [sX6_giveOut_27, sX6_giveOut_28, sX6_giveOut_31, sX6_giveOut_34, sX6_giveOut_37, sX6_giveOut_38, sX6_giveOut_41, sX6_giveOut_42, sX6_giveOut_45, sX6_giveOut_48, sX6_giveOut_49, sX6_giveOut_50, sX6_giveOut_51, sX6_giveOut_54, sX6_giveOut_57, sX6_giveOut_58, sX6_giveOut_59, sX6_giveOut_62, sX6_giveOut_65, sX6_giveOut_68, sX6_giveOut_71, sX6_giveOut_74, sX6_giveOut_75, hA, hPl, b1, b2, b5, b6, b11, b12, true_and, and_true, true_or, or_true, eq_self, ↓reduceIte, if_true, if_false, nI_add, nI_mul, inB_nI, nI_clamp, Nat.add_zero, eqI, ltI, leI, m6_ne, ne_m6, Nat.reduceEqDiff, reduceCtorEq, Nat.reduceLT, Nat.reduceLeDiff, Nat.reduceAdd, Nat.reduceMul, Nat.zero_add, Nat.mul_zero, nar_0, nar_1, nar_b, bI_t, bI_f, bI_0, bI_1, Bool.true_eq_false, Bool.false_eq_true, Bool.and_self, Bool.and_false, Bool.false_and, Bool.true_and, Bool.and_true, and_self, b_nF, e2, hlt, g1, xt, y]
theorem CHp_bM {M : vMM} {c c2 : Nat → Int32} (h : CHp (bM m 2 c) M) : CHp (bM m 2 c2) (bM M 2 c2) := by
  intro a ha
  funext k
  have h1 := congrFun (h a ha) k
  unfold bM at h1 ⊢
  by_cases h2 : ixB 2 a k < 346
  · rw [if_pos h2, if_pos h2]
  · rw [if_neg h2] at h1
    rw [if_neg h2, if_neg h2]
    exact h1
theorem p_giveOut (C0 : Cpl D m) : Pair MX6_giveOut MX7_giveOut [.ref 1, vJ, vJ] [.ref 853, vJ, vJ, vJ] D m z := by
  obtain ⟨H, f, nF, nT, r, L, h, s, b0, b1, ch, C, S, E⟩ := C0
  have hA := C.1.1
  have hF := C.2.2.1
  have h8 := hF.1.2.1
  obtain ⟨c, D', H', m', k1, k2, k3, k4, k5, k6⟩ := C.kp (z := z)
  have hA' := k4.1
  have hPl := k4.2.2.2.1
  obtain ⟨M1, c1, hg, mp⟩ := x_makePlan (D := D') (z := z) hPl k4.2.1.1 (by decide) (Blk.mk (m := m') (b := 2) (c := c)) k2 hF
  have hm1 : bM M1 2 c = M1 := c1.blk Blk.mk (by decide)
  have hG := plV_GO hF
  have hD : ∀ j k u, u < 16 → plV (ablN f nF nT) nF j = nI u → plV (ablN f nF nT) nF (j + 1 + k) = nI u → False := fun j k u hu => plV_dis hu
  obtain ⟨c2, r2, lg⟩ := l_give (D := D') (m := M1) (z := z) hA' hPl k4.2.1.1 hF hG hD hg nF 0 c (by omega) k2
  rw [hm1] at lg
  have eg : goF (plV (ablN f nF nT) nF) f 8 = goF (plV (ablN f nF nT) nF) f nF := by
    have := goF_end (P := plV (ablN f nF nT) nF) (f := f) (n := nF) (8 - nF) (fun j h1 h2 => by
      rcases hG j (Nat.zero_le _) (by omega) with e | ⟨t, -, hj, -⟩
      · exact e
      · omega)
    rw [(by omega : nF + (8 - nF) = 8)] at this
    exact this
  have e1 : ∀ a, 853 ≤ a → bM M1 2 c2 a = m a := fun a ha => by rw [bM_o (by omega), c1.hi ha, bM_o (by omega), k3 a ha]
  have hE := eM_frC E e1
  obtain ⟨M2, c3, w2, mm⟩ := m_giveOut (D := D') (m := bM M1 2 c2) (z := z) (f := f) (r := r) k4.2.2.2.2.1 (S.frC e1).1.1 S.1.2.1 hF (N := 8) rfl
  rw [hE, eg] at mm
  rw [eg] at w2
  have C1 := (k6 c2 _ _ _ r2 w2).chp (CHp_bM c1)
  have S2 : MoS M2 (min r 5 + 1) L (histP h r f) s b0 b1 ch := (MoS.rec (S.frC e1)).ch c3
  refine ⟨_, D', bM M1 2 c2, D', _, fun Q => ?_, mm, Cpl.mk C1 S2 (fun a ha => by rw [c3.lo ha, recM_lo ha])⟩
  simp only [IsMM] at hA hA'
  rw [show (goF (plV (ablN f nF nT) nF) f 0).1 = 0 from rfl] at lg
  simp (disch := omega) only [sX6_giveOut_0, sX6_giveOut_1, sX6_giveOut_4, sX6_giveOut_5, sX6_giveOut_8, sX6_giveOut_11, sX6_giveOut_12, sX6_giveOut_15, sX6_giveOut_16, sX6_giveOut_19, sX6_giveOut_22, sX6_giveOut_23, sX6_giveOut_24, sX6_giveOut_25, hA, hA', hPl.1.1, true_and, and_true, true_or, or_true, eq_self, ↓reduceIte, if_true, if_false, nI_add, nI_mul, inB_nI, nI_clamp, Nat.add_zero, eqI, ltI, leI, m6_ne, ne_m6, Nat.reduceEqDiff, reduceCtorEq, Nat.reduceLT, Nat.reduceLeDiff, Nat.reduceAdd, Nat.reduceMul, Nat.zero_add, Nat.mul_zero, nar_0, nar_1, nar_b, bI_t, bI_f, bI_0, bI_1, Bool.true_eq_false, Bool.false_eq_true, Bool.and_self, Bool.and_false, Bool.false_and, Bool.true_and, Bool.and_true, and_self, k5, mp, lg]
theorem eM_keep {m m' : vMM} {f : Nat → Int32} (h : eM m f = m) (e4 : m' 854 = m 854) (e8 : m' 853 8 = m 853 8) (e9 : m' 853 9 = m 853 9) (e10 : m' 853 10 = m 853 10) : eM m' f = m' := by
  have g4 : ∀ k, k < 346 → m 854 k = f k := fun k hk => by rw [← h]; exact eM_st hk
  have g8 : m 853 8 = f 346 := by rw [← h]; rfl
  have g9 : m 853 9 = f 347 := by rw [← h]; rfl
  have g10 : m 853 10 = f 348 := by rw [← h]; rfl
  funext a
  by_cases h4 : a = 854
  · subst h4
    funext k
    by_cases hk : k < 346
    · rw [eM_st hk, e4, g4 k hk]
    · simp only [eM, ↓reduceIte, hk]
  · by_cases h3 : a = 853
    · subst h3
      funext j
      by_cases j8 : j = 8
      · subst j8; rw [e8, g8]; rfl
      · by_cases j9 : j = 9
        · subst j9; rw [e9, g9]; rfl
        · by_cases j10 : j = 10
          · subst j10; rw [e10, g10]; rfl
          · rw [eM_fld j8 j9 j10]
    · rw [eM_oth h4 h3]
theorem int_put (x : Int64) : ∃ n, n < 2 ^ 64 ∧ x = uL n := ⟨x.toUInt64.toNat, x.toUInt64.toNat_lt, (uL_all x).symm⟩
theorem ClS.pad {H : Nat → Nat} {f : Nat → Int32} {nF nT r L L' : Nat} {h s : Nat → Int32} {b0 b1 : Bool} {ch ch' : Nat → Nat} {m' : vMM} (C : ClS D H m f nF nT r L h s b0 b1 ch) (e : ∀ a, a < 766 → m' a = m a) (hp : PadM m' L' ch') : ClS D H m' f nF nT r L' h s b0 b1 ch' := by
  obtain ⟨h1, ⟨c, h2, h3⟩, h4, h5, h6, h7⟩ := C
  exact ⟨h1, ⟨c, h2.cong (fun a _ _ => e a (by omega)), h3⟩, h4, hp, h6.cong h1.2.2.2.2.2 (fun a _ _ => e a (by omega)), h7.cong (fun a _ _ => e a (by omega))⟩
theorem p_put (C0 : Cpl D m) (x : Int64) : Pair MX6_put MX7_put [.ref 1, .long x, vJ, vJ] [.ref 853, .long x, vJ, vJ, vJ, vJ, vJ, vJ] D m z := by
  obtain ⟨H, f, nF, nT, r, L, h, s, b0, b1, ch, C, S, E⟩ := C0
  have hM := C.1.2.2.2.2.1
  have hA := C.1.1
  have hP := C.1.2.2.1
  have hm := C.2.2.2.1
  have K : Cpl D m := ⟨H, f, nF, nT, r, L, h, s, b0, b1, ch, C, S, E⟩
  simp only [IsMM] at hA
  obtain ⟨n, hn, rfl⟩ := int_put x
  have sg := fun Q => x_signsIn (D := D) (m := m) (z := z) (Q := Q) hn
  have d1 := hP.1.1
  have l1 := hm.1
  have l60 := hm.2.1
  have m7 : m 853 7 = nI L := S.2.2.1.1
  have p8 := putN_le n
  by_cases h0 : putN n = 0
  · refine ⟨m2, D, m, D, m, fun Q => ?_, fun Q => m_put_bad hn h0, K⟩
    rw [h0] at sg
    simp (disch := omega) only [sX6_put_0, sX6_put_1, sX6_put_4, sX6_put_5, sX6_put_6, sX6_put_9, sX6_put_11, sX6_put_12, sX6_put_13, sX6_put_16, sX6_put_19, sX6_put_20, sX6_put_21, sX6_put_23, sX6_put_26, sX6_put_28, sX6_put_29, sX6_put_30, sX6_put_33, sX6_put_34, sX6_put_35, sX6_put_38, sX6_put_39, sX6_put_42, sX6_put_45, hA, true_and, and_true, true_or, or_true, eq_self, ↓reduceIte, if_true, if_false, nI_add, nI_mul, inB_nI, nI_clamp, Nat.add_zero, eqI, ltI, leI, m6_ne, ne_m6, Nat.reduceEqDiff, reduceCtorEq, Nat.reduceLT, Nat.reduceLeDiff, Nat.reduceAdd, Nat.reduceMul, Nat.zero_add, Nat.mul_zero, nar_0, nar_1, nar_b, bI_t, bI_f, bI_0, bI_1, Bool.true_eq_false, Bool.false_eq_true, Bool.and_self, Bool.and_false, Bool.false_and, Bool.true_and, Bool.and_true, and_self, sg]
  · have h0' : ¬ putN n = 0 := h0
    by_cases hL : L + putN n ≤ 60
    · have e1 : ∀ a, 853 ≤ a → pdM m L (putN n) n (putN n) a = m a := fun a ha => by unfold pdM; rw [setR_ne (by omega), setR_ne (by omega)]
      have hE := eM_frC E e1
      have mm := fun Q => m_put (D := D) (m := pdM m L (putN n) n (putN n)) (z := z) (Q := Q) hM hn ((S.frC e1).2.2.1.1) l60 h0 hL
      have ap := fun Q => x_append (D := D) (m := m) (z := z) (Q := Q) hP hn l1 h0 hL
      have C1 : ClS D H (pdM m L (putN n) n (putN n)) f nF nT r (L + putN n) h s b0 b1 (apC n (putN n) L (putN n) ch) := C.pad (fun a ha => by unfold pdM; rw [setR_ne (by omega), setR_ne (by omega)]) (hm.put hL)
      have S2 := MoS.put (S.frC e1) (t := putN n) rfl hL
      have hE2 : eM (ptM (pdM m L (putN n) n (putN n)) L (putN n) n (putN n)) f = ptM (pdM m L (putN n) n (putN n)) L (putN n) n (putN n) := by
        unfold ptM
        refine eM_keep hE ?_ ?_ ?_ ?_
        · rw [setR_ne (by decide), setR_ne (by decide)]
        · rw [setR_eq, upd_ne _ _ (by decide)]
        · rw [setR_eq, upd_ne _ _ (by decide)]
        · rw [setR_eq, upd_ne _ _ (by decide)]
      refine ⟨_, D, pdM m L (putN n) n (putN n), D, _, fun Q => ?_, mm, ?_⟩
      · simp (disch := omega) only [sX6_put_0, sX6_put_1, sX6_put_4, sX6_put_5, sX6_put_6, sX6_put_9, sX6_put_11, sX6_put_12, sX6_put_13, sX6_put_16, sX6_put_19, sX6_put_20, sX6_put_21, sX6_put_23, sX6_put_26, sX6_put_28, sX6_put_29, sX6_put_30, sX6_put_33, sX6_put_34, sX6_put_35, sX6_put_38, sX6_put_39, sX6_put_42, sX6_put_45, hA, d1, true_and, and_true, true_or, or_true, eq_self, ↓reduceIte, if_true, if_false, nI_add, nI_mul, inB_nI, nI_clamp, Nat.add_zero, eqI, ltI, leI, m6_ne, ne_m6, Nat.reduceEqDiff, reduceCtorEq, Nat.reduceLT, Nat.reduceLeDiff, Nat.reduceAdd, Nat.reduceMul, Nat.zero_add, Nat.mul_zero, nar_0, nar_1, nar_b, bI_t, bI_f, bI_0, bI_1, Bool.true_eq_false, Bool.false_eq_true, Bool.and_self, Bool.and_false, Bool.false_and, Bool.true_and, Bool.and_true, and_self, sg, h0', l1, hL, ap, pdM_2]
      · rw [← hE2]
        exact Cpl.mk C1 S2 (fun a ha => by unfold ptM; rw [setR_ne (by omega), setR_ne (by omega)])
    · have mm := fun Q => m_put_many (D := D) (m := m) (z := z) (Q := Q) hM hn m7 l60 h0 (by omega)
      refine ⟨m4, D, m, D, m, fun Q => ?_, mm, K⟩
      simp (disch := omega) only [sX6_put_0, sX6_put_1, sX6_put_4, sX6_put_5, sX6_put_6, sX6_put_9, sX6_put_11, sX6_put_12, sX6_put_13, sX6_put_16, sX6_put_19, sX6_put_20, sX6_put_21, sX6_put_23, sX6_put_26, sX6_put_28, sX6_put_29, sX6_put_30, sX6_put_33, sX6_put_34, sX6_put_35, sX6_put_38, sX6_put_39, sX6_put_42, sX6_put_45, hA, d1, true_and, and_true, true_or, or_true, eq_self, ↓reduceIte, if_true, if_false, nI_add, nI_mul, inB_nI, nI_clamp, Nat.add_zero, eqI, ltI, leI, m6_ne, ne_m6, Nat.reduceEqDiff, reduceCtorEq, Nat.reduceLT, Nat.reduceLeDiff, Nat.reduceAdd, Nat.reduceMul, Nat.zero_add, Nat.mul_zero, nar_0, nar_1, nar_b, bI_t, bI_f, bI_0, bI_1, Bool.true_eq_false, Bool.false_eq_true, Bool.and_self, Bool.and_false, Bool.false_and, Bool.true_and, Bool.and_true, and_self, sg, h0', l1, hL]
theorem p_wipe (C0 : Cpl D m) : Pair MX6_wipe MX7_wipe [.ref 1, vJ] [.ref 853, vJ] D m z := by
  obtain ⟨H, f, nF, nT, r, L, h, s, b0, b1, ch, C, S, E⟩ := C0
  have hM := C.1.2.2.2.2.1
  have hA := C.1.1
  have hP := C.1.2.2.1
  have hm := C.2.2.2.1
  simp only [IsMM] at hA
  have d1 := hP.1.1
  have l1 := hm.1
  have e1 : ∀ a, 853 ≤ a → up2 m 766 2 (nI 0) a = m a := fun a ha => up2_ne (by omega)
  have S1 := S.frC e1
  have m7 : up2 m 766 2 (nI 0) 853 7 = nI L := S1.2.2.1.1
  have mm := fun Q => m_wipe (D := D) (m := up2 m 766 2 (nI 0)) (z := z) (Q := Q) hM
  rw [m7] at mm
  have hE := eM_frC E e1
  have hE2 : eM (setR (up2 m 766 2 (nI 0)) 853 (upd (up2 m 766 2 (nI 0) 853) 7 (nI 0))) f = setR (up2 m 766 2 (nI 0)) 853 (upd (up2 m 766 2 (nI 0) 853) 7 (nI 0)) := by
    refine eM_keep hE ?_ ?_ ?_ ?_
    · rw [setR_ne (by decide)]
    · rw [setR_eq, upd_ne _ _ (by decide)]
    · rw [setR_eq, upd_ne _ _ (by decide)]
    · rw [setR_eq, upd_ne _ _ (by decide)]
  have C1 : ClS D H (up2 m 766 2 (nI 0)) f nF nT r 0 h s b0 b1 ch := C.pad (fun a ha => up2_ne (by omega)) ⟨by rw [up2_eq, upd_eq], by decide, fun j hj => absurd hj (Nat.not_lt_zero j)⟩
  refine ⟨_, D, up2 m 766 2 (nI 0), D, _, fun Q => ?_, mm, ?_⟩
  · simp (disch := omega) only [sX6_wipe_0, sX6_wipe_1, sX6_wipe_4, sX6_wipe_7, sX6_wipe_8, sX6_wipe_9, sX6_wipe_12, sX6_wipe_13, sX6_wipe_16, sX6_wipe_17, hA, d1, true_and, and_true, true_or, or_true, eq_self, ↓reduceIte, if_true, if_false, nI_add, nI_mul, inB_nI, nI_clamp, Nat.add_zero, eqI, ltI, leI, m6_ne, ne_m6, Nat.reduceEqDiff, reduceCtorEq, Nat.reduceLT, Nat.reduceLeDiff, Nat.reduceAdd, Nat.reduceMul, Nat.zero_add, Nat.mul_zero, nar_0, nar_1, nar_b, bI_t, bI_f, bI_0, bI_1, Bool.true_eq_false, Bool.false_eq_true, Bool.and_self, Bool.and_false, Bool.false_and, Bool.true_and, Bool.and_true, and_self, l1]
  · rw [← hE2]
    exact Cpl.mk C1 S1.wipe (fun a ha => setR_ne (by omega))
theorem p_fault (C0 : Cpl D m) : Pair MX6_fault MX7_fault [.ref 1] [.ref 853] D m z := by
  obtain ⟨H, f, nF, nT, r, L, h, s, b0, b1, ch, C, S, E⟩ := C0
  have hM := C.1.2.2.2.2.1
  have hA := C.1.1
  have hP := C.1.2.2.1
  have hm := C.2.2.2.1
  simp only [IsMM] at hA
  obtain ⟨D', M1, de, f1, f2, -, rt⟩ := x_readThings (z := z) hP hm (m 866)
  have e1 : ∀ a, 853 ≤ a → M1 a = m a := fun a ha => f1 a (by omega) (by omega)
  have S1 := S.frC e1
  have hE := eM_frC E e1
  have C1 : ClS D' H M1 f nF nT r L h s b0 b1 ch := (C.cong (fun a _ h1 h2 => f1 a h2 (by omega)) f2).de de
  obtain ⟨p, k, hp, hk⟩ := S1.2.2.2
  obtain ⟨p', k', w', T', mm⟩ := m_fault (D := D') (m := M1) (f := f) (z := z) C1.1.2.2.2.2.1 S1.2.2.1 hp hk
  rw [hE, e1 866 (by decide)] at mm
  refine ⟨_, D', M1, D', _, fun Q => ?_, mm, Cpl.mk C1 S1.rdp (fun a ha => pM_lo ha)⟩
  simp (disch := omega) only [sX6_fault_0, sX6_fault_1, sX6_fault_4, sX6_fault_7, hA, hP.1.1, true_and, and_true, true_or, or_true, eq_self, ↓reduceIte, if_true, if_false, nI_add, nI_mul, inB_nI, nI_clamp, Nat.add_zero, eqI, ltI, leI, m6_ne, ne_m6, Nat.reduceEqDiff, reduceCtorEq, Nat.reduceLT, Nat.reduceLeDiff, Nat.reduceAdd, Nat.reduceMul, Nat.zero_add, Nat.mul_zero, nar_0, nar_1, nar_b, bI_t, bI_f, bI_0, bI_1, Bool.true_eq_false, Bool.false_eq_true, Bool.and_self, Bool.and_false, Bool.false_and, Bool.true_and, Bool.and_true, and_self, rt]
theorem x_takeBack {H : Nat → Nat} {r : Nat} {h : Nat → Int32} (hW : Wd D H) (hh : HiM m H (r + 1) h) : ∃ c' nF' nT', Rfc (fun k => h (346 * r + k)) c' nF' nT' ∧ WF (fun k => h (346 * r + k)) nF' nT' ∧ ∀ Q, Runs MX1_takeBack 0 [.ref 308, .ref 2] [] D m z Q = Q vJ D (bM (up2 m 308 1 (nI r)) 2 c') z := by
  obtain ⟨h1, h2, h3⟩ := hh
  obtain ⟨⟨-, -, -, hM⟩, ⟨hB2, -, -, -, hB⟩, -, -, -, hI⟩ := hW
  obtain ⟨cs, nF', nT', q1, q2, q3⟩ := h3 r (by omega)
  have hx := hI.2.2.1 r (by omega)
  have hx2 := hI.2.1 r (by omega)
  obtain ⟨c', r', y⟩ := x_copyR (D := D) (m := up2 m 308 1 (nI r)) (z := z) (b := 2) (a := 310 + 76 * H r) hB2 (hB _ hx) (q1.cong (fun a _ _ => up2_ne (by omega))) (by omega) q2 q3
  refine ⟨c', nF', nT', r', q3, fun Q => ?_⟩
  have e : nI (r + 1) - nI 1 = nI r := by rw [nI_sub _ _ (by omega)]; rfl
  have g : up2 m 308 1 (nI r) 308 1 = nI r := by rw [up2_eq, upd_eq]
  have ng : ¬ nI (r + 1) ≤ nI 0 := by rw [leI _ _ (by omega) (by decide)]; omega
  simp (disch := omega) only [sX1_takeBack_0, sX1_takeBack_1, sX1_takeBack_4, sX1_takeBack_7, sX1_takeBack_8, sX1_takeBack_9, sX1_takeBack_12, sX1_takeBack_13, sX1_takeBack_14, sX1_takeBack_17, sX1_takeBack_18, sX1_takeBack_19, sX1_takeBack_22, sX1_takeBack_23, sX1_takeBack_26, sX1_takeBack_27, sX1_takeBack_30, hM, hI.1, hB2.1.1, (hB _ hx).1.1, h1, ng, ↓reduceIte, true_and, e, g, inB_nI, nI_clamp, hx2, y, Nat.reduceLeDiff, and_self]
theorem p_undo (C0 : Cpl D m) : Pair MX6_undo MX7_undo [.ref 1] [.ref 853] D m z := by
  obtain ⟨H, f, nF, nT, r, L, h, s, b0, b1, ch, C, S, E⟩ := C0
  have hM := C.1.2.2.2.2.1
  have hA := C.1.1
  have K : Cpl D m := ⟨H, f, nF, nT, r, L, h, s, b0, b1, ch, C, S, E⟩
  have hh := C.2.2.2.2.1
  have l1 := hh.1
  simp only [IsMM] at hA
  cases r with
  | zero =>
    refine ⟨m5, D, m, D, m, fun Q => ?_, fun Q => m_undo_no hM S.1.1, K⟩
    simp (disch := omega) only [sX6_undo_0, sX6_undo_1, sX6_undo_4, sX6_undo_7, sX6_undo_10, sX6_undo_12, sX6_undo_13, sX6_undo_14, sX6_undo_17, sX6_undo_18, sX6_undo_21, sX6_undo_24, sX6_undo_25, sX6_undo_28, sX6_undo_31, hA, true_and, and_true, true_or, or_true, eq_self, ↓reduceIte, if_true, if_false, nI_add, nI_mul, inB_nI, nI_clamp, Nat.add_zero, eqI, ltI, leI, m6_ne, ne_m6, Nat.reduceEqDiff, reduceCtorEq, Nat.reduceLT, Nat.reduceLeDiff, Nat.reduceAdd, Nat.reduceMul, Nat.zero_add, Nat.mul_zero, nar_0, nar_1, nar_b, bI_t, bI_f, bI_0, bI_1, Bool.true_eq_false, Bool.false_eq_true, Bool.and_self, Bool.and_false, Bool.false_and, Bool.true_and, Bool.and_true, and_self, l1]
  | succ r =>
    obtain ⟨c', nF', nT', r', w', tb⟩ := x_takeBack (z := z) C.1 hh
    have e1 : ∀ a, 853 ≤ a → bM (up2 m 308 1 (nI r)) 2 c' a = m a := fun a ha => by rw [bM_o (by omega), up2_ne (by omega)]
    have S1 := S.frC e1
    have hE := eM_frC E e1
    have mm := fun Q => m_undo (D := D) (m := bM (up2 m 308 1 (nI r)) 2 c') (z := z) (f := f) (Q := Q) (r := r) hM S1.1.1 (by have := S1.1.2.1; omega)
    rw [hE] at mm
    have eg : ∀ k, k < 346 → mixF (histG (bM (up2 m 308 1 (nI r)) 2 c') r) f k = h (346 * r + k) := fun k hk => by
      rw [mixF_lo hk]
      unfold histG
      rw [S1.1.2.2.1]
    have C1 : ClS D H (bM (up2 m 308 1 (nI r)) 2 c') (mixF (histG (bM (up2 m 308 1 (nI r)) 2 c') r) f) nF' nT' r L h s b0 b1 ch := by
      obtain ⟨q1, -, -, q4, ⟨q5, q6, q7⟩, q8⟩ := C
      refine ⟨q1, ⟨c', Blk.mk, r'.extf w'.1.2.1 w'.1.2.2.2 eg⟩, w'.extf eg, ?_, ⟨?_, by omega, fun j hj => ?_⟩, ?_⟩
      · exact q4.cong (by rw [bM_o (by omega), up2_ne (by decide)]) (by rw [bM_o (by omega), up2_ne (by decide)])
      · rw [bM_o (by omega), up2_eq, upd_eq]
      · have := q1.2.2.2.2.2.2.2.1 j (by omega)
        exact (q7 j (by omega)).cong (fun a _ _ => by rw [bM_o (by omega), up2_ne (by omega)])
      · exact q8.cong (fun a _ _ => by rw [bM_o (by omega), up2_ne (by omega)])
    have ng : ¬ nI (r + 1) = nI 0 := by rw [eqI _ _ (by have := S.1.2.1; omega) (by decide)]; omega
    have g : bM (up2 m 308 1 (nI r)) 2 c' 308 1 = nI r := by rw [bM_o (by omega), up2_eq, upd_eq]
    refine ⟨_, D, _, D, _, fun Q => ?_, mm, Cpl.mk C1 S1.undo (fun a ha => setR_ne (by omega))⟩
    simp (disch := omega) only [sX6_undo_0, sX6_undo_1, sX6_undo_4, sX6_undo_7, sX6_undo_10, sX6_undo_12, sX6_undo_13, sX6_undo_14, sX6_undo_17, sX6_undo_18, sX6_undo_21, sX6_undo_24, sX6_undo_25, sX6_undo_28, sX6_undo_31, hA, l1, ng, ↓reduceIte, true_and, tb, g]
theorem p_save (C0 : Cpl D m) (x : Int32) : Pair MX6_save MX7_save [.ref 1, .int x] [.ref 853, .int x] D m z := by
  obtain ⟨H, f, nF, nT, r, L, h, s, b0, b1, ch, C, S, E⟩ := C0
  have hM := C.1.2.2.2.2.1
  have hA := C.1.1
  have hF := C.2.2.1
  have K : Cpl D m := ⟨H, f, nF, nT, r, L, h, s, b0, b1, ch, C, S, E⟩
  simp only [IsMM] at hA
  have o1 := fun (m : vMM) Q => x_outside (D := D) (m := m) (z := z) (v := x) (a := nI 0) (b := nI 1) (Q := Q)
  rw [inR4 x (by decide)] at o1
  cases hx : inR x 2
  · rw [hx] at o1
    refine ⟨m2, D, m, D, m, fun Q => ?_, fun Q => m_save_bad hM hx, K⟩
    simp (disch := omega) only [sX6_save_0, sX6_save_1, sX6_save_2, sX6_save_3, sX6_save_6, sX6_save_9, sX6_save_11, sX6_save_12, sX6_save_13, sX6_save_16, sX6_save_17, sX6_save_18, sX6_save_19, sX6_save_22, sX6_save_25, sX6_save_26, sX6_save_29, sX6_save_30, sX6_save_31, sX6_save_32, sX6_save_33, sX6_save_36, sX6_save_39, hA, true_and, and_true, true_or, or_true, eq_self, ↓reduceIte, if_true, if_false, nI_add, nI_mul, inB_nI, nI_clamp, Nat.add_zero, eqI, ltI, leI, m6_ne, ne_m6, Nat.reduceEqDiff, reduceCtorEq, Nat.reduceLT, Nat.reduceLeDiff, Nat.reduceAdd, Nat.reduceMul, Nat.zero_add, Nat.mul_zero, nar_0, nar_1, nar_b, bI_t, bI_f, bI_0, bI_1, Bool.true_eq_false, Bool.false_eq_true, Bool.and_self, Bool.and_false, Bool.false_and, Bool.true_and, Bool.and_true, and_self, o1, Bool.not_false, Nat.one_ne_zero]
  · obtain ⟨p, hp, rfl⟩ := inR_t hx (by decide)
    rw [hx] at o1
    have go : ∀ b : Nat, b = 155 + 76 * p → IsM D b → (D 154).2.2 p = some b → Pair MX6_save MX7_save [.ref 1, .int (nI p)] [.ref 853, .int (nI p)] D m z := by
      intro b hb hBb hd
      obtain ⟨c0, q1, q2, q3, -⟩ := C.rd
      obtain ⟨c', r', y⟩ := x_copyR (D := D) (m := m) (z := z) (b := b) (a := 2) hBb q3 (show Blk m 2 c0 from q1) (by omega) q2 hF
      have e1 : ∀ a, 853 ≤ a → up2 (bM m b c') 307 p (nI 1) a = m a := fun a ha => by rw [up2_ne (by omega), bM_o (by omega)]
      have S1 := S.frC e1
      have hE := eM_frC E e1
      have mm := fun Q => m_save (D := D) (m := up2 (bM m b c') 307 p (nI 1)) (z := z) (f := f) (Q := Q) hM hp
      rw [hE] at mm
      have C1 : ClS D H (up2 (bM m b c') 307 p (nI 1)) f nF nT r L h (fun j => if 346 * p ≤ j ∧ j < 346 * p + 346 then f (j - 346 * p) else s j) (if p = 0 then true else b0) (if p = 1 then true else b1) ch := by
        obtain ⟨t1, ⟨c, t2, t3⟩, t4, t5, t6, ⟨t7, t8⟩, t9, t10⟩ := C
        refine ⟨t1, ⟨c, t2.cong (fun a _ _ => by rw [up2_ne (by omega), bM_o (by omega)]), t3⟩, t4, ?_, ?_, ⟨?_, ?_⟩, fun hb0 => ?_, fun hb1 => ?_⟩
        · exact t5.cong (by rw [up2_ne (by decide), bM_o (by omega)]) (by rw [up2_ne (by decide), bM_o (by omega)])
        · exact t6.cong t1.2.2.2.2.2 (fun a _ _ => by rw [up2_ne (by omega), bM_o (by omega)])
        · rw [up2_eq, bM_o (by omega)]
          rcases (by omega : p = 0 ∨ p = 1) with rfl | rfl
          · rfl
          · rw [upd_ne _ _ (by decide)]; exact t7
        · rw [up2_eq, bM_o (by omega)]
          rcases (by omega : p = 0 ∨ p = 1) with rfl | rfl
          · rw [upd_ne _ _ (by decide)]; exact t8
          · rfl
        · rcases (by omega : p = 0 ∨ p = 1) with rfl | rfl
          · subst hb
            have : Sv (up2 (bM m 155 c') 307 0 (nI 1)) 155 f := ⟨c', nF, nT, Blk.mk.cong (fun a _ _ => up2_ne (by omega)), r', hF⟩
            refine this.extf (fun k hk => ?_)
            dsimp only
            rw [if_pos (by omega)]
            exact congrArg f (by omega)
          · rw [if_neg (by decide)] at hb0
            refine ((t9 hb0).cong (fun a _ _ => by rw [up2_ne (by omega), bM_o (by omega)])).extf (fun k hk => ?_)
            dsimp only
            rw [if_neg (by omega)]
        · rcases (by omega : p = 0 ∨ p = 1) with rfl | rfl
          · rw [if_neg (by decide)] at hb1
            refine ((t10 hb1).cong (fun a _ _ => by rw [up2_ne (by omega), bM_o (by omega)])).extf (fun k hk => ?_)
            dsimp only
            rw [if_neg (by omega)]
          · subst hb
            have : Sv (up2 (bM m 231 c') 307 1 (nI 1)) 231 f := ⟨c', nF, nT, Blk.mk.cong (fun a _ _ => up2_ne (by omega)), r', hF⟩
            refine this.extf (fun k hk => ?_)
            dsimp only
            rw [if_pos (by omega)]
            exact congrArg f (by omega)
      have g4 : up2 (bM m b c') 307 p (nI 1) 2 4 = gG f 3 := by
        rw [up2_ne (by decide), bM_o (by omega), ← q1, b_nT]
        exact q2.1 3 (by decide)
      have b2 := q3.1.1
      have hk := hBb.1.1
      refine ⟨_, D, _, D, _, fun Q => ?_, mm, Cpl.mk C1 (S1.save hp) (fun a ha => by unfold saveM; rw [setR_ne (by omega), setR_ne (by omega)])⟩
      simp (disch := omega) only [sX6_save_0, sX6_save_1, sX6_save_2, sX6_save_3, sX6_save_6, sX6_save_9, sX6_save_11, sX6_save_12, sX6_save_13, sX6_save_16, sX6_save_17, sX6_save_18, sX6_save_19, sX6_save_22, sX6_save_25, sX6_save_26, sX6_save_29, sX6_save_30, sX6_save_31, sX6_save_32, sX6_save_33, sX6_save_36, sX6_save_39, hA, b2, hk, true_and, and_true, true_or, or_true, eq_self, ↓reduceIte, if_true, if_false, nI_add, nI_mul, inB_nI, nI_clamp, Nat.add_zero, eqI, ltI, leI, m6_ne, ne_m6, Nat.reduceEqDiff, reduceCtorEq, Nat.reduceLT, Nat.reduceLeDiff, Nat.reduceAdd, Nat.reduceMul, Nat.zero_add, Nat.mul_zero, nar_0, nar_1, nar_b, bI_t, bI_f, bI_0, bI_1, Bool.true_eq_false, Bool.false_eq_true, Bool.and_self, Bool.and_false, Bool.false_and, Bool.true_and, Bool.and_true, and_self, o1, Bool.not_true, hd, y, g4, or_true]
    rcases (by omega : p = 0 ∨ p = 1) with rfl | rfl
    · exact go 155 rfl C.1.2.1.2.2.1 hA.2.1.2.2.1
    · exact go 231 rfl C.1.2.1.2.2.2.1 hA.2.1.2.2.2
theorem p_restore (C0 : Cpl D m) (x : Int32) : Pair MX6_restore MX7_restore [.ref 1, .int x] [.ref 853, .int x] D m z := by
  obtain ⟨H, f, nF, nT, r, L, h, s, b0, b1, ch, C, S, E⟩ := C0
  have hM := C.1.2.2.2.2.1
  have hA := C.1.1
  have hF := C.2.2.1
  have K : Cpl D m := ⟨H, f, nF, nT, r, L, h, s, b0, b1, ch, C, S, E⟩
  simp only [IsMM] at hA
  have o1 := fun (m : vMM) Q => x_outside (D := D) (m := m) (z := z) (v := x) (a := nI 0) (b := nI 1) (Q := Q)
  rw [inR4 x (by decide)] at o1
  cases hx : inR x 2
  · rw [hx] at o1
    refine ⟨m2, D, m, D, m, fun Q => ?_, fun Q => m_restore_bad hM hx, K⟩
    simp (disch := omega) only [sX6_restore_0, sX6_restore_1, sX6_restore_2, sX6_restore_3, sX6_restore_6, sX6_restore_9, sX6_restore_11, sX6_restore_12, sX6_restore_13, sX6_restore_16, sX6_restore_17, sX6_restore_18, sX6_restore_21, sX6_restore_23, sX6_restore_24, sX6_restore_25, sX6_restore_28, sX6_restore_29, sX6_restore_32, sX6_restore_35, sX6_restore_36, sX6_restore_39, sX6_restore_40, sX6_restore_43, sX6_restore_44, sX6_restore_45, sX6_restore_48, sX6_restore_49, sX6_restore_52, sX6_restore_55, hA, true_and, and_true, true_or, or_true, eq_self, ↓reduceIte, if_true, if_false, nI_add, nI_mul, inB_nI, nI_clamp, Nat.add_zero, eqI, ltI, leI, m6_ne, ne_m6, Nat.reduceEqDiff, reduceCtorEq, Nat.reduceLT, Nat.reduceLeDiff, Nat.reduceAdd, Nat.reduceMul, Nat.zero_add, Nat.mul_zero, nar_0, nar_1, nar_b, bI_t, bI_f, bI_0, bI_1, Bool.true_eq_false, Bool.false_eq_true, Bool.and_self, Bool.and_false, Bool.false_and, Bool.true_and, Bool.and_true, and_self, o1, Bool.not_false, Nat.one_ne_zero]
  · obtain ⟨p, hp, rfl⟩ := inR_t hx (by decide)
    rw [hx] at o1
    have go : ∀ (b : Nat) (bb : Bool), b = 155 + 76 * p → m 307 p = bI bb → m 858 p = bI bb → (bb = true → Sv m b (fun k => s (346 * p + k))) → (∀ D' H', Wd D' H' → (D' 154).2.2 p = some b ∧ IsM D' b) → Pair MX6_restore MX7_restore [.ref 1, .int (nI p)] [.ref 853, .int (nI p)] D m z := by
      intro b bb hb h7 h8 hS hd
      cases bb
      · refine ⟨m5, D, m, D, m, fun Q => ?_, fun Q => m_restore_no hM hp (by rw [h8]; rfl), K⟩
        simp (disch := omega) only [sX6_restore_0, sX6_restore_1, sX6_restore_2, sX6_restore_3, sX6_restore_6, sX6_restore_9, sX6_restore_11, sX6_restore_12, sX6_restore_13, sX6_restore_16, sX6_restore_17, sX6_restore_18, sX6_restore_21, sX6_restore_23, sX6_restore_24, sX6_restore_25, sX6_restore_28, sX6_restore_29, sX6_restore_32, sX6_restore_35, sX6_restore_36, sX6_restore_39, sX6_restore_40, sX6_restore_43, sX6_restore_44, sX6_restore_45, sX6_restore_48, sX6_restore_49, sX6_restore_52, sX6_restore_55, hA, true_and, and_true, true_or, or_true, eq_self, ↓reduceIte, if_true, if_false, nI_add, nI_mul, inB_nI, nI_clamp, Nat.add_zero, eqI, ltI, leI, m6_ne, ne_m6, Nat.reduceEqDiff, reduceCtorEq, Nat.reduceLT, Nat.reduceLeDiff, Nat.reduceAdd, Nat.reduceMul, Nat.zero_add, Nat.mul_zero, nar_0, nar_1, nar_b, bI_t, bI_f, bI_0, bI_1, Bool.true_eq_false, Bool.false_eq_true, Bool.and_self, Bool.and_false, Bool.false_and, Bool.true_and, Bool.and_true, and_self, o1, Bool.not_true, h7]
      · obtain ⟨c, D', H', m', k1, k2, k3, k4, k5, k6⟩ := C.keep (z := z)
        have hA' := k4.1
        simp only [IsMM] at hA'
        obtain ⟨hd1, hBb⟩ := hd D' H' k4
        have C2 := k6 c f nF nT k2 hF
        have hm' : bM m' 2 c = m' := k1
        rw [hm'] at C2
        have hsv : Sv m' b (fun k => s (346 * p + k)) := by
          rcases (by omega : p = 0 ∨ p = 1) with rfl | rfl
          · subst hb
            have hb0 : b0 = true := by
              have := C.2.2.2.2.2.1.1
              rw [h7] at this
              cases b0
              · exact absurd this (by decide +kernel)
              · rfl
            exact C2.2.2.2.2.2.2.1 hb0
          · subst hb
            have hb1 : b1 = true := by
              have := C.2.2.2.2.2.1.2
              rw [h7] at this
              cases b1
              · exact absurd this (by decide +kernel)
              · rfl
            exact C2.2.2.2.2.2.2.2 hb1
        obtain ⟨cs, nF', nT', v1, v2, v3⟩ := hsv
        obtain ⟨c', r', y⟩ := x_copyR (D := D') (m := m') (z := z) (b := 2) (a := b) k4.2.1.1 hBb v1 (by omega) v2 v3
        have e1 : ∀ a, 853 ≤ a → bM m' 2 c' a = m a := fun a ha => by rw [bM_o (by omega), k3 a ha]
        have S1 := S.frC e1
        have hE := eM_frC E e1
        have h8' : bM m' 2 c' 858 p = nI 1 := by rw [e1 858 (by decide), h8]; rfl
        have mm := fun Q => m_restore (D := D') (m := bM m' 2 c') (z := z) (f := f) (Q := Q) (r := r) k4.2.2.2.2.1 S1.1.1 S1.1.2.1 hp h8'
        rw [hE] at mm
        have eg : ∀ k, k < 346 → mixF (saveG (bM m' 2 c') p) f k = s (346 * p + k) := fun k hk => by
          rw [mixF_lo hk]
          unfold saveG
          rw [S1.1.2.2.2]
        have C1 := k6 c' (mixF (saveG (bM m' 2 c') p) f) nF' nT' (r'.extf v3.1.2.1 v3.1.2.2.2 eg) (v3.extf eg)
        have g4 : bM m' 2 c' 2 4 = saveG (bM m' 2 c') p 3 := by
          rw [b_nT]
          unfold saveG
          rw [S1.1.2.2.2]
          exact r'.1 3 (by decide)
        have b2 := k4.2.1.1.1.1
        refine ⟨_, D', _, D', _, fun Q => ?_, mm, Cpl.mk C1 S1.rec (fun a ha => recM_lo ha)⟩
        simp (disch := omega) only [sX6_restore_0, sX6_restore_1, sX6_restore_2, sX6_restore_3, sX6_restore_6, sX6_restore_9, sX6_restore_11, sX6_restore_12, sX6_restore_13, sX6_restore_16, sX6_restore_17, sX6_restore_18, sX6_restore_21, sX6_restore_23, sX6_restore_24, sX6_restore_25, sX6_restore_28, sX6_restore_29, sX6_restore_32, sX6_restore_35, sX6_restore_36, sX6_restore_39, sX6_restore_40, sX6_restore_43, sX6_restore_44, sX6_restore_45, sX6_restore_48, sX6_restore_49, sX6_restore_52, sX6_restore_55, hA, hA', b2, hBb.1.1, true_and, and_true, true_or, or_true, eq_self, ↓reduceIte, if_true, if_false, nI_add, nI_mul, inB_nI, nI_clamp, Nat.add_zero, eqI, ltI, leI, m6_ne, ne_m6, Nat.reduceEqDiff, reduceCtorEq, Nat.reduceLT, Nat.reduceLeDiff, Nat.reduceAdd, Nat.reduceMul, Nat.zero_add, Nat.mul_zero, nar_0, nar_1, nar_b, bI_t, bI_f, bI_0, bI_1, Bool.true_eq_false, Bool.false_eq_true, Bool.and_self, Bool.and_false, Bool.false_and, Bool.true_and, Bool.and_true, and_self, o1, Bool.not_true, h7, k5, hd1, y, g4, Nat.one_ne_zero]
    rcases (by omega : p = 0 ∨ p = 1) with rfl | rfl
    · exact go 155 b0 rfl C.2.2.2.2.2.1.1 S.2.1.1 C.2.2.2.2.2.2.1 (fun D' H' w => ⟨w.1.2.1.2.2.1, w.2.1.2.2.1⟩)
    · exact go 231 b1 rfl C.2.2.2.2.2.1.2 S.2.1.2 C.2.2.2.2.2.2.2 (fun D' H' w => ⟨w.1.2.1.2.2.2, w.2.1.2.2.2.1⟩)
end OP5
