/-! the law's act: bring, whole -/
theorem LB_of {M : vMM} {h : Nat → Int32} (h0 : ∀ k, k < 10 → M 853 k = gG h k) (h1 : ∀ k, k < 30 → M 854 k = h (10 + k)) (h2 : ∀ t k, t < 7 → k < 6 → M 855 (9 * t + k) = gT h t k) : LB M 853 h := by
  funext a k
  unfold lM
  by_cases hx : ixL 853 a k < 346
  · rw [if_pos hx]
    unfold ixL at hx ⊢
    by_cases a0 : a = 853
    · subst a0
      rw [if_pos rfl] at hx ⊢
      by_cases hk : k < 10
      · rw [if_pos hk]
        exact (h0 k hk).symm
      · rw [if_neg hk] at hx
        omega
    · rw [if_neg a0] at hx ⊢
      by_cases a1 : a = 853 + 1
      · subst a1
        rw [if_pos rfl] at hx ⊢
        by_cases hk : k < 30
        · rw [if_pos hk]
          exact (h1 k hk).symm
        · rw [if_neg hk] at hx
          omega
      · rw [if_neg a1] at hx ⊢
        by_cases a2 : a = 853 + 2
        · subst a2
          rw [if_pos rfl] at hx ⊢
          by_cases hk : k < 63 ∧ k % 9 < 6
          · rw [if_pos hk]
            have := h2 (k / 9) (k % 9) (by omega) hk.2
            rw [show 9 * (k / 9) + k % 9 = k by omega] at this
            exact this.symm
          · rw [if_neg hk] at hx
            omega
        · rw [if_neg a2] at hx
          omega
  · rw [if_neg hx]
theorem LB.r1 {M : vMM} {f : Nat → Int32} {k : Nat} (h : LB M 853 f) (hk : k < 30) : M 854 k = f (10 + k) := by
  rw [← show lM M 853 f = M from h]
  exact lM_rd (by unfold ixL; rw [if_neg (by decide), if_pos rfl, if_pos hk]) (by omega)
section BRH
variable {D : vDD} {M m : vMM} {f r0 r1 R : Nat → Int32} {z : vZZ} {nF nT L N e n : Nat} {l : List Nat} {ch : Nat → Nat} {tu x y ki fx : Int32}
theorem br_row {w j : Nat} : upd (pR y (upd (zR R e 9) (e + 1) (nI n)) e n) (e + 5) (nI w) j = if j = e + 5 then nI w else if e + 6 ≤ j ∧ j < e + 6 + n then nI (pkY y (j - (e + 6))) else if j = e + 1 then nI n else if e ≤ j ∧ j < e + 9 then nI 0 else R j := rfl
theorem a_bring (S : ST D (lM m 853 f) f nF nT L ch N) (hz : 861 ≤ z.1) (hF : 1 ≤ nF) (hT : nT < 7) : ACT 301 D (lM m 853 f) z N tu x y ki fx := by
  intro v15 v16 v17 v18 v19 v20
  obtain ⟨⟨C, hL, hP, hD, h5, h7⟩, hK⟩ := S
  have k6 := C.k6
  have hW := C.wf
  have g3 := hW.1.2.2.1
  have hD' := hD
  simp only [IsL, Nat.reduceAdd] at hD'
  have l1 := lwN_lt y (n := 3) (by decide)
  have y0 := fun (M : vMM) Q => y_low (D := D) (m := M) (z := z) (Q := Q) (v := y) (n := 3) (by decide) (by decide)
  generalize lwN y 3 = u at l1 y0
  have he : 9 * nT ≤ 54 := by omega
  have C1 : CK D (up2 (lM m 853 f) 853 3 (nI (nT + 1))) f nF nT L ch := C.fr (fun a ha => u2n (by omega))
  obtain ⟨D2, M2, C2, K2, e2, y2⟩ := op_k hK (o_wipe (z := z) C1) hz
  generalize hR : lM m 853 f 855 = R at *
  have I2 : IB D2 M2 f nF nT [] N (upd (lM m 853 f 853) 3 (nI (nT + 1))) (lM m 853 f 854) (zR R (9 * nT) 0) := by
    refine ⟨CK.chg C2 (fun j hj => absurd hj (Nat.not_lt_zero j)), K2, ?_, ?_, ?_⟩
    · rw [e2 853 (by decide), u2e]
    · rw [e2 854 (by decide), u2n (by decide)]
    · rw [zR_0, e2 855 (by decide), u2n (by decide), hR]
  obtain ⟨M3, I3, y3⟩ := l_Lz (z := z) (n := 1 + u) (tu := tu) (x := x) (y := y) (ki := ki) (fx := fx) (v18 := v18) (v19 := v19) (v20 := v20) he 9 0 M2 (by decide) I2
  have I4 := I3.wr (k := 9 * nT + 1) (v := nI (1 + u))
  have hD3 := I3.2.1.2.1
  simp only [IsL, Nat.reduceAdd] at hD3
  have I4 : IB D2 (up2 M3 855 (9 * nT + 1) (nI (1 + u))) f nF nT (txP (skY y) (wkY y) (paY y) 0) N (upd (lM m 853 f 853) 3 (nI (nT + 1))) (lM m 853 f 854) (pR y (upd (zR R (9 * nT) 9) (9 * nT + 1) (nI (1 + u))) (9 * nT) 0) := by
    rw [pR_0]
    exact I4
  obtain ⟨D5, M5, w18, w19, w20, I5, y5⟩ := l_Lt (z := z) (n := 1 + u) (tu := tu) (x := x) (y := y) (ki := ki) (fx := fx) he (by omega) hz (1 + u) 0 D2 _ v18 v19 v20 (by omega) I4
  have tl := tx_len (sk := skY y) (wk := wkY y) (pa := paY y) (1 + u)
  obtain ⟨w, D6, M6, hw, I6, y6⟩ := l_LtE (z := z) (tu := tu) (x := x) (y := y) (ki := ki) (fx := fx) he hz (by omega) I5 (v16 := .int (nI (1 + u))) (v17 := .int (nI (1 + u))) (v18 := w18) (v19 := w19) (v20 := w20)
  obtain ⟨C6, K6, a6, b6, d6⟩ := I6
  obtain ⟨T1, hT1, oc, sm⟩ := thR_tx (sk := skY y) (wk := wkY y) (pa := paY y) sk_lt wk_lt (n := 1 + u) (w := w) (by omega) (by omega) hw (fun _ => nI 0)
  obtain ⟨D7, M7, C7, K7, e7, y7⟩ := op_k K6 (o_fault (z := z) C6 hT1) hz
  obtain ⟨D8, M8, C8, K8, e8, y8⟩ := op_k K7 (o_bring (z := z) C7 hT1 sm (by omega)) hz
  have a8 : M8 853 = upd (lM m 853 f 853) 3 (nI (nT + 1)) := by rw [e8 853 (by decide), e7 853 (by decide), a6]
  have b8 : M8 854 = lM m 853 f 854 := by rw [e8 854 (by decide), e7 854 (by decide), b6]
  have d8 : ∀ j, M8 855 j = if j = 9 * nT + 5 then nI w else if 9 * nT + 6 ≤ j ∧ j < 9 * nT + 6 + (1 + u) then nI (pkY y (j - (9 * nT + 6))) else if j = 9 * nT + 1 then nI (1 + u) else if 9 * nT ≤ j ∧ j < 9 * nT + 9 then nI 0 else R j := fun j => by rw [e8 855 (by decide), e7 855 (by decide), d6]; exact br_row
  have q3 : M8 853 3 = nI (nT + 1) := by rw [a8, upd_eq]
  have LB8 : LB M8 853 (newF f nT (1 + u) (nI w) T1) := by
    refine LB_of (fun k hk => ?_) (fun k hk => ?_) (fun t k ht hk => ?_)
    · by_cases h : k = 3
      · subst h
        rw [q3]
        unfold gG newF
        rw [if_pos rfl]
      · rw [a8, upd_ne _ _ h, newF_G h (Or.inl hk) (by omega)]
        exact l_q hk
    · rw [b8, hL.r1 hk]
      unfold newF
      rw [if_neg (by omega), if_neg (by omega)]
    · rw [d8]
      by_cases h : t = nT
      · subst h
        rw [newF_t (by omega)]
        by_cases k5 : k = 5
        · subst k5
          rw [if_pos rfl, if_neg (by decide), if_pos rfl]
        · rw [if_neg (by omega), if_neg (by omega)]
          by_cases k1 : k = 1
          · subst k1
            rw [if_pos rfl, if_pos rfl]
          · rw [if_neg (by omega), if_pos (by omega), if_neg k1, if_neg k5, if_neg (by omega)]
      · rw [newF_T h (by omega), if_neg (by omega), if_neg (by omega), if_neg (by omega), if_neg (by omega), ← hR]
        exact q_t ht hk
  have P8 : Pk M8 855 (newF f nT (1 + u) (nI w) T1) (nT + 1) := by
    intro t ht
    by_cases h : t = nT
    · subst h
      refine ⟨1 + u, ?_, by omega, fun s hs => ⟨skY y s, wkY y s, if paY y s < 4 then paY y s + 1 else 0, ⟨sk_lt s, (wk_lt s).1, (wk_lt s).2, ?_⟩, ?_, ?_, ?_, ?_⟩⟩
      · rw [newF_t (by decide), if_pos rfl]
      · split
        · omega
        · exact Nat.zero_le _
      · rw [d8, if_neg (by omega), if_pos (by omega), Nat.add_sub_cancel_left]
        rfl
      · obtain ⟨o1, o2, o3⟩ := oc s hs
        rw [newF_t (by omega), if_neg (by omega), if_neg (by omega), if_pos (by omega), show 6 + 3 * s + 0 - 6 = 3 * s by omega, o1]
      · obtain ⟨o1, o2, o3⟩ := oc s hs
        rw [newF_t (by omega), if_neg (by omega), if_neg (by omega), if_pos (by omega), show 6 + 3 * s + 1 - 6 = 3 * s + 1 by omega, o2]
      · obtain ⟨o1, o2, o3⟩ := oc s hs
        rw [newF_t (by omega), if_neg (by omega), if_neg (by omega), if_pos (by omega), show 6 + 3 * s + 2 - 6 = 3 * s + 2 by omega, o3]
        by_cases hp : paY y s < 4
        · simp only [if_pos hp]
          rw [if_neg (by omega), Nat.add_sub_cancel]
        · simp only [if_neg hp, if_true]
    · obtain ⟨n', a1, a2, a3⟩ := hP t (by omega)
      refine ⟨n', by rw [newF_T h (by decide)]; exact a1, a2, fun s hs => ?_⟩
      obtain ⟨sk, wk, pt, b1, b2, b3, b4, b5⟩ := a3 s hs
      refine ⟨sk, wk, pt, b1, ?_, ?_, ?_, ?_⟩
      · rw [d8, if_neg (by omega), if_neg (by omega), if_neg (by omega), if_neg (by omega), ← hR]
        exact b2
      · rw [newF_T h (by omega)]
        exact b3
      · rw [newF_T h (by omega)]
        exact b4
      · rw [newF_T h (by omega)]
        exact b5
  have hD8 := K8.2.1
  have k66 := CK.k6 C6
  have k67 := CK.k6 C7
  simp only [IsL, Nat.reduceAdd] at hD8
  refine ⟨D8, M8, _, nF, nT + 1, 0, _, .int (nI (9 * nT)), .int (nI (1 + u)), .int (nI (1 + u)), w18, w19, w20, ⟨mkST' C8 K8 LB8 P8 h5 (by omega), hF⟩, fun Q => ?_⟩
  simp (disch := omega) only [sL_law_301, sL_law_303, sL_law_304, sL_law_305, sL_law_306, sL_law_307, sL_law_308, sL_law_309, sL_law_310, sL_law_311, sL_law_312, sL_law_314, sL_law_315, sL_law_317, sL_law_318, sL_law_321, sL_law_322, sL_law_324, sL_law_325, sL_law_328, sL_law_329, sL_law_330, hD', k6, l_q, g3, y0, y2, true_and, and_true, true_or, or_true, eq_self, ↓reduceIte, if_true, if_false, nI_add, nI_mul, inB_nI, nI_clamp, Nat.add_zero, eqI, ltI, leI, m6_ne, ne_m6, Nat.reduceEqDiff, reduceCtorEq, Nat.reduceLT, Nat.reduceLeDiff, Nat.reduceAdd, Nat.reduceMul, Nat.zero_add, Nat.mul_zero, nar_0, nar_1, nar_b, bI_t, bI_f, bI_0, bI_1, Bool.true_eq_false, Bool.false_eq_true, Bool.and_self, Bool.and_false, Bool.false_and, Bool.true_and, Bool.and_true, and_self]
  rw [y3]
  simp (disch := omega) only [sL_law_354, sL_law_356, sL_law_358, sL_law_359, sL_law_360, sL_law_362, sL_law_363, sL_law_364, hD3, true_and, and_true, true_or, or_true, eq_self, ↓reduceIte, if_true, if_false, nI_add, nI_mul, inB_nI, nI_clamp, Nat.add_zero, eqI, ltI, leI, m6_ne, ne_m6, Nat.reduceEqDiff, reduceCtorEq, Nat.reduceLT, Nat.reduceLeDiff, Nat.reduceAdd, Nat.reduceMul, Nat.zero_add, Nat.mul_zero, nar_0, nar_1, nar_b, bI_t, bI_f, bI_0, bI_1, Bool.true_eq_false, Bool.false_eq_true, Bool.and_self, Bool.and_false, Bool.false_and, Bool.true_and, Bool.and_true, and_self]
  rw [y5, y6]
  simp (disch := omega) only [sL_law_613, sL_law_614, sL_law_617, sL_law_619, sL_law_622, sL_law_623, sL_law_626, sL_law_627, sL_law_628, sL_law_629, sL_law_632, sL_law_633, sL_law_634, k66, k67, y7, y8, hD8, q3, true_and, and_true, true_or, or_true, eq_self, ↓reduceIte, if_true, if_false, nI_add, nI_mul, inB_nI, nI_clamp, Nat.add_zero, eqI, ltI, leI, m6_ne, ne_m6, Nat.reduceEqDiff, reduceCtorEq, Nat.reduceLT, Nat.reduceLeDiff, Nat.reduceAdd, Nat.reduceMul, Nat.zero_add, Nat.mul_zero, nar_0, nar_1, nar_b, bI_t, bI_f, bI_0, bI_1, Bool.true_eq_false, Bool.false_eq_true, Bool.and_self, Bool.and_false, Bool.false_and, Bool.true_and, Bool.and_true, and_self]
end BRH
