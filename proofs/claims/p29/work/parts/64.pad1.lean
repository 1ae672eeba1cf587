/-! a thing of the pad: its 18 cells at q as a row -/
def ixT (q a k : Nat) : Nat := if a = q then (if k = 3 then 1 else if k = 4 then 2 else if k = 5 then 0 else if k = 6 then 3 else if k = 7 then 4 else if k = 8 then 5 else 99) else if q + 1 ≤ a ∧ a < q + 4 then (if k < 4 then 6 + 3 * k + (a - (q + 1)) else 99) else 99
def tB (m : vMM) (q : Nat) (S : Nat → Int32) : vMM := fun a k => if ixT q a k < 18 then S (ixT q a k) else m a k
theorem ixT_q {q k : Nat} : ixT q q k = (if k = 3 then 1 else if k = 4 then 2 else if k = 5 then 0 else if k = 6 then 3 else if k = 7 then 4 else if k = 8 then 5 else 99) := if_pos rfl
theorem ixT_a {q k w : Nat} (hw : w < 3) (hk : k < 4) : ixT q (q + 1 + w) k = 6 + 3 * k + w := by
  unfold ixT
  rw [if_neg (by omega), if_pos (by omega), if_pos hk]
  omega
theorem ixT_row {q a k : Nat} (h : ixT q a k < 18) : (a = q ∧ ixT q a k < 6 ∧ 3 ≤ k ∧ k ≤ 8) ∨ (∃ w, w < 3 ∧ a = q + 1 + w ∧ k < 4 ∧ ixT q a k = 6 + 3 * k + w) := by
  unfold ixT at h ⊢
  by_cases h1 : a = q
  · rw [if_pos h1] at h ⊢
    left
    refine ⟨h1, ?_, ?_⟩
    · repeat' split at h
      all_goals (repeat' split)
      all_goals omega
    · repeat' split at h
      all_goals omega
  · rw [if_neg h1] at h ⊢
    by_cases h2 : q + 1 ≤ a ∧ a < q + 4
    · rw [if_pos h2] at h ⊢
      right
      by_cases h3 : k < 4
      · rw [if_pos h3]
        exact ⟨a - (q + 1), by omega, by omega, h3, rfl⟩
      · rw [if_neg h3] at h
        omega
    · rw [if_neg h2] at h
      omega
theorem ixT_inj {q a k a' k' : Nat} (h : ixT q a k < 18) (e : ixT q a k = ixT q a' k') : a = a' ∧ k = k' := by
  have h' : ixT q a' k' < 18 := by omega
  rcases ixT_row h with ⟨rfl, p1, p2⟩ | ⟨w, p1, rfl, p3, p4⟩
  · rcases ixT_row h' with ⟨rfl, q1, q2⟩ | ⟨w', q1, q2, q3, q4⟩
    · refine ⟨rfl, ?_⟩
      rw [ixT_q, ixT_q] at e
      clear h h' p1 q1
      repeat' split at e
      all_goals omega
    · omega
  · rcases ixT_row h' with ⟨rfl, q1, q2⟩ | ⟨w', q1, rfl, q3, q4⟩
    · omega
    · omega
theorem tB_rd {m : vMM} {q a k j : Nat} {S : Nat → Int32} (e : ixT q a k = j) (h : j < 18) : tB m q S a k = S j := by
  unfold tB
  rw [e, if_pos h]
theorem tB_wr {m : vMM} {q a k j : Nat} {S : Nat → Int32} {x : Int32} (e : ixT q a k = j) (h : j < 18) : up2 (tB m q S) a k x = tB m q (upd S j x) := by
  funext a'
  by_cases ha : a' = a
  · subst ha
    rw [up2_eq]
    funext k'
    by_cases hk : k' = k
    · subst hk
      rw [upd_eq, tB_rd e h, upd_eq]
    · rw [upd_ne _ _ hk]
      unfold tB
      by_cases h2 : ixT q a' k' < 18
      · rw [if_pos h2, if_pos h2, upd_ne]
        intro e2
        exact hk (ixT_inj h2 (e2.trans e.symm)).2
      · rw [if_neg h2, if_neg h2]
  · rw [up2_ne ha]
    funext k'
    unfold tB
    by_cases h2 : ixT q a' k' < 18
    · rw [if_pos h2, if_pos h2, upd_ne]
      intro e2
      exact ha (ixT_inj h2 (e2.trans e.symm)).1
    · rw [if_neg h2, if_neg h2]
theorem tB_o {m : vMM} {q a : Nat} {S : Nat → Int32} (h : a < q ∨ q + 4 ≤ a) : tB m q S a = m a := by
  funext k
  unfold tB
  rw [if_neg]
  intro h2
  rcases ixT_row h2 with ⟨rfl, -⟩ | ⟨w, p1, rfl, -⟩ <;> omega
def rdS (m : vMM) (q : Nat) : Nat → Int32 := fun j => if j = 0 then m q 5 else if j = 1 then m q 3 else if j = 2 then m q 4 else if j = 3 then m q 6 else if j = 4 then m q 7 else if j = 5 then m q 8 else m (q + 1 + j % 3) ((j - 6) / 3)
theorem tB_self {m : vMM} {q : Nat} : tB m q (rdS m q) = m := by
  funext a k
  unfold tB
  by_cases h : ixT q a k < 18
  · rw [if_pos h]
    rcases ixT_row h with ⟨rfl, p1, p2⟩ | ⟨w, p1, rfl, p3, p4⟩
    · rw [ixT_q]
      rcases (by omega : k = 3 ∨ k = 4 ∨ k = 5 ∨ k = 6 ∨ k = 7 ∨ k = 8) with rfl | rfl | rfl | rfl | rfl | rfl <;> rfl
    · rw [p4]
      unfold rdS
      rw [if_neg (by omega), if_neg (by omega), if_neg (by omega), if_neg (by omega), if_neg (by omega), if_neg (by omega), (by omega : (6 + 3 * k + w) % 3 = w), (by omega : (6 + 3 * k + w - 6) / 3 = k)]
  · rw [if_neg h]
section TB
variable {D : vDD} {m : vMM} {S : Nat → Int32} {z : vZZ} {Q : Value → vDD → vMM → vZZ → Prop} {q s : Nat} {x : Int32}
theorem t_0 : tB m q S q 5 = S 0 := tB_rd (by rw [ixT_q]; rfl) (by decide)
theorem t_1 : tB m q S q 3 = S 1 := tB_rd (by rw [ixT_q]; rfl) (by decide)
theorem t_2 : tB m q S q 4 = S 2 := tB_rd (by rw [ixT_q]; rfl) (by decide)
theorem t_3 : tB m q S q 6 = S 3 := tB_rd (by rw [ixT_q]; rfl) (by decide)
theorem t_4 : tB m q S q 7 = S 4 := tB_rd (by rw [ixT_q]; rfl) (by decide)
theorem t_5 : tB m q S q 8 = S 5 := tB_rd (by rw [ixT_q]; rfl) (by decide)
theorem t_s0 (h : s < 4) : tB m q S (q + 1) s = S (6 + 3 * s + 0) := tB_rd (ixT_a (w := 0) (by decide) h) (by omega)
theorem t_s1 (h : s < 4) : tB m q S (q + 2) s = S (6 + 3 * s + 1) := tB_rd (ixT_a (w := 1) (by decide) h) (by omega)
theorem t_s2 (h : s < 4) : tB m q S (q + 3) s = S (6 + 3 * s + 2) := tB_rd (ixT_a (w := 2) (by decide) h) (by omega)
theorem tw_0 : up2 (tB m q S) q 5 x = tB m q (upd S 0 x) := tB_wr (by rw [ixT_q]; rfl) (by decide)
theorem tw_1 : up2 (tB m q S) q 3 x = tB m q (upd S 1 x) := tB_wr (by rw [ixT_q]; rfl) (by decide)
theorem tw_2 : up2 (tB m q S) q 4 x = tB m q (upd S 2 x) := tB_wr (by rw [ixT_q]; rfl) (by decide)
theorem tw_3 : up2 (tB m q S) q 6 x = tB m q (upd S 3 x) := tB_wr (by rw [ixT_q]; rfl) (by decide)
theorem tw_4 : up2 (tB m q S) q 7 x = tB m q (upd S 4 x) := tB_wr (by rw [ixT_q]; rfl) (by decide)
theorem tw_5 : up2 (tB m q S) q 8 x = tB m q (upd S 5 x) := tB_wr (by rw [ixT_q]; rfl) (by decide)
theorem tw_s0 (h : s < 4) : up2 (tB m q S) (q + 1) s x = tB m q (upd S (6 + 3 * s + 0) x) := tB_wr (ixT_a (w := 0) (by decide) h) (by omega)
theorem tw_s1 (h : s < 4) : up2 (tB m q S) (q + 2) s x = tB m q (upd S (6 + 3 * s + 1) x) := tB_wr (ixT_a (w := 1) (by decide) h) (by omega)
theorem tw_s2 (h : s < 4) : up2 (tB m q S) (q + 3) s x = tB m q (upd S (6 + 3 * s + 2) x) := tB_wr (ixT_a (w := 2) (by decide) h) (by omega)
theorem RdT.tB : RdT (tB m q S) q S := ⟨⟨t_0, t_1, t_2, t_3, t_4, t_5⟩, fun _ h => t_s0 h, fun _ h => t_s1 h, fun _ h => t_s2 h⟩
theorem RdT.cong {m' : vMM} (h : RdT m q S) (e : ∀ a, q ≤ a → a < q + 4 → m' a = m a) : RdT m' q S := by
  obtain ⟨h1, h2, h3, h4⟩ := h
  refine ⟨?_, fun s hs => ?_, fun s hs => ?_, fun s hs => ?_⟩
  · rw [e q (by omega) (by omega)]; exact h1
  · rw [e (q + 1) (by omega) (by omega)]; exact h2 s hs
  · rw [e (q + 2) (by omega) (by omega)]; exact h3 s hs
  · rw [e (q + 3) (by omega) (by omega)]; exact h4 s hs
/-- a thing that is being read: k steps of T stand in it -/
def ThS (S : Nat → Int32) (k : Nat) (w : Int32) (T : Nat → Int32) : Prop := (S 0 = nI 0 ∧ S 1 = nI k ∧ S 2 = nI 0 ∧ S 3 = nI 0 ∧ S 4 = nI 0 ∧ S 5 = w) ∧ ∀ j, j < 3 * k → S (6 + j) = T j
def adS (S : Nat → Int32) (k : Nat) (x : Int32) : Nat → Int32 := upd (upd (upd (upd S (6 + 3 * k + 0) x) (6 + 3 * k + 1) (nI 1)) (6 + 3 * k + 2) m6) 1 (nI (k + 1))
theorem x_startT (hT : IsT D q) : Runs MX5_start 0 [.ref q] [] D (tB m q S) z Q = Q vJ D (tB m q (upd (upd (upd (upd (upd (upd S 1 (nI 0)) 2 (nI 0)) 4 (nI 0)) 5 (nI 0)) 0 (nI 0)) 3 (nI 0))) z := by
  simp only [IsT] at hT
  have bw : ∀ S Q, Runs MX5_becomeWaiting 0 [.ref q] [] D (tB m q S) z Q = Q vJ D (tB m q (upd (upd S 0 (nI 0)) 3 (nI 0))) z := by
    intro S Q
    simp (disch := omega) only [sX5_becomeWaiting_0, sX5_becomeWaiting_1, sX5_becomeWaiting_2, sX5_becomeWaiting_5, sX5_becomeWaiting_6, sX5_becomeWaiting_7, sX5_becomeWaiting_10, hT, true_and, and_true, true_or, or_true, eq_self, ↓reduceIte, if_true, if_false, nI_add, nI_mul, inB_nI, nI_clamp, Nat.add_zero, eqI, ltI, leI, m6_ne, ne_m6, Nat.reduceEqDiff, reduceCtorEq, Nat.reduceLT, Nat.reduceLeDiff, Nat.reduceAdd, Nat.reduceMul, Nat.zero_add, Nat.mul_zero, nar_0, nar_1, nar_b, bI_t, bI_f, bI_0, bI_1, Bool.true_eq_false, Bool.false_eq_true, Bool.and_self, Bool.and_false, Bool.false_and, Bool.true_and, Bool.and_true, and_self, tw_0, tw_3]
  simp (disch := omega) only [sX5_start_0, sX5_start_1, sX5_start_2, sX5_start_5, sX5_start_6, sX5_start_7, sX5_start_10, sX5_start_11, sX5_start_12, sX5_start_15, sX5_start_16, sX5_start_17, sX5_start_20, sX5_start_21, sX5_start_24, hT, true_and, and_true, true_or, or_true, eq_self, ↓reduceIte, if_true, if_false, nI_add, nI_mul, inB_nI, nI_clamp, Nat.add_zero, eqI, ltI, leI, m6_ne, ne_m6, Nat.reduceEqDiff, reduceCtorEq, Nat.reduceLT, Nat.reduceLeDiff, Nat.reduceAdd, Nat.reduceMul, Nat.zero_add, Nat.mul_zero, nar_0, nar_1, nar_b, bI_t, bI_f, bI_0, bI_1, Bool.true_eq_false, Bool.false_eq_true, Bool.and_self, Bool.and_false, Bool.false_and, Bool.true_and, Bool.and_true, and_self, tw_1, tw_2, tw_4, tw_5, bw]
theorem x_addStep (hT : IsT D q) {k : Nat} (h1 : S 1 = nI k) (hk : k < 4) : Runs MX5_addStep 0 [.ref q, .int x] [] D (tB m q S) z Q = Q vJ D (tB m q (adS S k x)) z := by
  simp only [IsT] at hT
  have hlt : ¬ 4 ≤ k := by omega
  have e0 : upd S (6 + 3 * k + 0) x 1 = nI k := by rw [upd_ne _ _ (by omega)]; exact h1
  have e1 : upd (upd S (6 + 3 * k + 0) x) (6 + 3 * k + 1) (nI 1) 1 = nI k := by rw [upd_ne _ _ (by omega)]; exact e0
  have e2 : upd (upd (upd S (6 + 3 * k + 0) x) (6 + 3 * k + 1) (nI 1)) (6 + 3 * k + 2) m6 1 = nI k := by rw [upd_ne _ _ (by omega)]; exact e1
  simp only [Nat.add_zero] at e0 e1 e2
  simp (disch := omega) only [sX5_addStep_0, sX5_addStep_1, sX5_addStep_4, sX5_addStep_5, sX5_addStep_8, sX5_addStep_9, sX5_addStep_12, sX5_addStep_13, sX5_addStep_16, sX5_addStep_17, sX5_addStep_18, sX5_addStep_19, sX5_addStep_22, sX5_addStep_23, sX5_addStep_26, sX5_addStep_27, sX5_addStep_28, sX5_addStep_29, sX5_addStep_32, sX5_addStep_33, sX5_addStep_36, sX5_addStep_38, sX5_addStep_39, sX5_addStep_40, sX5_addStep_41, sX5_addStep_44, sX5_addStep_45, sX5_addStep_46, sX5_addStep_49, hT, true_and, and_true, true_or, or_true, eq_self, ↓reduceIte, if_true, if_false, nI_add, nI_mul, inB_nI, nI_clamp, Nat.add_zero, eqI, ltI, leI, m6_ne, ne_m6, Nat.reduceEqDiff, reduceCtorEq, Nat.reduceLT, Nat.reduceLeDiff, Nat.reduceAdd, Nat.reduceMul, Nat.zero_add, Nat.mul_zero, nar_0, nar_1, nar_b, bI_t, bI_f, bI_0, bI_1, Bool.true_eq_false, Bool.false_eq_true, Bool.and_self, Bool.and_false, Bool.false_and, Bool.true_and, Bool.and_true, and_self, t_1, h1, hlt, hk, tw_s0, tw_s1, tw_s2, e0, e1, e2, tw_1, adS]
theorem x_setWork (hT : IsT D q) {k : Nat} (h1 : S 1 = nI (k + 1)) (hk : k < 4) : Runs MX5_setLastWork 0 [.ref q, .int x] [] D (tB m q S) z Q = Q vJ D (tB m q (upd S (6 + 3 * k + 1) x)) z := by
  have hs : ∀ Q, Runs MX5_hasStep 0 [.ref q, .int (nI k)] [] D (tB m q S) z Q = Q (.int (bI true)) D (tB m q S) z := fun Q => by
    have := x_hasStep (D := D) (m := tB m q S) (z := z) (Q := Q) (a := q) (s := k + 1) (x := nI k) hT.1.1 (t_1.trans h1) (by omega)
    rw [inR_lt (by omega) (by omega), decide_eq_true (by omega)] at this
    exact this
  simp only [IsT] at hT
  have e : nI (k + 1) - nI 1 = nI k := by rw [nI_sub _ _ (by omega)]; rfl
  simp (disch := omega) only [sX5_setLastWork_0, sX5_setLastWork_1, sX5_setLastWork_2, sX5_setLastWork_5, sX5_setLastWork_6, sX5_setLastWork_7, sX5_setLastWork_10, sX5_setLastWork_13, sX5_setLastWork_14, sX5_setLastWork_17, sX5_setLastWork_18, sX5_setLastWork_21, sX5_setLastWork_22, sX5_setLastWork_23, sX5_setLastWork_24, sX5_setLastWork_25, hT, true_and, and_true, true_or, or_true, eq_self, ↓reduceIte, if_true, if_false, nI_add, nI_mul, inB_nI, nI_clamp, Nat.add_zero, eqI, ltI, leI, m6_ne, ne_m6, Nat.reduceEqDiff, reduceCtorEq, Nat.reduceLT, Nat.reduceLeDiff, Nat.reduceAdd, Nat.reduceMul, Nat.zero_add, Nat.mul_zero, nar_0, nar_1, nar_b, bI_t, bI_f, bI_0, bI_1, Bool.true_eq_false, Bool.false_eq_true, Bool.and_self, Bool.and_false, Bool.false_and, Bool.true_and, Bool.and_true, and_self, t_1, h1, e, hs, tw_s1, Nat.one_ne_zero]
theorem x_setPart (hT : IsT D q) {k : Nat} (h1 : S 1 = nI (k + 1)) (hk : k < 4) : Runs MX5_setLastPart 0 [.ref q, .int x] [] D (tB m q S) z Q = Q vJ D (tB m q (upd S (6 + 3 * k + 2) x)) z := by
  have hs : ∀ Q, Runs MX5_hasStep 0 [.ref q, .int (nI k)] [] D (tB m q S) z Q = Q (.int (bI true)) D (tB m q S) z := fun Q => by
    have := x_hasStep (D := D) (m := tB m q S) (z := z) (Q := Q) (a := q) (s := k + 1) (x := nI k) hT.1.1 (t_1.trans h1) (by omega)
    rw [inR_lt (by omega) (by omega), decide_eq_true (by omega)] at this
    exact this
  simp only [IsT] at hT
  have e : nI (k + 1) - nI 1 = nI k := by rw [nI_sub _ _ (by omega)]; rfl
  simp (disch := omega) only [sX5_setLastPart_0, sX5_setLastPart_1, sX5_setLastPart_2, sX5_setLastPart_5, sX5_setLastPart_6, sX5_setLastPart_7, sX5_setLastPart_10, sX5_setLastPart_13, sX5_setLastPart_14, sX5_setLastPart_17, sX5_setLastPart_18, sX5_setLastPart_21, sX5_setLastPart_22, sX5_setLastPart_23, sX5_setLastPart_24, sX5_setLastPart_25, hT, true_and, and_true, true_or, or_true, eq_self, ↓reduceIte, if_true, if_false, nI_add, nI_mul, inB_nI, nI_clamp, Nat.add_zero, eqI, ltI, leI, m6_ne, ne_m6, Nat.reduceEqDiff, reduceCtorEq, Nat.reduceLT, Nat.reduceLeDiff, Nat.reduceAdd, Nat.reduceMul, Nat.zero_add, Nat.mul_zero, nar_0, nar_1, nar_b, bI_t, bI_f, bI_0, bI_1, Bool.true_eq_false, Bool.false_eq_true, Bool.and_self, Bool.and_false, Bool.false_and, Bool.true_and, Bool.and_true, and_self, t_1, h1, e, hs, tw_s2, Nat.one_ne_zero]
end TB
