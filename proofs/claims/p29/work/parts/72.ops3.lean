/-! plans, side by side -/
section OP3
variable {D : vDD} {m : vMM} {z : vZZ}
theorem CHm.lo {m m' : vMM} (h : CHm m m') {a : Nat} (ha : a < 853) : m' a = m a := h a (by omega)
theorem CHp.hi {m m' : vMM} (h : CHp m m') {a : Nat} (ha : 853 ≤ a) : m' a = m a := h a (by omega)
theorem CHp.up {m : vMM} {k j : Nat} {x : Int32} (h : 849 ≤ k ∧ k ≤ 852) : CHp m (up2 m k j x) := fun a ha => up2_ne (by omega)
theorem selBit {s q : Nat} (hs : s < 6) (hq : q < 6) : (((nI 1 <<< (nI s &&& 31)) >>> (nI q &&& 31)) &&& nI 1 == nI 1) = (q == s) := by
  have : ∀ s : Fin 6, ∀ q : Fin 6, (((nI 1 <<< (nI s.1 &&& 31)) >>> (nI q.1 &&& 31)) &&& nI 1 == nI 1) = (q.1 == s.1) := by decide +kernel
  exact this ⟨s, hs⟩ ⟨q, hq⟩
theorem forF_more {f : Nat → Int32} {nF nT s t : Nat} (hF : WF f nF nT) (ht : t < nT) (hs : s < 6) : forF f (nI 1 <<< (nI s &&& 31)) t = (wwpF f t && (nsF f t 0 == nI s)) := by
  obtain ⟨q, hq, e⟩ := (hF.2.2.1 t ht).sk
  unfold forF
  rw [e, selBit hs hq]
  congr 1
  by_cases h : q = s
  · subst h; rw [beq_self_eq_true, beq_self_eq_true]
  · rw [beq_eq_false_iff_ne.mpr h, beq_eq_false_iff_ne.mpr (nI_ne (by omega) (by omega) h)]
/-- one skill tried -/
theorem x_trySkill {f c : Nat → Int32} {nF nT s : Nat} (hPl : IsPl D) (hB : IsM D 2) (hm : Blk m 2 c) (hR : Rfc f c nF nT) (hF : WF f nF nT) (hs : s < 6) : ∃ M1 M2 row, CHp m M1 ∧ CHp m M2 ∧ (∀ Q, Runs MX4_lookAt 0 [.ref 849, .ref 2, vJ, vJ] [] D m z Q = Q vJ D M1 z) ∧ (∀ Q, Runs MX2_thingsFor 0 [.ref 2, .int (nI 1 <<< (nI s &&& 31)), vJ, vJ] [] D M1 z Q = Q (.int (tfF f (nI 1 <<< (nI s &&& 31)) nT)) D M1 z) ∧
    (∀ Q, Runs MX4_addFixer 0 [.ref 849, .int (tfF f (nI 1 <<< (nI s &&& 31)) nT)] [] D M1 z Q = Q vJ D M2 z) ∧ ∀ Q, Runs MX4_mostServed 0 [.ref 849, .int (nI 0), .int (nI 65535), vJ, vJ, vJ, vJ, vJ, vJ, vJ] [] D M2 z Q = Q (.int (nI (bsV f nF nT s))) D (setR M2 852 row) z := by
  have h8 := hF.1.2.1
  have h16 := hF.1.2.2.2
  obtain ⟨M1, c1, h3, hC, la⟩ := x_lookAt (D := D) (z := z) hPl hB (by decide) hm hR hF
  have tf := fun Q => x_thingsFor (D := D) (m := M1) (z := z) (Q := Q) hB hR hF (sk := nI 1 <<< (nI s &&& 31))
  have hb1 : bM M1 2 c = M1 := c1.blk hm (by decide)
  rw [hb1] at tf
  have af := fun Q => x_addFixerP (D := D) (m := M1) (z := z) (Q := Q) hPl (x := tfF f (nI 1 <<< (nI s &&& 31)) nT) h3 h8
  have h32 : up2 (up2 M1 850 nF (tfF f (nI 1 <<< (nI s &&& 31)) nT)) 849 3 (nI (nF + 1)) 849 3 = nI (nF + 1) := by rw [up2_eq, upd_eq]
  have hC2 : ∀ j, j < nF + 1 → SB (up2 (up2 M1 850 nF (tfF f (nI 1 <<< (nI s &&& 31)) nT)) 849 3 (nI (nF + 1)) 850 j) (fun t => if j = nF then moreF f nT s t else ableF f nT j t) := by
    intro j hj
    rw [up2_ne (by decide), up2_eq]
    by_cases e : j = nF
    · subst e
      rw [upd_eq]
      refine (tfF_SB nT h16).ext (fun t _ => ?_)
      rw [if_pos rfl]
      unfold moreF
      by_cases ht : t < nT
      · rw [forF_more hF ht hs]
      · rw [decide_eq_false ht, Bool.false_and, Bool.false_and]
    · rw [upd_ne _ _ e]
      refine (hC j (by omega)).ext (fun t _ => ?_)
      rw [if_neg e]
      unfold ablN
      rw [decide_eq_true (by omega : j < nF), Bool.true_and]
  obtain ⟨row, ms⟩ := x_served (D := D) (m := up2 (up2 M1 850 nF (tfF f (nI 1 <<< (nI s &&& 31)) nT)) 849 3 (nI (nF + 1))) (z := z) (S := fun _ => true) (th := nI 65535) (a := 0) (A := fun g t => if g = nF then moreF f nT s t else ableF f nT g t) hPl h32 hC2 (fun t ht => sel65535 ht) (by omega) (by omega)
  have ev : behF (fun g t => if g = nF then moreF f nT s t else ableF f nT g t) (nF + 1) 0 (fun _ => true) = bsV f nF nT s := by
    unfold behF bsV svF
    rw [Nat.sub_zero]
    exact mn_ext (nF + 1) _ _ (fun k t _ _ => by rw [Nat.zero_add, Bool.and_true]) (fun _ _ => rfl)
  rw [ev] at ms
  exact ⟨M1, _, row, c1, (c1.trans (CHp.up (by decide))).trans (CHp.up (by decide)), la, tf, af, ms⟩
theorem bsV_le {f : Nat → Int32} {nF nT s : Nat} : bsV f nF nT s ≤ 16 := by
  unfold bsV svF
  generalize (fun g t => if g = nF then moreF f nT s t else ableF f nT g t) = R
  have := mn_le (rw := R) (w := 16) (G := fun _ => true) (nF + 1) (fun _ => false)
  have h1 := cntB_n (fun t => false || nbF R (fun _ => true) (nF + 1) t) 16
  have h2 : ∀ n, cntB (fun _ => !true) n = 0 := by
    intro n
    induction n with
    | zero => rfl
    | succ n ih => rw [cntB_s, ih]; rfl
  have h3 := h2 (nF + 1)
  omega
theorem bs_rng {f : Nat → Int32} {nF nT : Nat} : ∀ s, (bsF f nF nT s).2 = m1 ∨ ∃ v, v ≤ 16 ∧ (bsF f nF nT s).2 = nI v
  | 0 => Or.inl rfl
  | s + 1 => by
    rw [bsF_s]
    split
    · exact bs_rng s
    · exact Or.inr ⟨_, bsV_le, rfl⟩
theorem l_bestSkillX {f c : Nat → Int32} {nF nT N w : Nat} (hA : IsMM D) (hPl : IsPl D) (hB : IsM D 2) (hR : Rfc f c nF nT) (hF : WF f nF nT) (hN : N = 6) (hw : w < 2) : ∀ (k s : Nat) (m : vMM) (be : Int32) (v5 : Value), s + k = N → Blk m 2 c → (s = 0 ∨ be = (bsF f nF nT s).1) →
    ∃ m', CHp m m' ∧ ∀ Q, Runs MX6_bestSkill 19 [.ref 1, .int (nI w), .int be, .int (bsF f nF nT s).2, .int (nI s), v5] [] D m z Q = Q (.int (if w = 0 then (bsF f nF nT N).1 else (bsF f nF nT N).2)) D m' z := by
  simp only [IsMM] at hA
  intro k
  induction k with
  | zero =>
    intro s m be v5 hk hm hbe
    obtain rfl : s = N := by omega
    have hbe : be = (bsF f nF nT s).1 := hbe.resolve_left (by omega)
    refine ⟨m, CHp.refl, fun Q => ?_⟩
    have hge : 6 ≤ s := by omega
    rw [sX6_bestSkill_19, hbe]
    rcases (by omega : w = 0 ∨ w = 1) with rfl | rfl
    · rw [if_pos rfl]
      simp (disch := omega) only [sX6_bestSkill_21, sX6_bestSkill_23, sX6_bestSkill_26, sX6_bestSkill_27, sX6_bestSkill_30, sX6_bestSkill_31, sX6_bestSkill_34, sX6_bestSkill_37, sX6_bestSkill_38, sX6_bestSkill_41, sX6_bestSkill_42, sX6_bestSkill_45, sX6_bestSkill_46, sX6_bestSkill_48, sX6_bestSkill_49, sX6_bestSkill_52, sX6_bestSkill_55, sX6_bestSkill_56, sX6_bestSkill_59, sX6_bestSkill_60, sX6_bestSkill_62, sX6_bestSkill_65, sX6_bestSkill_67, sX6_bestSkill_69, sX6_bestSkill_70, sX6_bestSkill_73, sX6_bestSkill_75, sX6_bestSkill_76, sX6_bestSkill_78, sX6_bestSkill_79, sX6_bestSkill_82, sX6_bestSkill_85, sX6_bestSkill_86, sX6_bestSkill_89, sX6_bestSkill_90, sX6_bestSkill_93, sX6_bestSkill_94, true_and, and_true, true_or, or_true, eq_self, ↓reduceIte, if_true, if_false, nI_add, nI_mul, inB_nI, nI_clamp, Nat.add_zero, eqI, ltI, leI, m6_ne, ne_m6, Nat.reduceEqDiff, reduceCtorEq, Nat.reduceLT, Nat.reduceLeDiff, Nat.reduceAdd, Nat.reduceMul, Nat.zero_add, Nat.mul_zero, nar_0, nar_1, nar_b, bI_t, bI_f, bI_0, bI_1, Bool.true_eq_false, Bool.false_eq_true, Bool.and_self, Bool.and_false, Bool.false_and, Bool.true_and, Bool.and_true, and_self, hge]
    · rw [if_neg (by decide)]
      simp (disch := omega) only [sX6_bestSkill_21, sX6_bestSkill_23, sX6_bestSkill_26, sX6_bestSkill_27, sX6_bestSkill_30, sX6_bestSkill_31, sX6_bestSkill_34, sX6_bestSkill_37, sX6_bestSkill_38, sX6_bestSkill_41, sX6_bestSkill_42, sX6_bestSkill_45, sX6_bestSkill_46, sX6_bestSkill_48, sX6_bestSkill_49, sX6_bestSkill_52, sX6_bestSkill_55, sX6_bestSkill_56, sX6_bestSkill_59, sX6_bestSkill_60, sX6_bestSkill_62, sX6_bestSkill_65, sX6_bestSkill_67, sX6_bestSkill_69, sX6_bestSkill_70, sX6_bestSkill_73, sX6_bestSkill_75, sX6_bestSkill_76, sX6_bestSkill_78, sX6_bestSkill_79, sX6_bestSkill_82, sX6_bestSkill_85, sX6_bestSkill_86, sX6_bestSkill_89, sX6_bestSkill_90, sX6_bestSkill_93, sX6_bestSkill_94, true_and, and_true, true_or, or_true, eq_self, ↓reduceIte, if_true, if_false, nI_add, nI_mul, inB_nI, nI_clamp, Nat.add_zero, eqI, ltI, leI, m6_ne, ne_m6, Nat.reduceEqDiff, reduceCtorEq, Nat.reduceLT, Nat.reduceLeDiff, Nat.reduceAdd, Nat.reduceMul, Nat.zero_add, Nat.mul_zero, nar_0, nar_1, nar_b, bI_t, bI_f, bI_0, bI_1, Bool.true_eq_false, Bool.false_eq_true, Bool.and_self, Bool.and_false, Bool.false_and, Bool.true_and, Bool.and_true, and_self, hge, Nat.one_ne_zero]
  | succ k ih =>
    intro s m be v5 hk hm hbe
    have hlt : ¬ 6 ≤ s := by omega
    obtain ⟨M1, M2, row, c1, c2, la, tf, af, ms⟩ := x_trySkill (D := D) (m := m) (z := z) hPl hB hm hR hF (s := s) (by omega)
    have c3 : CHp m (setR M2 852 row) := c2.trans (CHp.row (k := 852) (by decide))
    have hm3 : Blk (setR M2 852 row) 2 c := c3.blk hm (by decide)
    have e := bsF_s (f := f) (nF := nF) (nT := nT) (s := s)
    by_cases hl : nI (bsV f nF nT s) ≤ (bsF f nF nT s).2
    · rw [if_pos hl] at e
      have hs0 : s ≠ 0 := by
        intro q
        subst q
        exact absurd hl (by
          show ¬ nI (bsV f nF nT 0) ≤ m1
          intro q2
          have : nI 0 ≤ nI (bsV f nF nT 0) := by
            rw [leI _ _ (by decide) (by have := bsV_le (f := f) (nF := nF) (nT := nT) (s := 0); omega)]
            exact Nat.zero_le _
          exact absurd (Int32.le_trans this q2) (by decide +kernel))
      obtain ⟨m', r1, y⟩ := ih (s + 1) (setR M2 852 row) be (.int (nI (bsV f nF nT s))) (by omega) hm3 (Or.inr (by rw [e]; exact hbe.resolve_left hs0))
      refine ⟨m', c3.trans r1, fun Q => ?_⟩
      rw [e] at y
      rw [sX6_bestSkill_19]
      simp (disch := omega) only [sX6_bestSkill_21, sX6_bestSkill_23, sX6_bestSkill_26, sX6_bestSkill_27, sX6_bestSkill_30, sX6_bestSkill_31, sX6_bestSkill_34, sX6_bestSkill_37, sX6_bestSkill_38, sX6_bestSkill_41, sX6_bestSkill_42, sX6_bestSkill_45, sX6_bestSkill_46, sX6_bestSkill_48, sX6_bestSkill_49, sX6_bestSkill_52, sX6_bestSkill_55, sX6_bestSkill_56, sX6_bestSkill_59, sX6_bestSkill_60, sX6_bestSkill_62, sX6_bestSkill_65, sX6_bestSkill_67, sX6_bestSkill_69, sX6_bestSkill_70, sX6_bestSkill_73, sX6_bestSkill_75, sX6_bestSkill_76, sX6_bestSkill_78, sX6_bestSkill_79, sX6_bestSkill_82, sX6_bestSkill_85, sX6_bestSkill_86, sX6_bestSkill_89, sX6_bestSkill_90, sX6_bestSkill_93, sX6_bestSkill_94, hA, hPl.1.1, hB.1.1, true_and, and_true, true_or, or_true, eq_self, ↓reduceIte, if_true, if_false, nI_add, nI_mul, inB_nI, nI_clamp, Nat.add_zero, eqI, ltI, leI, m6_ne, ne_m6, Nat.reduceEqDiff, reduceCtorEq, Nat.reduceLT, Nat.reduceLeDiff, Nat.reduceAdd, Nat.reduceMul, Nat.zero_add, Nat.mul_zero, nar_0, nar_1, nar_b, bI_t, bI_f, bI_0, bI_1, Bool.true_eq_false, Bool.false_eq_true, Bool.and_self, Bool.and_false, Bool.false_and, Bool.true_and, Bool.and_true, and_self, hlt, la, tf, af, ms, hl, y]
    · rw [if_neg hl] at e
      obtain ⟨m', r1, y⟩ := ih (s + 1) (setR M2 852 row) (nI s) (.int (nI (bsV f nF nT s))) (by omega) hm3 (Or.inr (by rw [e]))
      refine ⟨m', c3.trans r1, fun Q => ?_⟩
      rw [e] at y
      rw [sX6_bestSkill_19]
      simp (disch := omega) only [sX6_bestSkill_21, sX6_bestSkill_23, sX6_bestSkill_26, sX6_bestSkill_27, sX6_bestSkill_30, sX6_bestSkill_31, sX6_bestSkill_34, sX6_bestSkill_37, sX6_bestSkill_38, sX6_bestSkill_41, sX6_bestSkill_42, sX6_bestSkill_45, sX6_bestSkill_46, sX6_bestSkill_48, sX6_bestSkill_49, sX6_bestSkill_52, sX6_bestSkill_55, sX6_bestSkill_56, sX6_bestSkill_59, sX6_bestSkill_60, sX6_bestSkill_62, sX6_bestSkill_65, sX6_bestSkill_67, sX6_bestSkill_69, sX6_bestSkill_70, sX6_bestSkill_73, sX6_bestSkill_75, sX6_bestSkill_76, sX6_bestSkill_78, sX6_bestSkill_79, sX6_bestSkill_82, sX6_bestSkill_85, sX6_bestSkill_86, sX6_bestSkill_89, sX6_bestSkill_90, sX6_bestSkill_93, sX6_bestSkill_94, hA, hPl.1.1, hB.1.1, true_and, and_true, true_or, or_true, eq_self, ↓reduceIte, if_true, if_false, nI_add, nI_mul, inB_nI, nI_clamp, Nat.add_zero, eqI, ltI, leI, m6_ne, ne_m6, Nat.reduceEqDiff, reduceCtorEq, Nat.reduceLT, Nat.reduceLeDiff, Nat.reduceAdd, Nat.reduceMul, Nat.zero_add, Nat.mul_zero, nar_0, nar_1, nar_b, bI_t, bI_f, bI_0, bI_1, Bool.true_eq_false, Bool.false_eq_true, Bool.and_self, Bool.and_false, Bool.false_and, Bool.true_and, Bool.and_true, and_self, hlt, la, tf, af, ms, hl, y]
end OP3
