/-! how many can be served: the least sum over all groups, by the groups' numbers -/
def IsPl (D : vDD) : Prop := ((D 849).1 = 4 ∧ (D 849).2.2 0 = some 850 ∧ (D 849).2.2 1 = some 851 ∧ (D 849).2.2 2 = some 852) ∧ ((D 850).1 = 8 ∧ (D 851).1 = 8 ∧ (D 852).1 = 8) ∧ ((D 850).2.1 = 9 ∧ (D 851).2.1 = 8 ∧ (D 852).2.1 = 512)
def rwS (A : Nat → Nat → Bool) (S : Nat → Bool) (a : Nat) : Nat → Nat → Bool := fun k t => A (a + k) t && S t
def anS (A : Nat → Nat → Bool) (S : Nat → Bool) (a N g : Nat) : Nat → Bool := fun t => nbF (rwS A S a) (fun k => g.testBit k) N t
def vgS (A : Nat → Nat → Bool) (S : Nat → Bool) (a N g : Nat) : Nat := cntB (anS A S a N g) 16 + cntB (fun k => !g.testBit k) N
section SRV
variable {D : vDD} {m : vMM} {z : vZZ} {A : Nat → Nat → Bool} {S : Nat → Bool} {a n N : Nat} {th : Int32}
theorem tb_more {G c : Nat} {p : Nat} (h : G = 2 ^ p) (hc : c < G) (k : Nat) : (G + c).testBit k = (c.testBit k || k == p) := by
  subst h
  have := Nat.testBit_two_pow_mul_add 1 (b := c) (i := p) hc k
  rw [Nat.mul_one] at this
  rw [this]
  by_cases e : k < p
  · rw [if_pos e, beq_eq_false_iff_ne.mpr (by omega), Bool.or_false]
  · rw [if_neg e]
    have h0 : c.testBit k = false := Nat.testBit_lt_two_pow (Nat.lt_of_lt_of_le hc (Nat.pow_le_pow_right (by decide) (by omega)))
    rw [h0, Bool.false_or]
    by_cases e2 : k = p
    · subst e2; rw [Nat.sub_self, beq_self_eq_true]; rfl
    · rw [beq_eq_false_iff_ne.mpr e2]
      exact Nat.testBit_lt_two_pow (Nat.one_lt_two_pow (by omega))
theorem tb_out {g p k : Nat} (h : g < 2 ^ p) (hk : p ≤ k) : g.testBit k = false := Nat.testBit_lt_two_pow (Nat.lt_of_lt_of_le h (Nat.pow_le_pow_right (by decide) hk))
theorem tb_all : ∀ (N : Nat) (G : Nat → Bool), ∃ g, g < 2 ^ N ∧ ∀ k, k < N → g.testBit k = G k
  | 0, _ => ⟨0, by decide, fun k hk => absurd hk (Nat.not_lt_zero k)⟩
  | N + 1, G => by
    obtain ⟨g, hg, e⟩ := tb_all N G
    have hp : 2 ^ (N + 1) = 2 ^ N + 2 ^ N := by rw [Nat.pow_succ]; omega
    cases hG : G N
    · refine ⟨g, by omega, fun k hk => ?_⟩
      by_cases h : k < N
      · exact e k h
      · obtain rfl : k = N := by omega
        rw [hG]
        exact tb_out hg (Nat.le_refl _)
    · refine ⟨2 ^ N + g, by omega, fun k hk => ?_⟩
      rw [tb_more rfl hg]
      by_cases h : k < N
      · rw [e k h, beq_eq_false_iff_ne.mpr (by omega), Bool.or_false]
      · obtain rfl : k = N := by omega
        rw [hG, beq_self_eq_true, Bool.or_true]
theorem anS_0 {t : Nat} : anS A S a N 0 t = false := by
  unfold anS
  rw [Bool.eq_false_iff]
  intro h
  obtain ⟨k, h1, h2, h3⟩ := (nbF_iff N).mp h
  rw [Nat.zero_testBit] at h2
  exact absurd h2 (by decide)
theorem vgS_0 : vgS A S a N 0 = N := by
  unfold vgS
  have h1 : cntB (anS A S a N 0) 16 = 0 := by
    have := cntB_ext (P := anS A S a N 0) (R := fun _ => false) 16 (fun k _ => anS_0)
    rw [this]; rfl
  have h2 : ∀ N, cntB (fun k => !Nat.testBit 0 k) N = N := by
    intro N
    induction N with
    | zero => rfl
    | succ N ih => rw [cntB_s, ih, Nat.zero_testBit]; rfl
  rw [h1, h2, Nat.zero_add]
theorem anS_s {G c p t : Nat} (h : G = 2 ^ p) (hc : c < G) (hp : p < N) : anS A S a N (G + c) t = (anS A S a N c t || (A (a + p) t && S t)) := by
  unfold anS
  rw [Bool.eq_iff_iff, Bool.or_eq_true, nbF_iff, nbF_iff]
  constructor
  · rintro ⟨k, h1, h2, h3⟩
    simp only [tb_more h hc] at h2
    rw [Bool.or_eq_true] at h2
    rcases h2 with h2 | h2
    · exact Or.inl ⟨k, h1, h2, h3⟩
    · rw [beq_iff_eq] at h2
      subst h2
      exact Or.inr h3
  · rintro (⟨k, h1, h2, h3⟩ | h3)
    · exact ⟨k, h1, by simp only [tb_more h hc, h2, Bool.true_or], h3⟩
    · exact ⟨p, hp, by simp only [tb_more h hc, beq_self_eq_true, Bool.or_true], h3⟩
theorem cntB_z {P : Nat → Bool} {n : Nat} : ∀ d, (∀ k, n ≤ k → P k = false) → cntB P (n + d) = cntB P n
  | 0, _ => rfl
  | d + 1, h => by
    rw [← Nat.add_assoc, cntB_s, cntB_z d h, h (n + d) (by omega)]
    rfl
theorem vgS_out {g : Nat} (hg : g < 2 ^ N) (hN : N ≤ 16) : nI N - nI (cntB (fun k => g.testBit k) 16) = nI (cntB (fun k => !g.testBit k) N) := by
  have h1 := cntB_z (P := fun k => g.testBit k) (n := N) (16 - N) (fun k hk => tb_out hg hk)
  rw [(by omega : N + (16 - N) = 16)] at h1
  have h2 := cntB_not (fun k => g.testBit k) N
  rw [h1, nI_sub _ _ (by omega)]
  congr 1
  omega
/-- what the rows hold up to the group u, and the least sum up to there -/
def JnS (A : Nat → Nat → Bool) (S : Nat → Bool) (a N : Nat) (an : Nat → Int32) (u : Nat) : Prop := ∀ g, g < u → SB (an g) (anS A S a N g)
def MnS (A : Nat → Nat → Bool) (S : Nat → Bool) (a N mo u : Nat) : Prop := (∀ g, g < u → mo ≤ vgS A S a N g) ∧ ∃ g, g < u ∧ mo = vgS A S a N g
theorem JnS.s {an : Nat → Int32} {u : Nat} {w : Int32} (h : JnS A S a N an u) (hw : SB w (anS A S a N u)) : JnS A S a N (upd an u w) (u + 1) := by
  intro g hg
  by_cases e : g = u
  · subst e; rw [upd_eq]; exact hw
  · rw [upd_ne _ _ e]; exact h g (by omega)
theorem MnS.lt {mo u : Nat} (h : MnS A S a N mo u) (hl : vgS A S a N u < mo) : MnS A S a N (vgS A S a N u) (u + 1) := by
  refine ⟨fun g hg => ?_, u, by omega, rfl⟩
  by_cases e : g = u
  · subst e; exact Nat.le_refl _
  · have := h.1 g (by omega); omega
theorem MnS.ge {mo u : Nat} (h : MnS A S a N mo u) (hl : ¬ vgS A S a N u < mo) : MnS A S a N mo (u + 1) := by
  obtain ⟨g0, h0, e0⟩ := h.2
  refine ⟨fun g hg => ?_, g0, by omega, e0⟩
  by_cases e : g = u
  · subst e; omega
  · exact h.1 g (by omega)
theorem MnS.le {mo u : Nat} (h : MnS A S a N mo u) : mo ≤ 16 + N := by
  obtain ⟨g0, h0, e0⟩ := h.2
  rw [e0]
  unfold vgS
  exact Nat.add_le_add (cntB_n _ _) (cntB_n _ _)
theorem MnS.fin {mo : Nat} (h : MnS A S a N mo (2 ^ N)) : mnR (rwS A S a) 16 N (fun _ => false) = mo := by
  obtain ⟨g0, h0, e0⟩ := h.2
  have ff : ∀ G : Nat → Bool, cntB (fun t => false || nbF (rwS A S a) G N t) 16 = cntB (fun t => nbF (rwS A S a) G N t) 16 := fun G => cntB_ext 16 (fun k _ => Bool.false_or _)
  refine mn_is (G := fun k => g0.testBit k) (fun G => ?_) ?_
  · obtain ⟨g, hg, eg⟩ := tb_all N G
    have h1 := h.1 g hg
    have h2 : cntB (fun t => nbF (rwS A S a) G N t) 16 = cntB (anS A S a N g) 16 := cntB_ext 16 (fun t _ => nbF_ext N (fun k hk => (eg k hk).symm))
    have h3 : cntB (fun k => !G k) N = cntB (fun k => !g.testBit k) N := cntB_ext N (fun k hk => by rw [eg k hk])
    rw [ff, h2, h3]
    exact h1
  · rw [ff, e0]
    exact Nat.le_refl _
theorem l_srv1 (hP : IsPl D) (hC : ∀ i, i < n → SB (m 850 i) (A i)) (hS : ∀ t, t < 16 → selB th t = S t) (hn : n ≤ 9) {p G : Nat} (hG : G = 2 ^ p) (hG2 : G ≤ 256) (hGN : G + G ≤ 2 ^ N) (hp : p < N) (hN : a + N = n) : ∀ k c an mo (w8 w9 : Value), c + k = G → JnS A S a N an (G + c) → MnS A S a N mo (G + c) →
    ∃ an' mo' v8 v9, JnS A S a N an' (G + G) ∧ MnS A S a N mo' (G + G) ∧ ∀ Q, Runs MX4_mostServed 35 [.ref 849, .int (nI a), .int th, .int (nI N), .int (nI mo), .int (nI G), .int (nI (a + p)), .int (nI c), w8, w9] [] D (setR m 852 an) z Q = Runs MX4_mostServed 108 [.ref 849, .int (nI a), .int th, .int (nI N), .int (nI mo'), .int (nI G), .int (nI (a + p)), .int (nI G), v8, v9] [] D (setR m 852 an') z Q := by
  have hp := hP
  simp only [IsPl] at hP
  intro k
  induction k with
  | zero =>
    intro c an mo w8 w9 hc hJ hM
    obtain rfl : c = G := by omega
    refine ⟨an, mo, w8, w9, hJ, hM, fun Q => ?_⟩
    rw [sX4_mostServed_35]
    simp (disch := omega) only [sX4_mostServed_37, sX4_mostServed_39, sX4_mostServed_42, sX4_mostServed_44, sX4_mostServed_46, sX4_mostServed_47, sX4_mostServed_49, sX4_mostServed_50, sX4_mostServed_53, sX4_mostServed_55, sX4_mostServed_56, sX4_mostServed_59, sX4_mostServed_61, sX4_mostServed_62, sX4_mostServed_63, sX4_mostServed_66, sX4_mostServed_68, sX4_mostServed_69, sX4_mostServed_70, sX4_mostServed_71, sX4_mostServed_72, sX4_mostServed_73, sX4_mostServed_74, sX4_mostServed_76, sX4_mostServed_79, sX4_mostServed_80, sX4_mostServed_82, sX4_mostServed_84, sX4_mostServed_85, sX4_mostServed_88, sX4_mostServed_90, sX4_mostServed_91, sX4_mostServed_94, sX4_mostServed_96, sX4_mostServed_97, sX4_mostServed_100, sX4_mostServed_102, sX4_mostServed_105, true_and, and_true, true_or, or_true, eq_self, ↓reduceIte, if_true, if_false, nI_add, nI_mul, inB_nI, nI_clamp, Nat.add_zero, eqI, ltI, leI, m6_ne, ne_m6, Nat.reduceEqDiff, reduceCtorEq, Nat.reduceLT, Nat.reduceLeDiff, Nat.reduceAdd, Nat.reduceMul, Nat.zero_add, Nat.mul_zero, nar_0, nar_1, nar_b, bI_t, bI_f, bI_0, bI_1, Bool.true_eq_false, Bool.false_eq_true, Bool.and_self, Bool.and_false, Bool.false_and, Bool.true_and, Bool.and_true, and_self, Nat.le_refl]
  | succ k ih =>
    intro c an mo w8 w9 hc hJ hM
    have hlt : ¬ G ≤ c := by omega
    have hg : G + c < 65536 := by omega
    have hw : SB (an c ||| (m 850 (a + p) &&& th)) (anS A S a N (G + c)) := ((hJ c (by omega)).or ((hC (a + p) (by omega)).and hS)).ext (fun t _ => (anS_s hG (by omega) (by omega)).symm)
    have hJ2 := hJ.s hw
    have b1 := fun Q (D : vDD) (m : vMM) => c_bitCount (D := D) (m := m) (z := z) (Q := Q) (SB.of hg)
    have b2 := fun Q (D : vDD) (m : vMM) => c_bitCount (D := D) (m := m) (z := z) (Q := Q) hw
    have o := vgS_out (N := N) (g := G + c) (by omega) (by omega)
    have hv : nI (cntB (anS A S a N (G + c)) 16) + nI (cntB (fun k => !(G + c).testBit k) N) = nI (vgS A S a N (G + c)) := nI_add _ _
    have hvl : vgS A S a N (G + c) ≤ 16 + N := by unfold vgS; exact Nat.add_le_add (cntB_n _ _) (cntB_n _ _)
    have hml := hM.le
    by_cases hl : vgS A S a N (G + c) < mo
    · obtain ⟨an', mo', v8, v9, r1, r2, y⟩ := ih (c + 1) _ _ (.int (nI (G + c))) (.int (nI (cntB (fun k => !(G + c).testBit k) N))) (by omega) hJ2 (hM.lt hl)
      refine ⟨an', mo', v8, v9, r1, r2, fun Q => ?_⟩
      rw [sX4_mostServed_35]
      simp (disch := omega) only [sX4_mostServed_37, sX4_mostServed_39, sX4_mostServed_42, sX4_mostServed_44, sX4_mostServed_46, sX4_mostServed_47, sX4_mostServed_49, sX4_mostServed_50, sX4_mostServed_53, sX4_mostServed_55, sX4_mostServed_56, sX4_mostServed_59, sX4_mostServed_61, sX4_mostServed_62, sX4_mostServed_63, sX4_mostServed_66, sX4_mostServed_68, sX4_mostServed_69, sX4_mostServed_70, sX4_mostServed_71, sX4_mostServed_72, sX4_mostServed_73, sX4_mostServed_74, sX4_mostServed_76, sX4_mostServed_79, sX4_mostServed_80, sX4_mostServed_82, sX4_mostServed_84, sX4_mostServed_85, sX4_mostServed_88, sX4_mostServed_90, sX4_mostServed_91, sX4_mostServed_94, sX4_mostServed_96, sX4_mostServed_97, sX4_mostServed_100, sX4_mostServed_102, sX4_mostServed_105, hP, true_and, and_true, true_or, or_true, eq_self, ↓reduceIte, if_true, if_false, nI_add, nI_mul, inB_nI, nI_clamp, Nat.add_zero, eqI, ltI, leI, m6_ne, ne_m6, Nat.reduceEqDiff, reduceCtorEq, Nat.reduceLT, Nat.reduceLeDiff, Nat.reduceAdd, Nat.reduceMul, Nat.zero_add, Nat.mul_zero, nar_0, nar_1, nar_b, bI_t, bI_f, bI_0, bI_1, Bool.true_eq_false, Bool.false_eq_true, Bool.and_self, Bool.and_false, Bool.false_and, Bool.true_and, Bool.and_true, and_self, hlt, setR_eq, setR_ne, up2_setR, upd_eq, b1, b2, o, hv, hl, y]
    · obtain ⟨an', mo', v8, v9, r1, r2, y⟩ := ih (c + 1) _ _ (.int (nI (G + c))) (.int (nI (cntB (fun k => !(G + c).testBit k) N))) (by omega) hJ2 (hM.ge hl)
      refine ⟨an', mo', v8, v9, r1, r2, fun Q => ?_⟩
      rw [sX4_mostServed_35]
      simp (disch := omega) only [sX4_mostServed_37, sX4_mostServed_39, sX4_mostServed_42, sX4_mostServed_44, sX4_mostServed_46, sX4_mostServed_47, sX4_mostServed_49, sX4_mostServed_50, sX4_mostServed_53, sX4_mostServed_55, sX4_mostServed_56, sX4_mostServed_59, sX4_mostServed_61, sX4_mostServed_62, sX4_mostServed_63, sX4_mostServed_66, sX4_mostServed_68, sX4_mostServed_69, sX4_mostServed_70, sX4_mostServed_71, sX4_mostServed_72, sX4_mostServed_73, sX4_mostServed_74, sX4_mostServed_76, sX4_mostServed_79, sX4_mostServed_80, sX4_mostServed_82, sX4_mostServed_84, sX4_mostServed_85, sX4_mostServed_88, sX4_mostServed_90, sX4_mostServed_91, sX4_mostServed_94, sX4_mostServed_96, sX4_mostServed_97, sX4_mostServed_100, sX4_mostServed_102, sX4_mostServed_105, hP, true_and, and_true, true_or, or_true, eq_self, ↓reduceIte, if_true, if_false, nI_add, nI_mul, inB_nI, nI_clamp, Nat.add_zero, eqI, ltI, leI, m6_ne, ne_m6, Nat.reduceEqDiff, reduceCtorEq, Nat.reduceLT, Nat.reduceLeDiff, Nat.reduceAdd, Nat.reduceMul, Nat.zero_add, Nat.mul_zero, nar_0, nar_1, nar_b, bI_t, bI_f, bI_0, bI_1, Bool.true_eq_false, Bool.false_eq_true, Bool.and_self, Bool.and_false, Bool.false_and, Bool.true_and, Bool.and_true, and_self, hlt, setR_eq, setR_ne, up2_setR, upd_eq, b1, b2, o, hv, hl, y]
theorem l_srv2 (hP : IsPl D) (h3 : m 849 3 = nI n) (hC : ∀ i, i < n → SB (m 850 i) (A i)) (hS : ∀ t, t < 16 → selB th t = S t) (hn : n ≤ 9) (hN : a + N = n) : ∀ k p an mo (v7 v8 v9 : Value), p + k = N → JnS A S a N an (2 ^ p) → MnS A S a N mo (2 ^ p) →
    ∃ an', ∀ Q, Runs MX4_mostServed 23 [.ref 849, .int (nI a), .int th, .int (nI N), .int (nI mo), .int (nI (2 ^ p)), .int (nI (a + p)), v7, v8, v9] [] D (setR m 852 an) z Q = Q (.int (nI (mnR (rwS A S a) 16 N (fun _ => false)))) D (setR m 852 an') z := by
  have hP0 := hP
  simp only [IsPl] at hP
  intro k
  induction k with
  | zero =>
    intro p an mo v7 v8 v9 hk hJ hM
    obtain rfl : p = N := by omega
    have e := hM.fin
    have hx : n ≤ a + p := by omega
    refine ⟨an, fun Q => ?_⟩
    rw [sX4_mostServed_23, e]
    simp (disch := omega) only [sX4_mostServed_25, sX4_mostServed_26, sX4_mostServed_29, sX4_mostServed_32, sX4_mostServed_33, sX4_mostServed_121, sX4_mostServed_123, hP, true_and, and_true, true_or, or_true, eq_self, ↓reduceIte, if_true, if_false, nI_add, nI_mul, inB_nI, nI_clamp, Nat.add_zero, eqI, ltI, leI, m6_ne, ne_m6, Nat.reduceEqDiff, reduceCtorEq, Nat.reduceLT, Nat.reduceLeDiff, Nat.reduceAdd, Nat.reduceMul, Nat.zero_add, Nat.mul_zero, nar_0, nar_1, nar_b, bI_t, bI_f, bI_0, bI_1, Bool.true_eq_false, Bool.false_eq_true, Bool.and_self, Bool.and_false, Bool.false_and, Bool.true_and, Bool.and_true, and_self, setR_ne, h3, hx]
  | succ k ih =>
    intro p an mo v7 v8 v9 hk hJ hM
    have hx : ¬ n ≤ a + p := by omega
    have e1 : 2 ^ (p + 1) = 2 ^ p + 2 ^ p := by rw [Nat.pow_succ]; omega
    have e2 : 2 ^ (p + 1) ≤ 2 ^ N := Nat.pow_le_pow_right (by decide) (by omega)
    have e3 : 2 ^ p ≤ 2 ^ 8 := Nat.pow_le_pow_right (by decide) (by omega)
    obtain ⟨an1, mo1, u8, u9, r1, r2, y1⟩ := l_srv1 (D := D) (m := m) (z := z) hP0 hC hS hn (p := p) (G := 2 ^ p) rfl (by omega) (by omega) (by omega) hN (2 ^ p) 0 an mo v8 v9 (by omega) hJ hM
    rw [← e1] at r1 r2
    obtain ⟨an2, y2⟩ := ih (p + 1) an1 mo1 (.int (nI (2 ^ p))) u8 u9 (by omega) r1 r2
    rw [e1] at y2
    refine ⟨an2, fun Q => ?_⟩
    rw [sX4_mostServed_23]
    simp (disch := omega) only [sX4_mostServed_25, sX4_mostServed_26, sX4_mostServed_29, sX4_mostServed_32, sX4_mostServed_33, sX4_mostServed_108, sX4_mostServed_110, sX4_mostServed_112, sX4_mostServed_113, sX4_mostServed_115, sX4_mostServed_118, hP, true_and, and_true, true_or, or_true, eq_self, ↓reduceIte, if_true, if_false, nI_add, nI_mul, inB_nI, nI_clamp, Nat.add_zero, eqI, ltI, leI, m6_ne, ne_m6, Nat.reduceEqDiff, reduceCtorEq, Nat.reduceLT, Nat.reduceLeDiff, Nat.reduceAdd, Nat.reduceMul, Nat.zero_add, Nat.mul_zero, nar_0, nar_1, nar_b, bI_t, bI_f, bI_0, bI_1, Bool.true_eq_false, Bool.false_eq_true, Bool.and_self, Bool.and_false, Bool.false_and, Bool.true_and, Bool.and_true, and_self, setR_ne, h3, hx, y1, Nat.add_assoc, y2]
theorem x_served (hP : IsPl D) (h3 : m 849 3 = nI n) (hC : ∀ i, i < n → SB (m 850 i) (A i)) (hS : ∀ t, t < 16 → selB th t = S t) (hn : n ≤ 9) (ha : a ≤ n) : ∃ row, ∀ Q, Runs MX4_mostServed 0 [.ref 849, .int (nI a), .int th, vJ, vJ, vJ, vJ, vJ, vJ, vJ] [] D m z Q = Q (.int (nI (behF A n a S))) D (setR m 852 row) z := by
  have hP0 := hP
  simp only [IsPl] at hP
  have hJ : JnS A S a (n - a) (upd (m 852) 0 (nI 0)) (2 ^ 0) := by
    intro g hg
    obtain rfl : g = 0 := by omega
    rw [upd_eq]
    exact SB.zero.ext (fun t _ => anS_0.symm)
  have hM : MnS A S a (n - a) (n - a) (2 ^ 0) := by
    refine ⟨fun g hg => ?_, 0, by decide, vgS_0.symm⟩
    obtain rfl : g = 0 := by omega
    rw [vgS_0]
    exact Nat.le_refl _
  obtain ⟨row, y⟩ := l_srv2 (D := D) (m := m) (z := z) hP0 h3 hC hS hn (N := n - a) (by omega) (n - a) 0 _ _ vJ vJ vJ (by omega) hJ hM
  refine ⟨row, fun Q => ?_⟩
  have e : behF A n a S = mnR (rwS A S a) 16 (n - a) (fun _ => false) := rfl
  have e0 : nI n - nI a = nI (n - a) := nI_sub _ _ ha
  have e1 : (2 ^ 0 : Nat) = 1 := rfl
  rw [e1, Nat.add_zero] at y
  rw [e]
  simp (disch := omega) only [sX4_mostServed_0, sX4_mostServed_1, sX4_mostServed_4, sX4_mostServed_5, sX4_mostServed_6, sX4_mostServed_7, sX4_mostServed_8, sX4_mostServed_10, sX4_mostServed_11, sX4_mostServed_13, sX4_mostServed_14, sX4_mostServed_17, sX4_mostServed_18, sX4_mostServed_19, sX4_mostServed_20, sX4_mostServed_21, hP, true_and, and_true, true_or, or_true, eq_self, ↓reduceIte, if_true, if_false, nI_add, nI_mul, inB_nI, nI_clamp, Nat.add_zero, eqI, ltI, leI, m6_ne, ne_m6, Nat.reduceEqDiff, reduceCtorEq, Nat.reduceLT, Nat.reduceLeDiff, Nat.reduceAdd, Nat.reduceMul, Nat.zero_add, Nat.mul_zero, nar_0, nar_1, nar_b, bI_t, bI_f, bI_0, bI_1, Bool.true_eq_false, Bool.false_eq_true, Bool.and_self, Bool.and_false, Bool.false_and, Bool.true_and, Bool.and_true, and_self, h3, e0, up2_R, y]
end SRV
