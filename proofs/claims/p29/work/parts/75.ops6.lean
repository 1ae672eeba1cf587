/-! bring, side by side -/
section BRT
variable {ch : Nat → Nat} {L : Nat}
def agP (T T' : Nat → Int32) (n : Nat) : Prop := ∀ j, j < n → T j = T' j
theorem setT_ag {T T' : Nat → Int32} {k : Nat} {r : Bool × Nat × Int32 × Int32 × Int32} (h : agP T T' (3 * k)) : agP (setT T k r) (setT T' k r) (3 * (k + 1)) := by
  intro j hj
  unfold setT
  by_cases j2 : j = 3 * k + 2
  · subst j2; rw [upd_eq, upd_eq]
  · rw [upd_ne _ _ j2, upd_ne _ _ j2]
    by_cases j1 : j = 3 * k + 1
    · subst j1; rw [upd_eq, upd_eq]
    · rw [upd_ne _ _ j1, upd_ne _ _ j1]
      by_cases j0 : j = 3 * k
      · subst j0; rw [upd_eq, upd_eq]
      · rw [upd_ne _ _ j0, upd_ne _ _ j0]
        exact h j (by omega)
theorem thL_ag : ∀ (n p k : Nat) (T T' : Nat → Int32), agP T T' (3 * k) → (thL ch L n p k T).1 = (thL ch L n p k T').1 ∧ (thL ch L n p k T).2.1 = (thL ch L n p k T').2.1 ∧ (thL ch L n p k T).2.2.1 = (thL ch L n p k T').2.2.1 ∧ agP (thL ch L n p k T).2.2.2 (thL ch L n p k T').2.2.2 (3 * (thL ch L n p k T).2.2.1)
  | 0, p, k, T, T', h => ⟨rfl, rfl, rfl, h⟩
  | n + 1, p, k, T, T', h => by
    unfold thL
    split
    · split
      · exact thL_ag n _ _ _ _ (setT_ag h)
      · exact ⟨rfl, rfl, rfl, setT_ag h⟩
    · exact ⟨rfl, rfl, rfl, h⟩
theorem wkR_ag {q q' : Bool × Nat × Nat × (Nat → Int32)} (h : q.1 = q'.1 ∧ q.2.1 = q'.2.1 ∧ q.2.2.1 = q'.2.2.1 ∧ agP q.2.2.2 q'.2.2.2 (3 * q.2.2.1)) : (wkR ch L q).1 = (wkR ch L q').1 ∧ (wkR ch L q).2.1 = (wkR ch L q').2.1 ∧ (wkR ch L q).2.2.1 = (wkR ch L q').2.2.1 ∧ (wkR ch L q).2.2.2.1 = (wkR ch L q').2.2.2.1 ∧ agP (wkR ch L q).2.2.2.2 (wkR ch L q').2.2.2.2 (3 * (wkR ch L q).2.2.1) := by
  obtain ⟨b, p, k, T⟩ := q
  obtain ⟨b', p', k', T'⟩ := q'
  obtain ⟨rfl, rfl, rfl, h⟩ := h
  unfold wkR
  simp only [] at h ⊢
  split
  · split
    · split <;> exact ⟨rfl, rfl, rfl, rfl, h⟩
    · exact ⟨rfl, rfl, rfl, rfl, h⟩
  · exact ⟨rfl, rfl, rfl, rfl, h⟩
theorem thR_ag {p : Nat} (T T' : Nat → Int32) : (thR ch L p T).1 = (thR ch L p T').1 ∧ (thR ch L p T).2.1 = (thR ch L p T').2.1 ∧ (thR ch L p T).2.2.1 = (thR ch L p T').2.2.1 ∧ (thR ch L p T).2.2.2.1 = (thR ch L p T').2.2.2.1 ∧ agP (thR ch L p T).2.2.2.2 (thR ch L p T').2.2.2.2 (3 * (thR ch L p T).2.2.1) := by
  have h0 : agP (setT T 0 (stR ch L p)) (setT T' 0 (stR ch L p)) (3 * 1) := setT_ag (fun j hj => absurd hj (by omega))
  unfold thR
  apply wkR_ag
  split
  · exact thL_ag 3 _ _ _ _ h0
  · exact ⟨rfl, rfl, rfl, h0⟩
theorem newF_ag {f T T' : Nat → Int32} {t k : Nat} {w : Int32} (h : agP T T' (3 * k)) : newF f t k w T = newF f t k w T' := by
  funext j
  unfold newF
  by_cases h3 : j = 3
  · rw [if_pos h3, if_pos h3]
  · rw [if_neg h3, if_neg h3]
    by_cases hr : 58 + 18 * t ≤ j ∧ j < 58 + 18 * t + 18
    · rw [if_pos hr, if_pos hr]
      by_cases h1 : j = 58 + 18 * t + 1
      · rw [if_pos h1, if_pos h1]
      · rw [if_neg h1, if_neg h1]
        by_cases h5 : j = 58 + 18 * t + 5
        · rw [if_pos h5, if_pos h5]
        · rw [if_neg h5, if_neg h5]
          by_cases h6 : 58 + 18 * t + 6 ≤ j ∧ j < 58 + 18 * t + 6 + 3 * k
          · rw [if_pos h6, if_pos h6]
            exact h _ (by omega)
          · rw [if_neg h6, if_neg h6]
    · rw [if_neg hr, if_neg hr]
theorem brF_T : ∀ (n p t : Nat) (T T' f : Nat → Int32), brF ch L n p t T f = brF ch L n p t T' f
  | 0, _, _, _, _, _ => rfl
  | n + 1, p, t, T, T', f => by
    obtain ⟨-, h2, h3, h4, h5⟩ := thR_ag (ch := ch) (L := L) (p := p) T T'
    unfold brF
    by_cases h : L ≤ p
    · rw [if_pos h, if_pos h]
    · rw [if_neg h, if_neg h, newF_ag h5, h2, h3, h4]
      exact brF_T n _ _ _ _ _
theorem RdB_cong {m m' : vMM} (e : ∀ a, 769 ≤ a → m' a = m a) : ∀ (n p j : Nat) (T : Nat → Int32), RdB ch L n p j T m → RdB ch L n p j T m'
  | 0, _, _, _, _ => trivial
  | n + 1, p, j, T, h => by
    unfold RdB at h ⊢
    by_cases hp : L ≤ p
    · rw [if_pos hp]; trivial
    · rw [if_neg hp] at h ⊢
      obtain ⟨⟨S, h1, h2⟩, h3⟩ := h
      exact ⟨⟨S, h1.cong (fun a ha _ => e a (by omega)), h2⟩, RdB_cong e n _ _ _ h3⟩
theorem cpT_G {c S : Nat → Int32} {t k : Nat} (hk : k < 10) : gG (cpT c S t) k = gG c k := by
  show (if 58 + 18 * t ≤ k ∧ k < 58 + 18 * t + 18 then S (k - (58 + 18 * t)) else c k) = c k
  rw [if_neg (by omega)]
theorem cpT_F {c S : Nat → Int32} {t i k : Nat} (hi : i < 8) (hk : k < 6) : gF (cpT c S t) i k = gF c i k := by
  show (if 58 + 18 * t ≤ 10 + 6 * i + k ∧ 10 + 6 * i + k < 58 + 18 * t + 18 then S (10 + 6 * i + k - (58 + 18 * t)) else c (10 + 6 * i + k)) = c (10 + 6 * i + k)
  rw [if_neg (by omega)]
theorem cpT_T {c S : Nat → Int32} {t u k : Nat} (hu : u ≠ t) (hk : k < 18) : gT (cpT c S t) u k = gT c u k := by
  show (if 58 + 18 * t ≤ 58 + 18 * u + k ∧ 58 + 18 * u + k < 58 + 18 * t + 18 then S (58 + 18 * u + k - (58 + 18 * t)) else c (58 + 18 * u + k)) = c (58 + 18 * u + k)
  rw [if_neg (by omega)]
theorem cpT_t {c S : Nat → Int32} {t k : Nat} (hk : k < 18) : gT (cpT c S t) t k = S k := by
  show (if 58 + 18 * t ≤ 58 + 18 * t + k ∧ 58 + 18 * t + k < 58 + 18 * t + 18 then S (58 + 18 * t + k - (58 + 18 * t)) else c (58 + 18 * t + k)) = S k
  rw [if_pos (by omega), (by omega : 58 + 18 * t + k - (58 + 18 * t) = k)]
theorem Rfc_new {f c S T : Nat → Int32} {nF t k : Nat} {w : Int32} (h : Rfc f c nF t) (ht : t < 16) (h8 : nF ≤ 8) (hk : k ≤ 4) (hS : ThS S k w T) : Rfc (newF f t k w T) (sG (cpT c S t) 3 (nI (t + 1))) nF (t + 1) := by
  obtain ⟨⟨s0, s1, s2, s3, s4, s5⟩, s6⟩ := hS
  refine ⟨fun j hj => ?_, fun i hi j hj => ?_, fun u hu => ?_⟩
  · by_cases e : j = 3
    · subst e
      rw [gG_sG]
      exact (if_pos rfl : newF f t k w T 3 = nI (t + 1)).symm
    · rw [gG_sGk e, cpT_G hj, newF_G e (Or.inl hj) ht]
      exact h.1 j hj
  · rw [gF_sG (Or.inl (by decide)) (by omega) hj, cpT_F (by omega) hj, newF_F (by omega) hj]
    exact h.2.1 i hi j hj
  · have eT : ∀ j, j < 18 → gT (sG (cpT c S t) 3 (nI (t + 1))) u j = gT (cpT c S t) u j := fun j hj => gT_sG (Or.inl (by decide)) (by omega) hj
    by_cases e : u = t
    · subst e
      have n0 : gT (newF f u k w T) u 0 = nI 0 := by rw [newF_t (by decide), if_neg (by decide), if_neg (by decide), if_neg (by omega)]
      have n1 : gT (newF f u k w T) u 1 = nI k := by rw [newF_t (by decide), if_pos rfl]
      have n2 : gT (newF f u k w T) u 2 = nI 0 := by rw [newF_t (by decide), if_neg (by decide), if_neg (by decide), if_neg (by omega)]
      have n3 : gT (newF f u k w T) u 3 = nI 0 := by rw [newF_t (by decide), if_neg (by decide), if_neg (by decide), if_neg (by omega)]
      have n4 : gT (newF f u k w T) u 4 = nI 0 := by rw [newF_t (by decide), if_neg (by decide), if_neg (by decide), if_neg (by omega)]
      have n5 : gT (newF f u k w T) u 5 = w := by rw [newF_t (by decide), if_neg (by decide), if_pos rfl]
      refine ⟨fun j hj h3 => ?_, ?_, fun s n hn hs h4 w' hw => ?_⟩
      · rw [eT j (by omega), cpT_t (by omega)]
        rcases (by omega : j = 0 ∨ j = 1 ∨ j = 2 ∨ j = 4 ∨ j = 5) with rfl | rfl | rfl | rfl | rfl
        · exact s0.trans n0.symm
        · exact s1.trans n1.symm
        · exact s2.trans n2.symm
        · exact s4.trans n4.symm
        · exact s5.trans n5.symm
      · rw [eT 3 (by decide), cpT_t (by decide), n0, n3, if_pos rfl]
        exact s3
      · rw [n1] at hn
        obtain rfl : k = n := nI_inj (by omega) (by omega) hn
        rw [eT _ (by omega), cpT_t (by omega), newF_t (by omega), if_neg (by omega), if_neg (by omega), if_pos (by omega), (by omega : 6 + 3 * s + w' - 6 = 3 * s + w'), (by omega : 6 + 3 * s + w' = 6 + (3 * s + w'))]
        exact s6 _ (by omega)
    · have eN : ∀ j, j < 18 → gT (newF f t k w T) u j = gT f u j := fun j hj => newF_T e hj
      obtain ⟨g1, g2, g3⟩ := h.2.2 u (by omega)
      refine ⟨fun j hj h3 => ?_, ?_, fun s n hn hs h4 w' hw => ?_⟩
      · rw [eT j (by omega), cpT_T e (by omega), eN j (by omega)]
        exact g1 j hj h3
      · rw [eT 3 (by decide), cpT_T e (by decide), eN 0 (by decide), eN 3 (by decide)]
        exact g2
      · rw [eN 1 (by decide)] at hn
        rw [eT _ (by omega), cpT_T e (by omega), eN _ (by omega)]
        exact g3 s n hn hs h4 w' hw
end BRT
section OP6
variable {D : vDD} {m : vMM} {z : vZZ} {ch : Nat → Nat} {L : Nat}
theorem l_addThings {nF : Nat} (hA : IsMM D) (hP : IsPad D) (hB : IsM D 2) (h60 : L ≤ 60) (hc : m 766 3 = nI (1 + smN ch L)) (h20 : 3 * smN ch L + 2 ≤ L) : ∀ (n p t : Nat) (T f c : Nat → Int32), L + 1 ≤ p + n → ffR ch L n p T = m6 → p ≤ L → RdB ch L n p (smN ch p) T m → Rfc f c nF t → WF f nF t → t + 1 + smN ch L ≤ 16 + smN ch p →
    ∃ c', Rfc (brF ch L n p t T f) c' nF (t + 1 + smN ch L - smN ch p) ∧ ∀ Q, Runs MX6_bring 51 [.ref 1, .int (nI (smN ch p))] [] D (bM m 2 c) z Q = Runs MX6_bring 84 [.ref 1, .int (nI (1 + smN ch L))] [] D (bM m 2 c') z Q := by
  simp only [IsMM] at hA
  have b1 := hB.1.1
  intro n
  induction n with
  | zero =>
    intro p t T f c hn hf hp
    omega
  | succ n ih =>
    intro p t T f c hn hf hp hR hr hW hs
    obtain ⟨a1, a2, a3⟩ := ffR_s hf hp h60
    have hle := thR_le (ch := ch) (L := L) (p := p) (T := T) hp
    have hok := thR_ok (ch := ch) (L := L) (p := p) (T := T) hp a1
    have hns := thR_ns (ch := ch) (L := L) (p := p) (T := T)
    have hmo := smN_mono ch hp
    have hnL : ¬ L ≤ p := by omega
    unfold RdB at hR
    rw [if_neg hnL] at hR
    unfold brF
    rw [if_neg hnL]
    obtain ⟨⟨S, R1, R2⟩, R3⟩ := hR
    generalize thR ch L p T = q at hle hok hns a1 a3 R2 R3 ⊢
    obtain ⟨r1, r2, r3, r4, r5⟩ := q
    simp only [] at hle hok hns a1 a3 R2 R3 ⊢
    subst a1
    have hW2 : WF (newF f t r3 r4 r5) nF (t + 1) := hW.nwF (by omega) hle.2.2.1 hle.2.2.2.1 hok
    have hr2 := Rfc_new hr (by omega) hW.1.2.1 hle.2.2.2.1 R2
    have hT := hP.2.2.2 (smN ch p) (by omega)
    have ad := fun Q => x_addThing (D := D) (m := m) (z := z) (Q := Q) (c := c) hB hT R1 (Or.inr (by omega)) ((hr.1 3 (by decide)).trans hW.1.2.2.1) (by omega)
    have hi : ¬ 1 + smN ch L ≤ smN ch p := by omega
    have g3 : ∀ c, bM m 2 c 766 3 = nI (1 + smN ch L) := fun c => by rw [bM_o (by omega)]; exact hc
    have hd := hP.2.2.1 (smN ch p) (by omega)
    have hP1 := hP.1
    have hP2 := hP.2.1
    have h16 : 1 + smN ch L < 100 := by omega
    rcases a3 with e | ⟨c1, c2, c3⟩
    · subst e
      have e2 : nxP ch r2 r2 = r2 := by
        unfold nxP
        rw [if_neg]
        rw [isB_L (Nat.le_refl _)]
        decide
      have e3 : t + 1 + smN ch r2 - smN ch p = t + 1 := by omega
      have e4 : ∀ n (g : Nat → Int32) (T : Nat → Int32), brF ch r2 n r2 (t + 1) T g = g := fun n g T => by
        cases n
        · rfl
        · unfold brF
          rw [if_pos (Nat.le_refl _)]
      rw [e2, e3, e4]
      refine ⟨_, hr2, fun Q => ?_⟩
      have e5 : smN ch p + 1 = 1 + smN ch r2 := by omega
      rw [sX6_bring_51]
      simp (disch := omega) only [sX6_bring_52, sX6_bring_53, sX6_bring_56, sX6_bring_59, sX6_bring_62, sX6_bring_63, sX6_bring_66, sX6_bring_67, sX6_bring_70, sX6_bring_73, sX6_bring_74, sX6_bring_75, sX6_bring_78, sX6_bring_81, hA, hP1, hP2, b1, true_and, and_true, true_or, or_true, eq_self, ↓reduceIte, if_true, if_false, nI_add, nI_mul, inB_nI, nI_clamp, Nat.add_zero, eqI, ltI, leI, m6_ne, ne_m6, Nat.reduceEqDiff, reduceCtorEq, Nat.reduceLT, Nat.reduceLeDiff, Nat.reduceAdd, Nat.reduceMul, Nat.zero_add, Nat.mul_zero, nar_0, nar_1, nar_b, bI_t, bI_f, bI_0, bI_1, Bool.true_eq_false, Bool.false_eq_true, Bool.and_self, Bool.and_false, Bool.false_and, Bool.true_and, Bool.and_true, and_self, g3, hi, hd, ad]
      rw [sX6_bring_51, e5]
      simp (disch := omega) only [sX6_bring_52, sX6_bring_53, sX6_bring_56, sX6_bring_59, sX6_bring_62, sX6_bring_63, sX6_bring_66, sX6_bring_67, sX6_bring_70, sX6_bring_73, sX6_bring_74, sX6_bring_75, sX6_bring_78, sX6_bring_81, hA, hP1, hP2, b1, true_and, and_true, true_or, or_true, eq_self, ↓reduceIte, if_true, if_false, nI_add, nI_mul, inB_nI, nI_clamp, Nat.add_zero, eqI, ltI, leI, m6_ne, ne_m6, Nat.reduceEqDiff, reduceCtorEq, Nat.reduceLT, Nat.reduceLeDiff, Nat.reduceAdd, Nat.reduceMul, Nat.zero_add, Nat.mul_zero, nar_0, nar_1, nar_b, bI_t, bI_f, bI_0, bI_1, Bool.true_eq_false, Bool.false_eq_true, Bool.and_self, Bool.and_false, Bool.false_and, Bool.true_and, Bool.and_true, and_self, g3, Nat.le_refl]
    · have e2 : nxP ch L r2 = r2 + 1 := by
        unfold nxP
        rw [if_pos c2]
      rw [e2] at R3 ⊢
      have hsm : smN ch (r2 + 1) = smN ch p + 1 := by
        have := (isB_lt c2).2
        simp only [smN]
        rw [if_pos this, hns]
      have hmo2 := smN_mono ch (a := r2 + 1) (b := L) (by omega)
      rw [← hsm] at R3
      obtain ⟨c', i1, i2⟩ := ih (r2 + 1) (t + 1) r5 (newF f t r3 r4 r5) _ (by omega) c3 (by omega) R3 hr2 hW2 (by omega)
      have e3 : t + 1 + 1 + smN ch L - smN ch (r2 + 1) = t + 1 + smN ch L - smN ch p := by omega
      rw [e3] at i1
      rw [hsm] at i2
      refine ⟨c', i1, fun Q => ?_⟩
      rw [sX6_bring_51]
      simp (disch := omega) only [sX6_bring_52, sX6_bring_53, sX6_bring_56, sX6_bring_59, sX6_bring_62, sX6_bring_63, sX6_bring_66, sX6_bring_67, sX6_bring_70, sX6_bring_73, sX6_bring_74, sX6_bring_75, sX6_bring_78, sX6_bring_81, hA, hP1, hP2, b1, true_and, and_true, true_or, or_true, eq_self, ↓reduceIte, if_true, if_false, nI_add, nI_mul, inB_nI, nI_clamp, Nat.add_zero, eqI, ltI, leI, m6_ne, ne_m6, Nat.reduceEqDiff, reduceCtorEq, Nat.reduceLT, Nat.reduceLeDiff, Nat.reduceAdd, Nat.reduceMul, Nat.zero_add, Nat.mul_zero, nar_0, nar_1, nar_b, bI_t, bI_f, bI_0, bI_1, Bool.true_eq_false, Bool.false_eq_true, Bool.and_self, Bool.and_false, Bool.false_and, Bool.true_and, Bool.and_true, and_self, g3, hi, hd, ad, i2]
theorem ClS.kp2 {H : Nat → Nat} {f : Nat → Int32} {nF nT r : Nat} {h s : Nat → Int32} {b0 b1 : Bool} (C : ClS D H m f nF nT r L h s b0 b1 ch) : ∃ c D' H' m', Blk m' 2 c ∧ Rfc f c nF nT ∧ (∀ a, 766 ≤ a → m' a = m a) ∧ Wd D' H' ∧ (∀ Q, Runs MX1_keep 0 [.ref 308, .ref 2] [] D m z Q = Q vJ D' (bM m' 2 c) z) ∧
    (∀ c2 f2 nF2 nT2, Rfc f2 c2 nF2 nT2 → WF f2 nF2 nT2 → ClS D' H' (bM m' 2 c2) f2 nF2 nT2 (min r 5 + 1) L (histP h r f) s b0 b1 ch) := by
  obtain ⟨h1, ⟨c, h2, h3⟩, h4, h5, h6, h7⟩ := C
  obtain ⟨D', H', m', k1, k2, k3, k4⟩ := x_keep (z := z) h1 h6 h2 h3 h4
  have hb : Blk m' 2 c := h2.cong (fun a _ _ => k3 a (by omega))
  refine ⟨c, D', H', m', hb, h3, fun a ha => k3 a (by omega), k1, fun Q => ?_, fun c2 f2 nF2 nT2 r2 w2 => ?_⟩
  · have : bM m' 2 c = m' := hb
    rw [k4, this]
  · refine ⟨k1, ⟨c2, Blk.mk, r2⟩, w2, ?_, ?_, ?_⟩
    · exact h5.cong (by rw [bM_o (by omega), k3 766 (by omega)]) (by rw [bM_o (by omega), k3 767 (by omega)])
    · exact k2.cong k1.2.2.2.2 (fun a _ _ => bM_o (by omega))
    · exact h7.cong (fun a _ _ => by rw [bM_o (by omega), k3 a (by omega)])
end OP6
