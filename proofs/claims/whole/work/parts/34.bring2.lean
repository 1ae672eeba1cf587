/-! what the model remembers, and bring -/
def MoS (m : vMM) (r L : Nat) (h s : Nat → Int32) (b0 b1 : Bool) (ch : Nat → Nat) : Prop := (m 853 3 = nI r ∧ r ≤ 6 ∧ m 856 = h ∧ m 857 = s) ∧ (m 858 0 = bI b0 ∧ m 858 1 = bI b1) ∧ PD m L ch ∧ ∃ p k, m 853 17 = nI p ∧ m 853 19 = nI k
section MOS
variable {D : vDD} {m : vMM} {f : Nat → Int32} {z : vZZ} {Q : Value → vDD → vMM → vZZ → Prop} {L r n : Nat} {ch : Nat → Nat} {h s : Nat → Int32} {b0 b1 : Bool}
theorem MoS.rec (H : MoS m r L h s b0 b1 ch) {g : Nat → Int32} : MoS (recM m g r) (min r 5 + 1) L (histP h r g) s b0 b1 ch := by
  obtain ⟨⟨a1, a2, a3, a4⟩, ⟨a5, a6⟩, ⟨a7, a8, a9⟩, p, k, a10, a11⟩ := H
  unfold recM
  refine ⟨⟨by rw [setR_eq, upd_eq], by omega, ?_, ?_⟩, ⟨?_, ?_⟩, ⟨?_, a8, fun j hj => ?_⟩, p, k, ?_, ?_⟩
  · rw [setR_ne (by decide), setR_eq, a3]
  · rw [setR_ne (by decide), setR_ne (by decide)]; exact a4
  · rw [setR_ne (by decide), setR_ne (by decide)]; exact a5
  · rw [setR_ne (by decide), setR_ne (by decide)]; exact a6
  · rw [setR_eq, upd_ne _ _ (by decide)]; exact a7
  · rw [setR_ne (by decide), setR_ne (by decide)]; exact a9 j hj
  · rw [setR_eq, upd_ne _ _ (by decide)]; exact a10
  · rw [setR_eq, upd_ne _ _ (by decide)]; exact a11
theorem MoS.rdp (H : MoS m r L h s b0 b1 ch) {p k : Nat} {w : Int32} {T : Nat → Int32} : MoS (pM m p k w T) r L h s b0 b1 ch := by
  obtain ⟨⟨a1, a2, a3, a4⟩, ⟨a5, a6⟩, ⟨a7, a8, a9⟩, _⟩ := H
  unfold pM
  refine ⟨⟨?_, a2, ?_, ?_⟩, ⟨?_, ?_⟩, ⟨?_, a8, fun j hj => ?_⟩, p, k, ?_, ?_⟩
  · rw [setR_eq, upd_ne _ _ (by decide), upd_ne _ _ (by decide), upd_ne _ _ (by decide)]; exact a1
  · rw [setR_ne (by decide), setR_ne (by decide)]; exact a3
  · rw [setR_ne (by decide), setR_ne (by decide)]; exact a4
  · rw [setR_ne (by decide), setR_ne (by decide)]; exact a5
  · rw [setR_ne (by decide), setR_ne (by decide)]; exact a6
  · rw [setR_eq, upd_ne _ _ (by decide), upd_ne _ _ (by decide), upd_ne _ _ (by decide)]; exact a7
  · rw [setR_ne (by decide), setR_ne (by decide)]; exact a9 j hj
  · rw [setR_eq, upd_ne _ _ (by decide), upd_ne _ _ (by decide), upd_eq]
  · rw [setR_eq, upd_ne _ _ (by decide), upd_eq]
theorem MoS.keep (H : MoS m r L h s b0 b1 ch) {g : Nat → Int32} : MoS (keepM m g) r L h s b0 b1 ch := by
  obtain ⟨⟨a1, a2, a3, a4⟩, ⟨a5, a6⟩, ⟨a7, a8, a9⟩, p, k, a10, a11⟩ := H
  unfold keepM
  refine ⟨⟨?_, a2, ?_, ?_⟩, ⟨?_, ?_⟩, ⟨?_, a8, fun j hj => ?_⟩, p, k, ?_, ?_⟩ <;> rw [setR_ne (by decide)] <;> first | assumption | exact a9 j hj
/-- the pad emptied -/
theorem MoS.wipe (H : MoS m r L h s b0 b1 ch) : MoS (up2 m 853 7 (nI 0)) r 0 h s b0 b1 ch := by
  obtain ⟨⟨a1, a2, a3, a4⟩, ⟨a5, a6⟩, ⟨a7, a8, a9⟩, p, k, a10, a11⟩ := H
  rw [up2_R]
  refine ⟨⟨?_, a2, ?_, ?_⟩, ⟨?_, ?_⟩, ⟨?_, by decide, fun j hj => absurd hj (Nat.not_lt_zero j)⟩, p, k, ?_, ?_⟩
  · rw [setR_eq, upd_ne _ _ (by decide)]; exact a1
  · rw [setR_ne (by decide)]; exact a3
  · rw [setR_ne (by decide)]; exact a4
  · rw [setR_ne (by decide)]; exact a5
  · rw [setR_ne (by decide)]; exact a6
  · rw [setR_eq, upd_eq]
  · rw [setR_eq, upd_ne _ _ (by decide)]; exact a10
  · rw [setR_eq, upd_ne _ _ (by decide)]; exact a11
theorem MoS.put (H : MoS m r L h s b0 b1 ch) {t : Nat} (ht : t = putN n) (hL : L + t ≤ 60) : MoS (ptM m L t n t) r (L + t) h s b0 b1 (apC n t L t ch) := by
  obtain ⟨⟨a1, a2, a3, a4⟩, ⟨a5, a6⟩, ⟨a7, a8, a9⟩, p, k, a10, a11⟩ := H
  refine ⟨⟨?_, a2, ?_, ?_⟩, ⟨?_, ?_⟩, ⟨ptM_7, hL, fun j hj => ?_⟩, p, k, ?_, ?_⟩ <;> unfold ptM
  · rw [setR_eq, upd_ne _ _ (by decide)]; exact a1
  · rw [setR_ne (by decide), setR_ne (by decide)]; exact a3
  · rw [setR_ne (by decide), setR_ne (by decide)]; exact a4
  · rw [setR_ne (by decide), setR_ne (by decide)]; exact a5
  · rw [setR_ne (by decide), setR_ne (by decide)]; exact a6
  · rw [setR_ne (by decide), setR_eq]
    unfold apR apC
    by_cases q : L ≤ j ∧ j < L + t
    · rw [if_pos q, if_pos q]
      exact ⟨rfl, putN_in (by omega)⟩
    · rw [if_neg q, if_neg q]
      exact a9 j (by omega)
  · rw [setR_eq, upd_ne _ _ (by decide)]; exact a10
  · rw [setR_eq, upd_ne _ _ (by decide)]; exact a11
theorem MoS.save (H : MoS m r L h s b0 b1 ch) {p : Nat} (hp : p < 2) {g : Nat → Int32} : MoS (saveM m g p) r L h (fun j => if 346 * p ≤ j ∧ j < 346 * p + 346 then g (j - 346 * p) else s j) (if p = 0 then true else b0) (if p = 1 then true else b1) ch := by
  obtain ⟨⟨a1, a2, a3, a4⟩, ⟨a5, a6⟩, ⟨a7, a8, a9⟩, p', k, a10, a11⟩ := H
  unfold saveM
  refine ⟨⟨?_, a2, ?_, ?_⟩, ⟨?_, ?_⟩, ⟨?_, a8, fun j hj => ?_⟩, p', k, ?_, ?_⟩
  · rw [setR_ne (by decide), setR_ne (by decide)]; exact a1
  · rw [setR_ne (by decide), setR_ne (by decide)]; exact a3
  · rw [setR_ne (by decide), setR_eq, a4]
  · rw [setR_eq]
    rcases (by omega : p = 0 ∨ p = 1) with rfl | rfl
    · rfl
    · rw [upd_ne _ _ (by decide)]; exact a5
  · rw [setR_eq]
    rcases (by omega : p = 0 ∨ p = 1) with rfl | rfl
    · rw [upd_ne _ _ (by decide)]; exact a6
    · rfl
  · rw [setR_ne (by decide), setR_ne (by decide)]; exact a7
  · rw [setR_ne (by decide), setR_ne (by decide)]; exact a9 j hj
  · rw [setR_ne (by decide), setR_ne (by decide)]; exact a10
  · rw [setR_ne (by decide), setR_ne (by decide)]; exact a11
theorem MoS.undo (H : MoS m (r + 1) L h s b0 b1 ch) : MoS (setR m 853 (upd (m 853) 3 (nI r))) r L h s b0 b1 ch := by
  obtain ⟨⟨a1, a2, a3, a4⟩, ⟨a5, a6⟩, ⟨a7, a8, a9⟩, p, k, a10, a11⟩ := H
  refine ⟨⟨by rw [setR_eq, upd_eq], by omega, ?_, ?_⟩, ⟨?_, ?_⟩, ⟨?_, a8, fun j hj => ?_⟩, p, k, ?_, ?_⟩
  · rw [setR_ne (by decide)]; exact a3
  · rw [setR_ne (by decide)]; exact a4
  · rw [setR_ne (by decide)]; exact a5
  · rw [setR_ne (by decide)]; exact a6
  · rw [setR_eq, upd_ne _ _ (by decide)]; exact a7
  · rw [setR_ne (by decide)]; exact a9 j hj
  · rw [setR_eq, upd_ne _ _ (by decide)]; exact a10
  · rw [setR_eq, upd_ne _ _ (by decide)]; exact a11
variable {nF nT : Nat}
theorem pM_lo {p k : Nat} {w : Int32} {T : Nat → Int32} {a : Nat} (ha : a < 853) : pM m p k w T a = m a := by
  unfold pM
  rw [setR_ne (by omega), setR_ne (by omega)]
theorem m_bring_bad (hM : IsMo D) (H : MoS m r L h s b0 b1 ch) (hf : ffR ch L (L + 1) 0 (m 866) ≠ m6) : ∃ m', (∀ a, a < 853 → m' a = m a) ∧ MoS m' r L h s b0 b1 ch ∧ ∀ Q, Runs MX7_bring 0 [.ref 853] [] D (eM m f) z Q = Q (.int m3) D (eM m' f) z := by
  have h1 := hM
  simp only [IsMo] at h1
  obtain ⟨p, k, hp, hk⟩ := H.2.2.2
  obtain ⟨p', k', w', T', e⟩ := c_findFault (D := D) (m := m) (f := f) (z := z) (L := L) (p := p) (k := k) (ch := ch) (w := m 853 20) (T := m 866) hM H.2.2.1
  rw [← q_self hp hk] at e
  refine ⟨pM m p' k' w' T', fun a ha => pM_lo ha, H.rdp, fun Q => ?_⟩
  simp (disch := omega) only [sX7_bring_0, sX7_bring_1, sX7_bring_4, sX7_bring_6, sX7_bring_9, sX7_bring_11, sX7_bring_12, sX7_bring_13, sX7_bring_16, sX7_bring_17, sX7_bring_18, sX7_bring_19, sX7_bring_22, sX7_bring_23, sX7_bring_25, sX7_bring_28, sX7_bring_30, h1, true_and, and_true, true_or, or_true, eq_self, ↓reduceIte, if_true, if_false, nI_add, nI_mul, inB_nI, nI_clamp, Nat.add_zero, eqI, ltI, leI, m6_ne, ne_m6, Nat.reduceEqDiff, reduceCtorEq, Nat.reduceLT, Nat.reduceLeDiff, Nat.reduceAdd, Nat.reduceMul, Nat.zero_add, Nat.mul_zero, nar_0, nar_1, nar_b, bI_t, bI_f, bI_0, bI_1, Bool.true_eq_false, Bool.false_eq_true, Bool.and_self, Bool.and_false, Bool.false_and, Bool.true_and, Bool.and_true, and_self, e, hf]
  rfl
theorem m_bring_many (hM : IsMo D) (H : MoS m r L h s b0 b1 ch) (h3 : gG f 3 = nI nT) (hn : nT ≤ 16) (hf : ffR ch L (L + 1) 0 (m 866) = m6) (hs : 16 < nT + (1 + smN ch L)) : ∃ m', (∀ a, a < 853 → m' a = m a) ∧ MoS m' r L h s b0 b1 ch ∧ ∀ Q, Runs MX7_bring 0 [.ref 853] [] D (eM m f) z Q = Q (.int m4) D (eM m' f) z := by
  have h1 := hM
  simp only [IsMo] at h1
  obtain ⟨p, k, hp, hk⟩ := H.2.2.2
  have hsm := smN_le ch L
  have h60 := H.2.2.1.2.1
  obtain ⟨p', k', w', T', e⟩ := c_findFault (D := D) (m := m) (f := f) (z := z) (L := L) (p := p) (k := k) (ch := ch) (w := m 853 20) (T := m 866) hM H.2.2.1
  rw [← q_self hp hk] at e
  have H' : MoS (pM m p' k' w' T') r L h s b0 b1 ch := H.rdp
  refine ⟨pM m p' k' w' T', fun a ha => pM_lo ha, H', fun Q => ?_⟩
  have hP' : PD (qM m f p' k' w' T') L ch := by
    obtain ⟨a, b, c⟩ := H'.2.2.1
    refine ⟨?_, b, fun j hj => ?_⟩
    · unfold qM; rw [eM_fld (by decide) (by decide) (by decide)]; exact a
    · unfold qM; rw [eM_oth (by decide) (by decide)]; exact c j hj
  have g3 : qM m f p' k' w' T' 854 3 = nI nT := by
    unfold qM
    rw [eM_gG (by decide), h3]
  have ng : ¬ nT + (1 + smN ch L) ≤ 16 := by omega
  simp (disch := omega) only [sX7_bring_0, sX7_bring_1, sX7_bring_4, sX7_bring_6, sX7_bring_9, sX7_bring_11, sX7_bring_12, sX7_bring_13, sX7_bring_16, sX7_bring_17, sX7_bring_18, sX7_bring_19, sX7_bring_22, sX7_bring_23, sX7_bring_25, sX7_bring_28, sX7_bring_30, h1, true_and, and_true, true_or, or_true, eq_self, ↓reduceIte, if_true, if_false, nI_add, nI_mul, inB_nI, nI_clamp, Nat.add_zero, eqI, ltI, leI, m6_ne, ne_m6, Nat.reduceEqDiff, reduceCtorEq, Nat.reduceLT, Nat.reduceLeDiff, Nat.reduceAdd, Nat.reduceMul, Nat.zero_add, Nat.mul_zero, nar_0, nar_1, nar_b, bI_t, bI_f, bI_0, bI_1, Bool.true_eq_false, Bool.false_eq_true, Bool.and_self, Bool.and_false, Bool.false_and, Bool.true_and, Bool.and_true, and_self, e, hf, c_toldMany hM hP', g3, ng]
  rfl
theorem m_bring (hM : IsMo D) (H : MoS m r L h s b0 b1 ch) (hW : WF f nF nT) (hf : ffR ch L (L + 1) 0 (m 866) = m6) (hf2 : ∀ T, ffR ch L (L + 1) 0 T = m6) (hs : nT + (1 + smN ch L) ≤ 16) : ∃ m' T, (∀ a, a < 853 → m' a = m a) ∧ WF (brF ch L (L + 1) 0 nT T f) nF (nT + (1 + smN ch L)) ∧ MoS m' (min r 5 + 1) 0 (histP h r f) s b0 b1 ch ∧ ∀ Q, Runs MX7_bring 0 [.ref 853] [] D (eM m f) z Q = Q (.int (nI (nT + (1 + smN ch L)))) D (eM m' (brF ch L (L + 1) 0 nT T f)) z := by
  have h1 := hM
  simp only [IsMo] at h1
  obtain ⟨p, k, hp, hk⟩ := H.2.2.2
  have hsm := smN_le ch L
  have h60 := H.2.2.1.2.1
  obtain ⟨p', k', w', T', e⟩ := c_findFault (D := D) (m := m) (f := f) (z := z) (L := L) (p := p) (k := k) (ch := ch) (w := m 853 20) (T := m 866) hM H.2.2.1
  rw [← q_self hp hk] at e
  have H' : MoS (pM m p' k' w' T') r L h s b0 b1 ch := H.rdp
  have hP' : PD (qM m f p' k' w' T') L ch := by
    obtain ⟨a, b, c⟩ := H'.2.2.1
    refine ⟨?_, b, fun j hj => ?_⟩
    · unfold qM; rw [eM_fld (by decide) (by decide) (by decide)]; exact a
    · unfold qM; rw [eM_oth (by decide) (by decide)]; exact c j hj
  have g3 : qM m f p' k' w' T' 854 3 = nI nT := by
    unfold qM
    rw [eM_gG (by decide)]
    exact hW.1.2.2.1
  have H2 : MoS (recM (pM m p' k' w' T') f r) (min r 5 + 1) L (histP h r f) s b0 b1 ch := H'.rec
  have rc : ∀ Q, Runs MX7_record 0 [.ref 853, vJ] [] D (qM m f p' k' w' T') z Q = Q vJ D (eM (recM (pM m p' k' w' T') f r) f) z := fun Q => c_record hM H'.1.1 H'.1.2.1
  obtain ⟨p2, k2, e17, e19⟩ := H2.2.2.2
  have fr : ∀ a, a < 853 → recM (pM m p' k' w' T') f r a = m a := fun a ha => by
    unfold recM
    rw [setR_ne (by omega), setR_ne (by omega), pM_lo ha]
  generalize recM (pM m p' k' w' T') f r = mr at H2 rc e17 e19 fr
  have u17 : up2 (eM mr f) 853 17 (nI 0) = qM mr f 0 k2 (mr 853 20) (mr 866) := by
    rw [q_self e17 e19, q_pat]
  obtain ⟨p3, k3, w3, T3, lW, lb⟩ := l_bring (D := D) (m := mr) (z := z) (L := L) (ch := ch) (nF := nF) hM H2.2.2.1 (L + 1) 0 nT k2 (mr 853 20) (mr 866) f (by omega) (hf2 _) (Nat.zero_le _) hW (by simp only [smN]; omega)
  have e3 : nT + 1 + smN ch L - smN ch 0 = nT + (1 + smN ch L) := by simp only [smN]; omega
  rw [e3] at lW lb
  have ew : up2 (qM mr (brF ch L (L + 1) 0 nT (mr 866) f) p3 k3 w3 T3) 853 7 (nI 0) = eM (up2 (pM mr p3 k3 w3 T3) 853 7 (nI 0)) (brF ch L (L + 1) 0 nT (mr 866) f) := by
    unfold qM
    rw [eM_upf (by decide) (by decide) (by decide)]
  rw [ew] at lb
  refine ⟨up2 (pM mr p3 k3 w3 T3) 853 7 (nI 0), mr 866, fun a ha => by rw [up2_ne (by omega), pM_lo ha, fr a ha], lW, H2.rdp.wipe, fun Q => ?_⟩
  simp (disch := omega) only [sX7_bring_0, sX7_bring_1, sX7_bring_4, sX7_bring_6, sX7_bring_9, sX7_bring_11, sX7_bring_12, sX7_bring_13, sX7_bring_16, sX7_bring_17, sX7_bring_18, sX7_bring_19, sX7_bring_22, sX7_bring_23, sX7_bring_25, sX7_bring_28, sX7_bring_30, sX7_bring_31, sX7_bring_32, sX7_bring_35, sX7_bring_36, sX7_bring_37, h1, true_and, and_true, true_or, or_true, eq_self, ↓reduceIte, if_true, if_false, nI_add, nI_mul, inB_nI, nI_clamp, Nat.add_zero, eqI, ltI, leI, m6_ne, ne_m6, Nat.reduceEqDiff, reduceCtorEq, Nat.reduceLT, Nat.reduceLeDiff, Nat.reduceAdd, Nat.reduceMul, Nat.zero_add, Nat.mul_zero, nar_0, nar_1, nar_b, bI_t, bI_f, bI_0, bI_1, Bool.true_eq_false, Bool.false_eq_true, Bool.and_self, Bool.and_false, Bool.false_and, Bool.true_and, Bool.and_true, and_self, e, hf, c_toldMany hM hP', g3, hs, rc, u17, lb]
end MOS
