/-! where everything lies; what is kept -/
theorem IsM.cong {D D' : vDD} {b : Nat} (h : IsM D b) (e : ∀ a, b ≤ a → a < b + 76 → D' a = D a) : IsM D' b := by
  obtain ⟨h1, h2, h3, h4, h5, h6, h7, h8, h9, h10, h11, h12, h13, h14, h15⟩ := h
  refine ⟨?_, ?_, fun i hi => ?_, fun i hi => ?_, fun t ht => ?_, fun t ht => ?_, fun t ht => ?_, fun t ht => ?_, fun t ht => ?_, fun t ht => ?_, fun t ht => ?_, fun t ht => ?_, fun t ht => ?_, fun t ht => ?_, fun t ht => ?_⟩
  · rw [e b (by omega) (by omega)]; exact h1
  · rw [e (b + 1) (by omega) (by omega), e (b + 2) (by omega) (by omega), e (b + 3) (by omega) (by omega)]; exact h2
  · rw [e _ (by omega) (by omega)]; exact h3 i hi
  · rw [e _ (by omega) (by omega)]; exact h4 i hi
  · rw [e _ (by omega) (by omega)]; exact h5 t ht
  · rw [e _ (by omega) (by omega)]; exact h6 t ht
  · rw [e _ (by omega) (by omega)]; exact h7 t ht
  · rw [e _ (by omega) (by omega)]; exact h8 t ht
  · rw [e _ (by omega) (by omega)]; exact h9 t ht
  · rw [e _ (by omega) (by omega)]; exact h10 t ht
  · rw [e _ (by omega) (by omega)]; exact h11 t ht
  · rw [e _ (by omega) (by omega)]; exact h12 t ht
  · rw [e _ (by omega) (by omega)]; exact h13 t ht
  · rw [e _ (by omega) (by omega)]; exact h14 t ht
  · rw [e _ (by omega) (by omega)]; exact h15 t ht
def IsMM (D : vDD) : Prop := ((D 1).1 = 6 ∧ (D 1).2.2 0 = some 2 ∧ (D 1).2.2 1 = some 78 ∧ (D 1).2.2 2 = some 154 ∧ (D 1).2.2 3 = some 307 ∧ (D 1).2.2 4 = some 308 ∧ (D 1).2.2 5 = some 766 ∧ (D 1).2.2 6 = some 849) ∧ ((D 154).1 = 11 ∧ (D 154).2.1 = 2 ∧ (D 154).2.2 0 = some 155 ∧ (D 154).2.2 1 = some 231) ∧ ((D 307).1 = 9 ∧ (D 307).2.1 = 2) ∧ ((D 308).1 = 1 ∧ (D 308).2.2 0 = some 309)
def IsHi (D : vDD) (H : Nat → Nat) : Prop := ((D 309).1 = 11 ∧ (D 309).2.1 = 6) ∧ (∀ k, k < 6 → (D 309).2.2 k = some (310 + 76 * H k)) ∧ (∀ k, k < 6 → H k < 6) ∧ ∀ j k, j < 6 → k < 6 → H j = H k → j = k
def Wd (D : vDD) (H : Nat → Nat) : Prop := IsMM D ∧ (IsM D 2 ∧ IsM D 78 ∧ IsM D 155 ∧ IsM D 231 ∧ ∀ k, k < 6 → IsM D (310 + 76 * k)) ∧ IsPad D ∧ IsPl D ∧ IsHi D H
theorem IsMM.cong {D D' : vDD} (h : IsMM D) (e : ∀ a, a ≠ 309 → a ≠ 766 → D' a = D a) : IsMM D' := by
  unfold IsMM at h ⊢
  rw [e 1 (by decide) (by decide), e 154 (by decide) (by decide), e 307 (by decide) (by decide), e 308 (by decide) (by decide)]
  exact h
theorem IsPl.cong {D D' : vDD} (h : IsPl D) (e : ∀ a, a ≠ 309 → a ≠ 766 → D' a = D a) : IsPl D' := by
  unfold IsPl at h ⊢
  rw [e 849 (by decide) (by decide), e 850 (by decide) (by decide), e 851 (by decide) (by decide), e 852 (by decide) (by decide)]
  exact h
theorem IsPad.cong {D D' : vDD} (h : IsPad D) (e : ∀ a, a ≠ 309 → D' a = D a) : IsPad D' := by
  unfold IsPad at h ⊢
  rw [e 766 (by decide), e 767 (by decide), e 768 (by decide)]
  exact ⟨h.1, h.2.1, h.2.2.1, fun j hj => (h.2.2.2 j hj).cong (fun a h1 h2 => e a (by omega))⟩
theorem Wd.de {D D' : vDD} {H : Nat → Nat} (h : Wd D H) (d : DE D D') : Wd D' H := by
  obtain ⟨h1, ⟨h2, h3, h4, h5, h6⟩, h7, h8, h10⟩ := h
  have e : ∀ a, a ≠ 766 → D' a = D a := fun a ha => d.q ha
  refine ⟨h1.cong (fun a _ h => e a h), ⟨h2.cong (fun a _ _ => e a (by omega)), h3.cong (fun a _ _ => e a (by omega)), h4.cong (fun a _ _ => e a (by omega)), h5.cong (fun a _ _ => e a (by omega)), fun k hk => (h6 k hk).cong (fun a _ _ => e a (by omega))⟩, d.pad h7, h8.cong (fun a _ h => e a h), ?_⟩
  unfold IsHi at h10 ⊢
  rw [e 309 (by decide)]
  exact h10
theorem Wd.hi {D D' : vDD} {H H' : Nat → Nat} (h : Wd D H) (e : ∀ a, a ≠ 309 → D' a = D a) (h' : IsHi D' H') : Wd D' H' := by
  obtain ⟨h1, ⟨h2, h3, h4, h5, h6⟩, h7, h8, -⟩ := h
  exact ⟨h1.cong (fun a h _ => e a h), ⟨h2.cong (fun a _ _ => e a (by omega)), h3.cong (fun a _ _ => e a (by omega)), h4.cong (fun a _ _ => e a (by omega)), h5.cong (fun a _ _ => e a (by omega)), fun k hk => (h6 k hk).cong (fun a _ _ => e a (by omega))⟩, h7.cong e, h8.cong (fun a h _ => e a h), h'⟩
/-- the block at b holds what g says -/
def Sv (m : vMM) (b : Nat) (g : Nat → Int32) : Prop := ∃ c nF nT, Blk m b c ∧ Rfc g c nF nT ∧ WF g nF nT
theorem Sv.cong {m m' : vMM} {b : Nat} {g : Nat → Int32} (h : Sv m b g) (e : ∀ a, b ≤ a → a < b + 76 → m' a = m a) : Sv m' b g := by
  obtain ⟨c, nF, nT, h1, h2, h3⟩ := h
  exact ⟨c, nF, nT, h1.cong e, h2, h3⟩
theorem Rfc.extf {f g c : Nat → Int32} {nF nT : Nat} (h : Rfc f c nF nT) (h8 : nF ≤ 8) (h16 : nT ≤ 16) (e : ∀ k, k < 346 → g k = f k) : Rfc g c nF nT := by
  have eG : ∀ k, k < 10 → gG g k = gG f k := fun k hk => e k (by omega)
  have eF : ∀ i, i < nF → ∀ k, k < 6 → gF g i k = gF f i k := fun i hi k hk => e _ (by omega)
  have eT : ∀ t, t < nT → ∀ k, k < 18 → gT g t k = gT f t k := fun t ht k hk => e _ (by omega)
  refine ⟨fun k hk => (h.1 k hk).trans (eG k hk).symm, fun i hi k hk => (h.2.1 i hi k hk).trans (eF i hi k hk).symm, fun t ht => ?_⟩
  obtain ⟨h1, h2, h3⟩ := h.2.2 t ht
  refine ⟨fun k hk h3 => (h1 k hk h3).trans (eT t ht k (by omega)).symm, ?_, fun s n hn hs h4 w hw => ?_⟩
  · rw [eT t ht 0 (by decide), eT t ht 3 (by decide)]; exact h2
  · rw [eT t ht 1 (by decide)] at hn
    rw [eT t ht _ (by omega)]
    exact h3 s n hn hs h4 w hw
theorem WF.extf {f g : Nat → Int32} {nF nT : Nat} (h : WF f nF nT) (e : ∀ k, k < 346 → g k = f k) : WF g nF nT :=
  h.same (fun k hk => e k (by omega)) (fun u k hu hk => e _ (by omega)) (fun j k hj hk => e _ (by omega))
theorem Sv.extf {m : vMM} {b : Nat} {f g : Nat → Int32} (h : Sv m b f) (e : ∀ k, k < 346 → g k = f k) : Sv m b g := by
  obtain ⟨c, nF, nT, h1, h2, h3⟩ := h
  exact ⟨c, nF, nT, h1, h2.extf h3.1.2.1 h3.1.2.2.2 e, h3.extf e⟩
def HiM (m : vMM) (H : Nat → Nat) (r : Nat) (h : Nat → Int32) : Prop := m 308 1 = nI r ∧ r ≤ 6 ∧ ∀ j, j < r → Sv m (310 + 76 * H j) (fun k => h (346 * j + k))
def SaM (m : vMM) (s : Nat → Int32) (b0 b1 : Bool) : Prop := (m 307 0 = bI b0 ∧ m 307 1 = bI b1) ∧ (b0 = true → Sv m 155 (fun k => s (346 * 0 + k))) ∧ (b1 = true → Sv m 231 (fun k => s (346 * 1 + k)))
theorem HiM.cong {m m' : vMM} {D : vDD} {H : Nat → Nat} {r : Nat} {h : Nat → Int32} (hh : HiM m H r h) (hH : IsHi D H) (e : ∀ a, 308 ≤ a → a < 766 → m' a = m a) : HiM m' H r h := by
  obtain ⟨h1, h2, h3⟩ := hh
  refine ⟨by rw [e 308 (by decide) (by decide)]; exact h1, h2, fun j hj => (h3 j hj).cong (fun a a1 a2 => ?_)⟩
  have := hH.2.2.1 j (by omega)
  exact e a (by omega) (by omega)
theorem SaM.cong {m m' : vMM} {s : Nat → Int32} {b0 b1 : Bool} (h : SaM m s b0 b1) (e : ∀ a, 155 ≤ a → a < 308 → m' a = m a) : SaM m' s b0 b1 := by
  obtain ⟨⟨h1, h2⟩, h3, h4⟩ := h
  refine ⟨⟨?_, ?_⟩, fun q => (h3 q).cong (fun a a1 a2 => e a (by omega) (by omega)), fun q => (h4 q).cong (fun a a1 a2 => e a (by omega) (by omega))⟩
  · rw [e 307 (by decide) (by decide)]; exact h1
  · rw [e 307 (by decide) (by decide)]; exact h2
theorem elK11 : elK 11 = 2 := rfl
/-! the history's ring -/
def rtH (H : Nat → Nat) (i : Nat) : Nat → Nat := fun k => if k + 1 < i then H (k + 1) else H k
def hD (D : vDD) (H : Nat → Nat) : vDD := fun q => if q = 309 then ((D 309).1, (D 309).2.1, fun k => if k < 6 then some (310 + 76 * H k) else (D 309).2.2 k) else D q
section HIS
variable {D : vDD} {m : vMM} {z : vZZ} {Q : Value → vDD → vMM → vZZ → Prop} {H : Nat → Nat}
theorem hD_1 {q : Nat} : (hD D H q).1 = (D q).1 := by
  unfold hD
  by_cases e : q = 309
  · subst e; rw [if_pos rfl]
  · rw [if_neg e]
theorem hD_2 {q : Nat} : (hD D H q).2.1 = (D q).2.1 := by
  unfold hD
  by_cases e : q = 309
  · subst e; rw [if_pos rfl]
  · rw [if_neg e]
theorem hD_k {k : Nat} (h : k < 6) : (hD D H 309).2.2 k = some (310 + 76 * H k) := by
  unfold hD
  rw [if_pos rfl]
  exact if_pos h
theorem hD_q {q : Nat} (h : q ≠ 309) : hD D H q = D q := if_neg h
theorem hD_w {k x : Nat} (h : k < 6) : upR (hD D H) 309 k (some (310 + 76 * x)) = hD D (fun j => if j = k then x else H j) := by
  funext q
  unfold upR hD
  by_cases e : q = 309
  · subst e
    rw [if_pos rfl, if_pos rfl, if_pos rfl]
    simp only [Prod.mk.injEq, true_and]
    funext j
    by_cases e2 : j = k
    · subst e2
      rw [if_pos rfl, if_pos h, if_pos rfl]
    · rw [if_neg e2]
      by_cases e3 : j < 6
      · rw [if_pos e3, if_pos e3, if_neg e2]
      · rw [if_neg e3, if_neg e3]
  · rw [if_neg e, if_neg e, if_neg e]
theorem hD_self (hH : IsHi D H) : hD D H = D := by
  funext q
  unfold hD
  by_cases e : q = 309
  · subst e
    rw [if_pos rfl]
    have : (fun k => if k < 6 then some (310 + 76 * H k) else (D 309).2.2 k) = (D 309).2.2 := by
      funext k
      by_cases e3 : k < 6
      · rw [if_pos e3, hH.2.1 k e3]
      · rw [if_neg e3]
    rw [this]
  · rw [if_neg e]
theorem l_drop (hM : (D 308).1 = 1 ∧ (D 308).2.2 0 = some 309) (hI : (D 309).1 = 11 ∧ (D 309).2.1 = 6) (hK : ∀ k, k < 6 → (D (310 + 76 * H k)).1 = 2) {v : Value} : ∀ k i, i + k = 6 → 1 ≤ i → Runs MX1_dropOldest 9 [.ref 308, v, .int (nI i)] [] (hD D (rtH H i)) m z Q = Runs MX1_dropOldest 35 [.ref 308, v, .int (nI 6)] [] (hD D (rtH H 6)) m z Q := by
  intro k
  induction k with
  | zero =>
    intro i hi h1
    obtain rfl : i = 6 := by omega
    rw [sX1_dropOldest_9]
    simp (disch := omega) only [sX1_dropOldest_10, sX1_dropOldest_12, sX1_dropOldest_15, sX1_dropOldest_16, sX1_dropOldest_19, sX1_dropOldest_20, sX1_dropOldest_21, sX1_dropOldest_22, sX1_dropOldest_23, sX1_dropOldest_26, sX1_dropOldest_27, sX1_dropOldest_28, sX1_dropOldest_29, sX1_dropOldest_32, true_and, and_true, true_or, or_true, eq_self, ↓reduceIte, if_true, if_false, nI_add, nI_mul, inB_nI, nI_clamp, Nat.add_zero, eqI, ltI, leI, m6_ne, ne_m6, Nat.reduceEqDiff, reduceCtorEq, Nat.reduceLT, Nat.reduceLeDiff, Nat.reduceAdd, Nat.reduceMul, Nat.zero_add, Nat.mul_zero, nar_0, nar_1, nar_b, bI_t, bI_f, bI_0, bI_1, Bool.true_eq_false, Bool.false_eq_true, Bool.and_self, Bool.and_false, Bool.false_and, Bool.true_and, Bool.and_true, and_self, Nat.le_refl]
  | succ k ih =>
    intro i hi h1
    have ih := ih (i + 1) (by omega) (by omega)
    have hlt : ¬ 6 ≤ i := by omega
    have e : nI i - nI 1 = nI (i - 1) := nI_sub _ _ h1
    have hr : rtH H i i = H i := if_neg (by omega)
    have hw : (fun j => if j = i - 1 then H i else rtH H i j) = rtH H (i + 1) := by
      funext j
      unfold rtH
      by_cases h : j = i - 1
      · subst h
        rw [if_pos rfl, if_pos (by omega), (by omega : i - 1 + 1 = i)]
      · rw [if_neg h]
        by_cases h2 : j + 1 < i
        · rw [if_pos h2, if_pos (by omega)]
        · rw [if_neg h2, if_neg (by omega)]
    have hq : (308 : Nat) ≠ 309 := by decide
    have hk := hK i (by omega)
    rw [sX1_dropOldest_9]
    simp (disch := omega) only [sX1_dropOldest_10, sX1_dropOldest_12, sX1_dropOldest_15, sX1_dropOldest_16, sX1_dropOldest_19, sX1_dropOldest_20, sX1_dropOldest_21, sX1_dropOldest_22, sX1_dropOldest_23, sX1_dropOldest_26, sX1_dropOldest_27, sX1_dropOldest_28, sX1_dropOldest_29, sX1_dropOldest_32, hD_1, hD_2, hD_q, hM, hI, true_and, and_true, true_or, or_true, eq_self, ↓reduceIte, if_true, if_false, nI_add, nI_mul, inB_nI, nI_clamp, Nat.add_zero, eqI, ltI, leI, m6_ne, ne_m6, Nat.reduceEqDiff, reduceCtorEq, Nat.reduceLT, Nat.reduceLeDiff, Nat.reduceAdd, Nat.reduceMul, Nat.zero_add, Nat.mul_zero, nar_0, nar_1, nar_b, bI_t, bI_f, bI_0, bI_1, Bool.true_eq_false, Bool.false_eq_true, Bool.and_self, Bool.and_false, Bool.false_and, Bool.true_and, Bool.and_true, and_self, hlt, e, hD_k, hr, elK11, hk, hD_w, hw, ih, Nat.le_refl]
theorem x_drop (hW : Wd D H) : Runs MX1_dropOldest 0 [.ref 308, vJ, vJ] [] D m z Q = Q vJ (hD D (fun j => if j = 5 then H 0 else rtH H 6 j)) (up2 m 308 1 (nI 5)) z := by
  obtain ⟨⟨-, -, -, hM⟩, ⟨-, -, -, -, hB⟩, -, -, hI⟩ := hW
  have hK : ∀ k, k < 6 → (D (310 + 76 * H k)).1 = 2 := fun k hk => (hB (H k) (hI.2.2.1 k hk)).1.1
  have l := l_drop (D := D) (m := m) (z := z) (Q := Q) (H := H) hM hI.1 hK (v := .ref (310 + 76 * H 0)) 5 1 (by decide) (by decide)
  have e1 : rtH H 1 = H := by
    funext k
    unfold rtH
    rw [if_neg (by omega)]
  rw [e1, hD_self hI] at l
  have h0 := hI.2.1 0 (by decide)
  have k0 := hK 0 (by decide)
  simp (disch := omega) only [sX1_dropOldest_0, sX1_dropOldest_1, sX1_dropOldest_4, sX1_dropOldest_5, sX1_dropOldest_6, sX1_dropOldest_7, sX1_dropOldest_8, sX1_dropOldest_35, sX1_dropOldest_36, sX1_dropOldest_39, sX1_dropOldest_40, sX1_dropOldest_41, sX1_dropOldest_42, sX1_dropOldest_43, sX1_dropOldest_44, sX1_dropOldest_47, hM, hI.1, true_and, and_true, true_or, or_true, eq_self, ↓reduceIte, if_true, if_false, nI_add, nI_mul, inB_nI, nI_clamp, Nat.add_zero, eqI, ltI, leI, m6_ne, ne_m6, Nat.reduceEqDiff, reduceCtorEq, Nat.reduceLT, Nat.reduceLeDiff, Nat.reduceAdd, Nat.reduceMul, Nat.zero_add, Nat.mul_zero, nar_0, nar_1, nar_b, bI_t, bI_f, bI_0, bI_1, Bool.true_eq_false, Bool.false_eq_true, Bool.and_self, Bool.and_false, Bool.false_and, Bool.true_and, Bool.and_true, and_self, h0, l, hD_1, hD_2, hD_q, elK11, k0, hD_w, Nat.le_refl, Nat.reduceLeDiff]
def roH (H : Nat → Nat) : Nat → Nat := fun j => if j = 5 then H 0 else rtH H 6 j
theorem roH_hi (hH : IsHi D H) : IsHi (hD D (roH H)) (roH H) := by
  obtain ⟨⟨h1, h2⟩, h3, h4, h5⟩ := hH
  have e5 : roH H 5 = H 0 := rfl
  have ek : ∀ k, k < 5 → roH H k = H (k + 1) := fun k hk => by
    unfold roH rtH
    rw [if_neg (by omega), if_pos (by omega)]
  refine ⟨⟨by rw [hD_1]; exact h1, by rw [hD_2]; exact h2⟩, fun k hk => hD_k hk, fun k hk => ?_, fun j k hj hk e => ?_⟩
  · by_cases h : k = 5
    · subst h; rw [e5]; exact h4 0 (by decide)
    · rw [ek k (by omega)]; exact h4 (k + 1) (by omega)
  · by_cases hj5 : j = 5
    · subst hj5
      by_cases hk5 : k = 5
      · exact hk5.symm
      · rw [e5, ek k (by omega)] at e
        have := h5 0 (k + 1) (by decide) (by omega) e
        omega
    · by_cases hk5 : k = 5
      · subst hk5
        rw [e5, ek j (by omega)] at e
        have := h5 (j + 1) 0 (by omega) (by decide) e
        omega
      · rw [ek j (by omega), ek k (by omega)] at e
        have := h5 (j + 1) (k + 1) (by omega) (by omega) e
        omega
/-- keeping -/
theorem x_keep {f c h : Nat → Int32} {nF nT r : Nat} (hW : Wd D H) (hh : HiM m H r h) (hm : Blk m 2 c) (hR : Rfc f c nF nT) (hF : WF f nF nT) : ∃ D' H' m', Wd D' H' ∧ HiM m' H' (min r 5 + 1) (histP h r f) ∧ (∀ a, a < 308 ∨ 766 ≤ a → m' a = m a) ∧ ∀ Q, Runs MX1_keep 0 [.ref 308, .ref 2] [] D m z Q = Q vJ D' m' z := by
  have go : ∀ (D1 : vDD) (H1 : Nat → Nat) (m1 : vMM) (r1 : Nat), Wd D1 H1 → r1 ≤ 5 → m1 308 1 = nI r1 → Blk m1 2 c → r1 = min r 5 → (∀ j, j < r1 → Sv m1 (310 + 76 * H1 j) (fun k => histP h r f (346 * j + k))) →
      ∃ m', HiM m' H1 (min r 5 + 1) (histP h r f) ∧ (∀ a, a < 308 ∨ 766 ≤ a → m' a = m1 a) ∧ ∀ Q, Runs MX1_keep 13 [.ref 308, .ref 2] [] D1 m1 z Q = Q vJ D1 m' z := by
    intro D1 H1 m1 r1 hW1 h5 h1 hm1 hr hS
    obtain ⟨⟨-, -, -, hM⟩, ⟨hB2, -, -, -, hB⟩, -, -, hI⟩ := hW1
    have hx := hI.2.2.1 r1 (by omega)
    obtain ⟨c1, rc, y⟩ := x_copyR (D := D1) (m := m1) (z := z) (b := 310 + 76 * H1 r1) (a := 2) (hB _ hx) hB2 hm1 (by omega) hR hF
    have hx2 := hI.2.1 r1 (by omega)
    have g1 : bM m1 (310 + 76 * H1 r1) c1 308 = m1 308 := bM_o (by omega)
    refine ⟨up2 (bM m1 (310 + 76 * H1 r1) c1) 308 1 (nI (r1 + 1)), ⟨by rw [up2_eq, upd_eq, hr], by omega, fun j hj => ?_⟩, fun a ha => ?_, fun Q => ?_⟩
    · by_cases e : j = r1
      · subst e
        have : Sv (up2 (bM m1 (310 + 76 * H1 j) c1) 308 1 (nI (j + 1))) (310 + 76 * H1 j) f := ⟨c1, nF, nT, Blk.mk.cong (fun a a1 a2 => up2_ne (by omega)), rc, hF⟩
        refine this.extf (fun k hk => ?_)
        unfold histP
        rw [← hr, if_pos (by omega)]
        congr 1
        omega
      · have hjr : j < r1 := by omega
        have hne : H1 j ≠ H1 r1 := fun q => e (hI.2.2.2 j r1 (by omega) (by omega) q)
        exact (hS j hjr).cong (fun a a1 a2 => by rw [up2_ne (by omega), bM_o (by omega)])
    · rw [up2_ne (by omega), bM_o (by omega)]
    · simp (disch := omega) only [sX1_keep_13, sX1_keep_14, sX1_keep_17, sX1_keep_18, sX1_keep_21, sX1_keep_22, sX1_keep_23, sX1_keep_26, sX1_keep_27, sX1_keep_28, sX1_keep_31, sX1_keep_32, sX1_keep_33, sX1_keep_36, hM, hI.1, (hB _ hx).1.1, true_and, and_true, true_or, or_true, eq_self, ↓reduceIte, if_true, if_false, nI_add, nI_mul, inB_nI, nI_clamp, Nat.add_zero, eqI, ltI, leI, m6_ne, ne_m6, Nat.reduceEqDiff, reduceCtorEq, Nat.reduceLT, Nat.reduceLeDiff, Nat.reduceAdd, Nat.reduceMul, Nat.zero_add, Nat.mul_zero, nar_0, nar_1, nar_b, bI_t, bI_f, bI_0, bI_1, Bool.true_eq_false, Bool.false_eq_true, Bool.and_self, Bool.and_false, Bool.false_and, Bool.true_and, Bool.and_true, and_self, h1, hx2, y, g1]
  obtain ⟨a1, a2, a3⟩ := id hh
  obtain ⟨⟨-, -, -, hM⟩, -, -, -, hI⟩ := id hW
  by_cases h6 : r = 6
  · subst h6
    have hI2 := roH_hi hI
    have hW2 : Wd (hD D (roH H)) (roH H) := hW.hi (fun a ha => hD_q ha) hI2
    obtain ⟨m', b1, b2, b3⟩ := go (hD D (roH H)) (roH H) (up2 m 308 1 (nI 5)) 5 hW2 (by decide) (by rw [up2_eq, upd_eq]) (hm.cong (fun a _ _ => up2_ne (by omega))) (by decide) (fun j hj => by
      have e : roH H j = H (j + 1) := by
        unfold roH rtH
        rw [if_neg (by omega), if_pos (by omega)]
      rw [e]
      refine ((a3 (j + 1) (by omega)).cong (fun a _ _ => up2_ne (by omega))).extf (fun k hk => ?_)
      unfold histP shR
      rw [if_neg (by omega), if_pos rfl, if_pos (by omega)]
      congr 1
      omega)
    refine ⟨_, _, m', hW2, b1, fun a ha => by rw [b2 a ha, up2_ne (by omega)], fun Q => ?_⟩
    have dr := fun Q => x_drop (D := D) (m := m) (z := z) (Q := Q) hW
    have er : (fun j => if j = 5 then H 0 else rtH H 6 j) = roH H := rfl
    rw [er] at dr
    simp (disch := omega) only [sX1_keep_0, sX1_keep_1, sX1_keep_4, sX1_keep_6, sX1_keep_9, sX1_keep_10, hM, true_and, and_true, true_or, or_true, eq_self, ↓reduceIte, if_true, if_false, nI_add, nI_mul, inB_nI, nI_clamp, Nat.add_zero, eqI, ltI, leI, m6_ne, ne_m6, Nat.reduceEqDiff, reduceCtorEq, Nat.reduceLT, Nat.reduceLeDiff, Nat.reduceAdd, Nat.reduceMul, Nat.zero_add, Nat.mul_zero, nar_0, nar_1, nar_b, bI_t, bI_f, bI_0, bI_1, Bool.true_eq_false, Bool.false_eq_true, Bool.and_self, Bool.and_false, Bool.false_and, Bool.true_and, Bool.and_true, and_self, a1, dr, b3]
  · obtain ⟨m', b1, b2, b3⟩ := go D H m r hW (by omega) a1 hm (by omega) (fun j hj => (a3 j hj).extf (fun k hk => by
      unfold histP
      rw [if_neg (by omega), if_neg h6]))
    refine ⟨D, H, m', hW, b1, b2, fun Q => ?_⟩
    have hlt : r < 6 := by omega
    have hlt2 : ¬ 6 ≤ r := by omega
    simp (disch := omega) only [sX1_keep_0, sX1_keep_1, sX1_keep_4, sX1_keep_6, sX1_keep_9, sX1_keep_10, hM, true_and, and_true, true_or, or_true, eq_self, ↓reduceIte, if_true, if_false, nI_add, nI_mul, inB_nI, nI_clamp, Nat.add_zero, eqI, ltI, leI, m6_ne, ne_m6, Nat.reduceEqDiff, reduceCtorEq, Nat.reduceLT, Nat.reduceLeDiff, Nat.reduceAdd, Nat.reduceMul, Nat.zero_add, Nat.mul_zero, nar_0, nar_1, nar_b, bI_t, bI_f, bI_0, bI_1, Bool.true_eq_false, Bool.false_eq_true, Bool.and_self, Bool.and_false, Bool.false_and, Bool.true_and, Bool.and_true, and_self, a1, hlt, hlt2, b3]
end HIS
