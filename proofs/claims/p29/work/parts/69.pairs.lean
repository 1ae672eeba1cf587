/-! changes keep sense -/
section WFC
variable {f g : Nat → Int32} {i t nF nT : Nat}
theorem WF_pat (h : WF f nF nT) {v : Int32} (hv : ∃ p, 1 ≤ p ∧ p ≤ 50 ∧ v = nI p) : WF (sG f 0 v) nF nT := by
  have h2 : WF f nF nT := h
  obtain ⟨⟨g2, hF, g3, hT⟩, -, hWT, hWX, hinj⟩ := h
  refine ⟨⟨by rw [gG_sGk (by decide)]; exact g2, hF, by rw [gG_sGk (by decide)]; exact g3, hT⟩, ?_, fun u hu => (hWT u hu).same (fun k hk => gT_sG (Or.inl (by decide)) (by omega) hk), fun j hj => ?_, fun a c ha hc hac he => ?_⟩
  · obtain ⟨p, h1, h2, h3⟩ := hv
    exact ⟨p, h1, h2, by rw [gG_sG]; exact h3⟩
  · unfold WX
    rw [gF_sG (Or.inl (by decide)) (by omega) (by decide), gF_sG (Or.inl (by decide)) (by omega) (by decide)]
    refine ⟨?_, (hWX j hj).2⟩
    rcases (hWX j hj).1 with e | ⟨u, hu, e1, e2⟩
    · exact Or.inl e
    · exact Or.inr ⟨u, hu, e1, by rw [gT_sG (Or.inl (by decide)) (by omega) (by decide)]; exact e2⟩
  · rw [gF_sG (Or.inl (by decide)) (by omega) (by decide), gF_sG (Or.inl (by decide)) (by omega) (by decide)] at he
    rw [gF_sG (Or.inl (by decide)) (by omega) (by decide)]
    exact hinj a c ha hc hac he
theorem came_F {n j k : Nat} {a v : Int32} (hn : n < 8) (hk : k < 6) (hj : j ≠ n) (hj8 : j < 8) : gF (cameF f n a v) j k = gF f j k := by
  unfold cameF
  rw [gF_sG (Or.inl (by decide)) hj8 hk, gF_sFi hj (by decide) hk, gF_sFi hj (by decide) hk, gF_sFi hj (by decide) hk, gF_sFi hj (by decide) hk, gF_sFi hj (by decide) hk, gF_sFi hj (by decide) hk]
theorem came_T {n t k : Nat} {a v : Int32} (hn : n < 8) (ht : t < 16) (hk : k < 18) : gT (cameF f n a v) t k = gT f t k := by
  unfold cameF
  rw [gT_sG (Or.inl (by decide)) ht hk, gT_sF hn (by decide), gT_sF hn (by decide), gT_sF hn (by decide), gT_sF hn (by decide), gT_sF hn (by decide), gT_sF hn (by decide)]
theorem came_G {n k : Nat} {a v : Int32} (hn : n < 8) (hk : k < 10) (h2 : k ≠ 2) : gG (cameF f n a v) k = gG f k := by
  unfold cameF
  rw [gG_sGk h2, gG_sF (Or.inl hk) hn (by decide), gG_sF (Or.inl hk) hn (by decide), gG_sF (Or.inl hk) hn (by decide), gG_sF (Or.inl hk) hn (by decide), gG_sF (Or.inl hk) hn (by decide), gG_sF (Or.inl hk) hn (by decide)]
theorem WF.came (h : WF f nF nT) (hn : nF < 8) {a v : Int32} : WF (cameF f nF a v) (nF + 1) nT := by
  obtain ⟨⟨g2, hF, g3, hT⟩, hp, hWT, hWX, hinj⟩ := h
  have n3 : gF (cameF f nF a v) nF 3 = m6 := by
    unfold cameF
    rw [gF_sG (Or.inl (by decide)) hn (by decide), gF_sFk (by decide), gF_sFk (by decide), gF_sF]
  have n2 : gF (cameF f nF a v) nF 2 = nI 1 := by
    unfold cameF
    rw [gF_sG (Or.inl (by decide)) hn (by decide), gF_sFk (by decide), gF_sFk (by decide), gF_sFk (by decide), gF_sF]
  refine ⟨⟨by unfold cameF; rw [gG_sG], by omega, by rw [came_G hn (by decide) (by decide)]; exact g3, hT⟩, by rw [came_G hn (by decide) (by decide)]; exact hp, fun u hu => (hWT u hu).same (fun k hk => came_T hn (by omega) hk), fun j hj => ?_, fun b c hb hc hbc he => ?_⟩
  · by_cases e : j = nF
    · subst e
      exact ⟨Or.inl n3, Or.inr n2⟩
    · unfold WX
      rw [came_F hn (by decide) e (by omega), came_F hn (by decide) e (by omega)]
      refine ⟨?_, (hWX j (by omega)).2⟩
      rcases (hWX j (by omega)).1 with e | ⟨u, hu, e1, e2⟩
      · exact Or.inl e
      · exact Or.inr ⟨u, hu, e1, by rw [came_T hn (by omega) (by decide)]; exact e2⟩
  · by_cases e : b = nF
    · subst e; exact n3
    · by_cases e2 : c = nF
      · subst e2; rw [he]; exact n3
      · rw [came_F hn (by decide) e (by omega), came_F hn (by decide) e2 (by omega)] at he
        rw [came_F hn (by decide) e (by omega)]
        exact hinj b c (by omega) (by omega) hbc he
theorem WF.there (h : WF f nF nT) (hi : i < nF) {v : Int32} (hv : v = nI 0 ∨ v = nI 1) : WF (sF f i 2 v) nF nT := by
  obtain ⟨⟨g2, hF, g3, hT⟩, hp, hWT, hWX, hinj⟩ := h
  have hi8 : i < 8 := by omega
  have e3 : ∀ j, j < 8 → gF (sF f i 2 v) j 3 = gF f j 3 := fun j hj => by
    by_cases e : j = i
    · subst e; exact gF_sFk (by decide)
    · exact gF_sFi e (by decide) (by decide)
  refine ⟨⟨by rw [gG_sF (Or.inl (by decide)) hi8 (by decide)]; exact g2, hF, by rw [gG_sF (Or.inl (by decide)) hi8 (by decide)]; exact g3, hT⟩, by rw [gG_sF (Or.inl (by decide)) hi8 (by decide)]; exact hp, fun u hu => (hWT u hu).same (fun k hk => gT_sF hi8 (by decide)), fun j hj => ?_, fun a c ha hc hac he => ?_⟩
  · unfold WX
    rw [e3 j (by omega)]
    refine ⟨?_, ?_⟩
    · rcases (hWX j hj).1 with e | ⟨u, hu, e1, e2⟩
      · exact Or.inl e
      · exact Or.inr ⟨u, hu, e1, by rw [gT_sF hi8 (by decide)]; exact e2⟩
    · by_cases e : j = i
      · subst e; rw [gF_sF]; exact hv
      · rw [gF_sFi e (by decide) (by decide)]; exact (hWX j hj).2
  · rw [e3 a (by omega), e3 c (by omega)] at he
    rw [e3 a (by omega)]
    exact hinj a c ha hc hac he
theorem wA_Ts : (∀ u k, u ≠ t → k < 18 → gT (wA f t) u k = gT f u k) ∧ (∀ k, k ≠ 0 → k ≠ 3 → gT (wA f t) t k = gT f t k) ∧ gT (wA f t) t 0 = nI 0 ∧ gT (wA f t) t 3 = nI 0 := by
  unfold wA
  refine ⟨fun u k hu hk => ?_, fun k h0 h3 => ?_, ?_, ?_⟩
  · rw [gT_sTt hu (by decide) hk, gT_sTt hu (by decide) hk]
  · rw [gT_sTk h3, gT_sTk h0]
  · rw [gT_sTk (by decide), gT_sT]
  · rw [gT_sT]
theorem WF.again (h : WF f nF nT) (ht : t < nT) (hs : gT f t 0 ≠ nI 1) : WF (wA f t) nF nT := by
  obtain ⟨⟨g2, hF, g3, hT⟩, hp, hWT, hWX, hinj⟩ := h
  have ht16 : t < 16 := by omega
  obtain ⟨a1, a2, a3, a4⟩ := wA_Ts (f := f) (t := t)
  have eG : ∀ k, k < 10 → gG (wA f t) k = gG f k := fun k hk => by
    unfold wA
    rw [gG_sT (Or.inl hk) ht16 (by decide), gG_sT (Or.inl hk) ht16 (by decide)]
  have eF : ∀ j k, j < 8 → k < 6 → gF (wA f t) j k = gF f j k := fun j k hj hk => by
    unfold wA
    rw [gF_sT hj hk, gF_sT hj hk]
  refine ⟨⟨by rw [eG 2 (by decide)]; exact g2, hF, by rw [eG 3 (by decide)]; exact g3, hT⟩, by rw [eG 0 (by decide)]; exact hp, fun u hu => ?_, fun j hj => ?_, fun a c ha hc hac he => ?_⟩
  · by_cases e : u = t
    · subst e
      refine (hWT u hu).mk (a2 1 (by decide) (by decide)) (fun k h6 h18 => a2 k (by omega) (by omega)) ?_ ⟨0, by decide, a3⟩ (fun _ => ⟨0, by decide, a4⟩)
      rw [a2 2 (by decide) (by decide)]
      exact (hWT u hu).nx
    · exact (hWT u hu).same (fun k hk => a1 u k e hk)
  · unfold WX
    rw [eF j 3 (by omega) (by decide), eF j 2 (by omega) (by decide)]
    refine ⟨?_, (hWX j hj).2⟩
    rcases (hWX j hj).1 with e | ⟨u, hu, e1, e2⟩
    · exact Or.inl e
    · refine Or.inr ⟨u, hu, e1, ?_⟩
      rw [a1 u 0 (fun q => ?_) (by decide)]
      · exact e2
      · subst q; exact hs e2
  · rw [eF a 3 (by omega) (by decide), eF c 3 (by omega) (by decide)] at he
    rw [eF a 3 (by omega) (by decide)]
    exact hinj a c ha hc hac he
theorem clrF_e {i : Nat} {g : Nat → Int32} : clrF i g = sF (sF g i 3 m6) i 4 (nI 0) := rfl
theorem clr_F {k : Nat} (hk : k < 6) : ∀ n j, j < 8 → n ≤ 8 → gF (lpF clrF n f) j k = if j < n ∧ k = 3 then m6 else if j < n ∧ k = 4 then nI 0 else gF f j k
  | 0, j, _, _ => by
    rw [if_neg (by omega), if_neg (by omega)]
    rfl
  | n + 1, j, hj, hn => by
    rw [lpF_s, clrF_e]
    have ih := clr_F hk n j hj (by omega)
    by_cases e : j = n
    · subst e
      by_cases e3 : k = 3
      · subst e3
        rw [gF_sFk (by decide), gF_sF, if_pos ⟨by omega, rfl⟩]
      · by_cases e4 : k = 4
        · subst e4
          rw [gF_sF, if_neg (by omega), if_pos ⟨by omega, rfl⟩]
        · rw [gF_sFk e4, gF_sFk e3, if_neg (by omega), if_neg (by omega), ih, if_neg (by omega), if_neg (by omega)]
    · rw [gF_sFi e (by decide) hk, gF_sFi e (by decide) hk, ih]
      by_cases h1 : j < n
      · by_cases e3 : k = 3
        · rw [if_pos ⟨h1, e3⟩, if_pos ⟨by omega, e3⟩]
        · rw [if_neg (by omega), if_neg (by omega : ¬ (j < n + 1 ∧ k = 3))]
          by_cases e4 : k = 4
          · rw [if_pos ⟨h1, e4⟩, if_pos ⟨by omega, e4⟩]
          · rw [if_neg (by omega), if_neg (by omega)]
      · rw [if_neg (by omega), if_neg (by omega), if_neg (by omega), if_neg (by omega)]
theorem WF_clear (h : WF f nF nT) : WF (clearF f nF) nF 0 := by
  obtain ⟨⟨g2, hF, g3, hT⟩, hp, hWT, hWX, hinj⟩ := h
  unfold clearF
  have eF : ∀ j k, j < nF → k < 6 → gF (lpF clrF nF (sG (sG f 3 (nI 0)) 4 (nI 0))) j k = if k = 3 then m6 else if k = 4 then nI 0 else gF f j k := fun j k hj hk => by
    rw [clr_F hk nF j (by omega) hF, gF_sG (Or.inl (by decide)) (by omega) hk, gF_sG (Or.inl (by decide)) (by omega) hk]
    by_cases e3 : k = 3
    · rw [if_pos ⟨hj, e3⟩, if_pos e3]
    · rw [if_neg (by omega), if_neg e3]
      by_cases e4 : k = 4
      · rw [if_pos ⟨hj, e4⟩, if_pos e4]
      · rw [if_neg (by omega), if_neg e4]
  refine ⟨⟨?_, hF, ?_, by decide⟩, ?_, fun u hu => absurd hu (Nat.not_lt_zero u), fun j hj => ⟨Or.inl ?_, ?_⟩, fun a c ha hc hac he => ?_⟩
  · rw [clr_G (by decide) nF hF, gG_sGk (by decide), gG_sGk (by decide)]; exact g2
  · rw [clr_G (by decide) nF hF, gG_sGk (by decide), gG_sG]
  · rw [clr_G (by decide) nF hF, gG_sGk (by decide), gG_sGk (by decide)]; exact hp
  · rw [eF j 3 hj (by decide), if_pos rfl]
  · rw [eF j 2 hj (by decide), if_neg (by decide), if_neg (by decide)]; exact (hWX j hj).2
  · rw [eF a 3 ha (by decide), if_pos rfl]
theorem Rfc.clear {c : Nat → Int32} (h : Rfc f c nF nT) (hF : nF ≤ 8) : Rfc (clearF f nF) (clearF c nF) nF 0 := by
  have h0 : Rfc f c nF 0 := ⟨h.1, h.2.1, fun t ht => absurd ht (Nat.not_lt_zero t)⟩
  have h1 := (h0.G (k := 3) (v := nI 0) (by decide) hF (by decide)).G (k := 4) (v := nI 0) (by decide) hF (by decide)
  unfold clearF
  generalize sG (sG f 3 (nI 0)) 4 (nI 0) = f1 at h1 ⊢
  generalize sG (sG c 3 (nI 0)) 4 (nI 0) = c1 at h1 ⊢
  have go : ∀ n, n ≤ 8 → Rfc (lpF clrF n f1) (lpF clrF n c1) nF 0 := by
    intro n
    induction n with
    | zero => intro _; exact h1
    | succ n ih =>
      intro hn
      rw [lpF_s, lpF_s]
      unfold clrF
      exact ((ih (by omega)).F (by omega) (by decide) hF).F (by omega) (by decide) hF
  exact go nF hF
theorem Rfc_wA {c : Nat → Int32} (h : Rfc f c nF nT) (ht : t < 16) (h8 : nF ≤ 8) (h16 : nT ≤ 16) : Rfc (wA f t) (wA c t) nF nT := h.st ht h16 h8 (by rw [if_pos rfl])
end WFC
/-! the class and the model, side by side -/
def ClS (D : vDD) (H : Nat → Nat) (m : vMM) (f : Nat → Int32) (nF nT r L : Nat) (h s : Nat → Int32) (b0 b1 : Bool) (ch : Nat → Nat) : Prop := Wd D H ∧ (∃ c, Blk m 2 c ∧ Rfc f c nF nT) ∧ WF f nF nT ∧ PadM m L ch ∧ HiM m H r h ∧ SaM m s b0 b1
section CPL
variable {D : vDD} {H : Nat → Nat} {m m' : vMM} {z : vZZ} {f : Nat → Int32} {nF nT r L : Nat} {h s : Nat → Int32} {b0 b1 : Bool} {ch : Nat → Nat}
theorem ClS.cong (C : ClS D H m f nF nT r L h s b0 b1 ch) (e : ∀ a, (a < 78 ∨ 155 ≤ a) → a < 768 → a ≠ 766 → m' a = m a) (e2 : m' 766 2 = m 766 2) : ClS D H m' f nF nT r L h s b0 b1 ch := by
  obtain ⟨h1, ⟨c, h2, h3⟩, h4, h5, h6, h7⟩ := C
  refine ⟨h1, ⟨c, h2.cong (fun a _ _ => e a (by omega) (by omega) (by omega)), h3⟩, h4, h5.cong e2 (e 767 (by decide) (by decide) (by decide)), ?_, ?_⟩
  · exact h6.cong h1.2.2.2.2 (fun a _ _ => e a (by omega) (by omega) (by omega))
  · exact h7.cong (fun a _ _ => e a (by omega) (by omega) (by omega))
theorem ClS.chp (C : ClS D H m f nF nT r L h s b0 b1 ch) (e : CHp m m') : ClS D H m' f nF nT r L h s b0 b1 ch := C.cong (fun a _ _ _ => e a (by omega)) (by rw [e 766 (by decide)])
theorem ClS.frM (C : ClS D H m f nF nT r L h s b0 b1 ch) (e : ∀ a, a < 853 → m' a = m a) : ClS D H m' f nF nT r L h s b0 b1 ch := C.cong (fun a _ _ _ => e a (by omega)) (by rw [e 766 (by decide)])
theorem ClS.de {D' : vDD} (C : ClS D H m f nF nT r L h s b0 b1 ch) (d : DE D D') : ClS D' H m f nF nT r L h s b0 b1 ch := ⟨C.1.de d, C.2⟩
theorem recM_lo {a : Nat} (h : a < 853) : recM m f r a = m a := by
  unfold recM
  rw [setR_ne (by omega), setR_ne (by omega)]
theorem out_in {v a b : Int32} : (decide (v < a) || decide (b < v)) = !(decide (a ≤ v) && decide (v ≤ b)) := by
  by_cases h1 : a ≤ v
  · by_cases h2 : v ≤ b
    · rw [decide_eq_true h1, decide_eq_true h2, decide_eq_false (fun q => Int32.lt_irrefl (Int32.lt_of_lt_of_le q h1)), decide_eq_false (fun q => Int32.lt_irrefl (Int32.lt_of_lt_of_le q h2))]; rfl
    · rw [decide_eq_false h2, decide_eq_true (Int32.not_le.mp h2)]; simp
  · rw [decide_eq_false h1, decide_eq_true (Int32.not_le.mp h1)]; simp
theorem x_outside {v a b : Int32} {Q : Value → vDD → vMM → vZZ → Prop} : Runs MX6_isOutside 0 [.int v, .int a, .int b] [] D m z Q = Q (.int (bI (!(decide (a ≤ v) && decide (v ≤ b))))) D m z := by
  rw [x_isOutside, out_in]
/-- now is kept, to be changed -/
theorem ClS.keep (C : ClS D H m f nF nT r L h s b0 b1 ch) : ∃ c D' H' m', Blk m' 2 c ∧ Rfc f c nF nT ∧ (∀ a, 853 ≤ a → m' a = m a) ∧ Wd D' H' ∧ (∀ Q, Runs MX1_keep 0 [.ref 308, .ref 2] [] D m z Q = Q vJ D' m' z) ∧
    (∀ c2 f2 nF2 nT2, Rfc f2 c2 nF2 nT2 → WF f2 nF2 nT2 → ClS D' H' (bM m' 2 c2) f2 nF2 nT2 (min r 5 + 1) L (histP h r f) s b0 b1 ch) := by
  obtain ⟨h1, ⟨c, h2, h3⟩, h4, h5, h6, h7⟩ := C
  obtain ⟨D', H', m', k1, k2, k3, k4⟩ := x_keep (z := z) h1 h6 h2 h3 h4
  refine ⟨c, D', H', m', h2.cong (fun a _ _ => k3 a (by omega)), h3, fun a ha => k3 a (by omega), k1, k4, fun c2 f2 nF2 nT2 r2 w2 => ?_⟩
  refine ⟨k1, ⟨c2, Blk.mk, r2⟩, w2, ?_, ?_, ?_⟩
  · exact h5.cong (by rw [bM_o (by omega), k3 766 (by omega)]) (by rw [bM_o (by omega), k3 767 (by omega)])
  · exact k2.cong k1.2.2.2.2 (fun a _ _ => bM_o (by omega))
  · exact h7.cong (fun a _ _ => by rw [bM_o (by omega), k3 a (by omega)])
end CPL
