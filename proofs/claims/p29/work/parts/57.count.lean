/-! the model's counters are differences of counts -/
theorem cntS_iff {f g : Nat → Int32} {h : Int32} : ∀ n, (∀ t, t < n → (gT g t 0 = h ↔ gT f t 0 = h)) → cntS g h n = cntS f h n
  | 0, _ => rfl
  | n + 1, hc => by
    simp only [cntS]
    rw [cntS_iff n (fun t ht => hc t (by omega))]
    by_cases q : gT f n 0 = h
    · rw [if_pos q, if_pos ((hc n (by omega)).mpr q)]
    · rw [if_neg q, if_neg (fun q2 => q ((hc n (by omega)).mp q2))]
theorem cntS_in {f g : Nat → Int32} {h : Int32} {t : Nat} : ∀ n, t < n → gT f t 0 ≠ h → gT g t 0 = h → (∀ u, u < n → u ≠ t → gT g u 0 = gT f u 0) → cntS g h n = cntS f h n + 1
  | 0, ht, _, _, _ => absurd ht (Nat.not_lt_zero t)
  | n + 1, ht, h1, h2, h3 => by
    simp only [cntS]
    by_cases e : t = n
    · subst e
      rw [if_pos h2, if_neg h1, cntS_ext t (fun u hu => h3 u (by omega) (by omega))]
    · rw [cntS_in n (by omega) h1 h2 (fun u hu => h3 u (by omega)), h3 n (by omega) (Ne.symm e)]
      omega
def DDs (f g : Nat → Int32) (nT : Nat) : Prop := gG g 346 - nI (cntS g (nI 2) nT) = gG f 346 - nI (cntS f (nI 2) nT) ∧ gG g 347 - nI (cntS g (nI 3) nT) = gG f 347 - nI (cntS f (nI 3) nT) ∧ gG g 348 - gG g 5 = gG f 348 - gG f 5
theorem DDs.refl {f : Nat → Int32} {nT : Nat} : DDs f f nT := ⟨rfl, rfl, rfl⟩
theorem DDs.trans {f g h : Nat → Int32} {nT : Nat} (a : DDs f g nT) (b : DDs g h nT) : DDs f h nT := ⟨b.1.trans a.1, b.2.1.trans a.2.1, b.2.2.trans a.2.2⟩
theorem i32_ss (a b c : Int32) : a + c - (b + c) = a - b := by
  rw [Int32.sub_eq_add_neg, Int32.neg_add, Int32.sub_eq_add_neg, Int32.add_assoc, Int32.add_comm (-b) , ← Int32.add_assoc c, ← Int32.sub_eq_add_neg c c, Int32.sub_self, Int32.zero_add, ← Int32.sub_eq_add_neg]
theorem DDs.same {f g : Nat → Int32} {nT : Nat} (hG : ∀ k, (k = 5 ∨ 346 ≤ k) → gG g k = gG f k) (hT : ∀ t, t < nT → (gT g t 0 = gT f t 0)) : DDs f g nT := by
  refine ⟨?_, ?_, ?_⟩
  · rw [hG 346 (by decide), cntS_ext nT hT]
  · rw [hG 347 (by decide), cntS_ext nT hT]
  · rw [hG 348 (by decide), hG 5 (by decide)]
/-- a state that is neither mended nor given up, before and after -/
theorem DDs.other {f g : Nat → Int32} {nT t a b : Nat} (hG : ∀ k, (k = 346 ∨ k = 347) → gG g k = gG f k) (h5 : gG g 348 - gG g 5 = gG f 348 - gG f 5) (hT : ∀ u, u < nT → u ≠ t → gT g u 0 = gT f u 0) (ha : gT f t 0 = nI a) (hb : gT g t 0 = nI b) (ha2 : a < 2) (hb2 : b < 2) : DDs f g nT := by
  have key : ∀ h, 2 ≤ h → h < 4 → cntS g (nI h) nT = cntS f (nI h) nT := fun h h1 h2 => cntS_iff nT (fun u hu => by
    by_cases e : u = t
    · subst e
      rw [ha, hb]
      exact ⟨fun q => absurd (nI9 (by omega) (by omega) q) (by omega), fun q => absurd (nI9 (by omega) (by omega) q) (by omega)⟩
    · rw [hT u hu e])
  refine ⟨?_, ?_, h5⟩
  · rw [hG 346 (by decide), key 2 (by decide) (by decide)]
  · rw [hG 347 (by decide), key 3 (by decide) (by decide)]
section DDS
variable {f : Nat → Int32} {nF nT : Nat}
theorem outP_G {p : Int32} {k : Nat} (hp : p = m6 ∨ ∃ n, n < 4 ∧ p = nI n) (hk : k < 6 ∨ 10 ≤ k) : gG (outP f p) k = gG f k := by
  unfold outP
  rcases hp with rfl | ⟨n, hn, rfl⟩
  · rw [if_pos rfl]
  · rw [if_neg (nI_nm6 (by omega)), nI_clamp (by omega), gG_sGk (by omega)]
theorem DDs.takes {i t : Nat} (hk : okT f t) (hi : i < 8) (ht : t < 16) (h16 : nT ≤ 16) (h0 : gT f t 0 = nI 0) : DDs f (takesF f i t) nT := by
  have g : ∀ k, (k = 5 ∨ 346 ≤ k) → gG (takesF f i t) k = gG f k := fun k hk2 => by
    unfold takesF
    rw [gG_sF (by omega) hi (by decide), gG_sF (by omega) hi (by decide), gG_sT (by omega) ht (by decide), gG_sT (by omega) ht (by decide), outP_G hk.2 (by omega)]
  refine DDs.other (t := t) (a := 0) (b := 1) (fun k h => g k (by omega)) (by rw [g 348 (by decide), g 5 (by decide)]) (fun u hu e => takes_T hk hi (by omega) e) h0 ?_ (by decide) (by decide)
  unfold takesF
  rw [gT_sF hi (by decide), gT_sF hi (by decide), gT_sTk (by decide), gT_sT]
theorem DDs.wait (hW : WF f nF nT) {t : Nat} (ht : t < nT) : DDs f (waitF t f) nT := by
  have h16 := hW.1.2.2.2
  unfold waitF
  split
  · rename_i h0
    split
    · refine ⟨?_, ?_, ?_⟩
      · rw [gG_sGk (by decide), gG_sT (Or.inr (by decide)) (by omega) (by decide), gG_sT (Or.inr (by decide)) (by omega) (by decide)]
        rw [cntS_iff (f := f) nT]
        intro u hu
        rw [gT_sG (Or.inr (by decide)) (by omega) (by decide)]
        by_cases e : u = t
        · subst e
          rw [gT_sT, h0]
          exact ⟨fun q => absurd (nI9 (by decide) (by decide) q) (by decide), fun q => absurd (nI9 (by decide) (by decide) q) (by decide)⟩
        · rw [gT_sTt e (by decide) (by decide), gT_sTt e (by decide) (by decide)]
      · rw [gG_sG]
        rw [cntS_in (f := f) (t := t) nT ht (by rw [h0]; exact nI_ne (by decide) (by decide) (by decide)) (by rw [gT_sG (Or.inr (by decide)) (by omega) (by decide), gT_sT]) (fun u hu e => by rw [gT_sG (Or.inr (by decide)) (by omega) (by decide), gT_sTt e (by decide) (by decide), gT_sTt e (by decide) (by decide)])]
        rw [← nI_add, i32_ss]
      · rw [gG_sGk (by decide), gG_sGk (by decide), gG_sT (Or.inr (by decide)) (by omega) (by decide), gG_sT (Or.inr (by decide)) (by omega) (by decide), gG_sT (Or.inl (by decide)) (by omega) (by decide), gG_sT (Or.inl (by decide)) (by omega) (by decide)]
    · exact DDs.same (fun k hk => gG_sT (by omega) (by omega) (by decide)) (fun u hu => by
        by_cases e : u = t
        · subst e; exact gT_sTk (by decide)
        · exact gT_sTt e (by decide) (by decide))
  · exact DDs.refl
theorem DDs.work (hW : WF f nF nT) {i : Nat} (hi : i < nF) : DDs f (workF i f) nT := by
  have h16 := hW.1.2.2.2
  have h8 := hW.1.2.1
  unfold workF
  split
  · exact DDs.refl
  · rename_i hne
    rcases (hW.2.2.2.1 i hi).1 with h3 | ⟨t, ht, h3, hw⟩
    · exact absurd h3 hne
    · have s1 : ∀ l, DDs f (sF f i 4 l) nT := fun l => DDs.same (fun k hk => gG_sF (by omega) (by omega) (by decide)) (fun u hu => gT_sF (by omega) (by decide))
      split
      · rw [h3, nI_clamp (by omega)]
        generalize gF f i 4 - gF f i 1 = l
        have hO := offF_R (f := sF f i 4 l) (i := i) (by omega)
        have gO : ∀ k, k < 10 ∨ 346 ≤ k → gG (offF (sF f i 4 l) i) k = gG f k := fun k hk => by rw [hO.1 k hk, gG_sF hk (by omega) (by decide)]
        have tO : ∀ u k, gT (offF (sF f i 4 l) i) u k = gT f u k := fun u k => by rw [hO.2.1 u k, gT_sF (by omega) (by decide)]
        unfold endsStepF
        generalize offF (sF f i 4 l) i = g at gO tO
        split
        · unfold endsTestF
          split
          · -- failed
            refine DDs.other (t := t) (a := 1) (b := 0) (fun k hk => ?_) ?_ (fun u hu e => ?_) hw ?_ (by decide) (by decide)
            · unfold wA
              rw [gG_sT (by omega) (by omega) (by decide), gG_sT (by omega) (by omega) (by decide), gG_sT (by omega) (by omega) (by decide), gG_sGk (by omega), gG_sGk (by omega), gG_sT (by omega) (by omega) (by decide), gO k (by omega)]
            · unfold wA
              rw [gG_sT (by decide) (by omega) (by decide), gG_sT (by decide) (by omega) (by decide), gG_sT (by decide) (by omega) (by decide), gG_sG, gG_sT (by decide) (by omega) (by decide), gG_sT (by decide) (by omega) (by decide), gG_sT (by decide) (by omega) (by decide), gG_sGk (by decide), gG_sG, gO 348 (by decide), gO 5 (by decide), i32_ss]
            · unfold wA
              rw [gT_sTt e (by decide) (by decide), gT_sTt e (by decide) (by decide), gT_sTt e (by decide) (by decide), gT_sG (by decide) (by omega) (by decide), gT_sG (by decide) (by omega) (by decide), gT_sTt e (by decide) (by decide), tO]
            · unfold wA
              rw [gT_sTk (by decide), gT_sT]
          · -- mended
            refine ⟨?_, ?_, ?_⟩
            · rw [gG_sG, gO 346 (by decide), cntS_in (f := f) (t := t) nT ht (by rw [hw]; exact nI_ne (by decide) (by decide) (by decide)) (by rw [gT_sG (by decide) (by omega) (by decide), gT_sT]) (fun u hu e => by rw [gT_sG (by decide) (by omega) (by decide), gT_sTt e (by decide) (by decide), tO]), ← nI_add, i32_ss]
            · rw [gG_sGk (by decide), gG_sT (by decide) (by omega) (by decide), gO 347 (by decide), cntS_iff (f := f) nT]
              intro u hu
              rw [gT_sG (by decide) (by omega) (by decide)]
              by_cases e : u = t
              · subst e
                rw [gT_sT, hw]
                exact ⟨fun q => absurd (nI9 (by decide) (by decide) q) (by decide), fun q => absurd (nI9 (by decide) (by decide) q) (by decide)⟩
              · rw [gT_sTt e (by decide) (by decide), tO]
            · rw [gG_sGk (by decide), gG_sGk (by decide), gG_sT (by decide) (by omega) (by decide), gG_sT (by decide) (by omega) (by decide), gO 348 (by decide), gO 5 (by decide)]
        · refine DDs.other (t := t) (a := 1) (b := 0) (fun k hk => ?_) ?_ (fun u hu e => ?_) hw ?_ (by decide) (by decide)
          · unfold wA
            rw [gG_sT (by omega) (by omega) (by decide), gG_sT (by omega) (by omega) (by decide), gG_sT (by omega) (by omega) (by decide), gO k (by omega)]
          · unfold wA
            rw [gG_sT (by decide) (by omega) (by decide), gG_sT (by decide) (by omega) (by decide), gG_sT (by decide) (by omega) (by decide), gG_sT (by decide) (by omega) (by decide), gG_sT (by decide) (by omega) (by decide), gG_sT (by decide) (by omega) (by decide), gO 348 (by decide), gO 5 (by decide)]
          · unfold wA
            rw [gT_sTt e (by decide) (by decide), gT_sTt e (by decide) (by decide), gT_sTt e (by decide) (by decide), tO]
          · unfold wA
            rw [gT_sTk (by decide), gT_sT]
      · exact s1 _
theorem DDs.lp {g : Nat → (Nat → Int32) → (Nat → Int32)} (hW : WF f nF nT) : ∀ n, (∀ i, i < n → ∀ f', WF f' nF nT → WF (g i f') nF nT ∧ DDs f' (g i f') nT) → DDs f (lpF g n f) nT
  | 0, _ => DDs.refl
  | n + 1, h => (DDs.lp hW n (fun i hi => h i (by omega))).trans (h n (by omega) _ (hW.lp (fun i hi f' w => (h i (by omega) f' w).1))).2
theorem DDs.take (hW : WF f nF nT) {i : Nat} (hi : i < nF) : DDs f (takeF nT i f) nT := by
  have h16 := hW.1.2.2.2
  have h8 := hW.1.2.1
  unfold takeF
  split
  · split
    · exact DDs.refl
    · rename_i hne
      rcases lgF_spec (f := f) (i := i) nT with e | ⟨t, ht, e, hc⟩
      · exact absurd e hne
      · rw [e, nI_clamp (by omega)]
        exact DDs.takes (hW.2.2.1 t ht).okT (by omega) (by omega) h16 (canF_w hc).2.1
  · exact DDs.refl
theorem DDs.slot (hW : WF f nF nT) : DDs f (slotF f) nT := by
  have h16 := hW.1.2.2.2
  have w1 := hW.works
  have w2 := w1.takeAll
  have d1 : DDs f (worksF f) nT := by
    unfold worksF
    rw [hW.ns.1]
    exact DDs.lp hW nF (fun i hi f' w => ⟨w.work hi, DDs.work w hi⟩)
  have d2 : DDs (worksF f) (takeAllF (worksF f)) nT := by
    unfold takeAllF
    rw [w1.ns.1, w1.ns.2]
    exact DDs.lp w1 nF (fun i hi f' w => ⟨w.take hi, DDs.take w hi⟩)
  have d3 : DDs (takeAllF (worksF f)) (waitOnF (takeAllF (worksF f))) nT := by
    unfold waitOnF
    rw [w2.ns.2]
    exact DDs.lp w2 nT (fun i hi f' w => ⟨w.wait hi, DDs.wait w hi⟩)
  refine ((d1.trans d2).trans d3).trans ?_
  unfold slotF
  exact DDs.same (fun k hk => gG_sGk (by omega)) (fun u hu => gT_sG0 (by decide))
theorem DDs.slots (hW : WF f nF nT) (n : Nat) : DDs f (slotsF n f) nT := DDs.lp hW n (fun _ _ _ w => ⟨w.slot, DDs.slot w⟩)
/-- what the model's counters say after slots -/
theorem passes_cnt (hW : WF f nF nT) (n : Nat) : gG (passesF n f) 346 = nI (cntS (passesF n f) (nI 2) nT) - nI (cntS f (nI 2) nT) ∧ gG (passesF n f) 347 = nI (cntS (passesF n f) (nI 3) nT) - nI (cntS f (nI 3) nT) ∧ gG (passesF n f) 348 = gG (passesF n f) 5 - gG f 5 := by
  have h16 := hW.1.2.2.2
  have d := DDs.slots hW.zero n
  have z6 : gG (zeroF f) 346 = nI 0 := by unfold zeroF; rw [gG_sGk (by decide), gG_sGk (by decide), gG_sG]
  have z7 : gG (zeroF f) 347 = nI 0 := by unfold zeroF; rw [gG_sGk (by decide), gG_sG]
  have z8 : gG (zeroF f) 348 = nI 0 := by unfold zeroF; rw [gG_sG]
  have z5 : gG (zeroF f) 5 = gG f 5 := by unfold zeroF; rw [gG_sGk (by decide), gG_sGk (by decide), gG_sGk (by decide)]
  have zc : ∀ h, cntS (zeroF f) h nT = cntS f h nT := fun h => cntS_ext nT (fun t ht => by
    unfold zeroF
    rw [gT_sG (by decide) (by omega) (by decide), gT_sG (by decide) (by omega) (by decide), gT_sG (by decide) (by omega) (by decide)])
  have sol : ∀ a b x : Int32, a - b = nI 0 - x → a = b - x := fun a b x h => by
    have e : nI 0 - x = -x := Int32.zero_sub x
    rw [e] at h
    have h2 := congrArg (fun y => y + b) h
    simp only [Int32.sub_add_cancel] at h2
    rw [h2, Int32.add_comm, ← Int32.sub_eq_add_neg]
  obtain ⟨d1, d2, d3⟩ := d
  rw [z6, zc] at d1
  rw [z7, zc] at d2
  rw [z8, z5] at d3
  exact ⟨sol _ _ _ d1, sol _ _ _ d2, sol _ _ _ d3⟩
end DDS
