/-! numbers: division, rest, shifts -/
theorem idivI (a b : Nat) (ha : a < 2 ^ 31) (hb : b < 2 ^ 31) : nI a / nI b = nI (a / b) := by
  have h1 : a / b ≤ a := Nat.div_le_self a b
  apply Int32.toInt_inj.mp
  rw [Int32.toInt_div, nI_toInt ha, nI_toInt hb, nI_toInt (by omega), ← Int.ofNat_tdiv]
  generalize a / b = q at h1 ⊢
  exact Int.bmod_eq_of_le (by omega) (by omega)
theorem iremI (a b : Nat) (ha : a < 2 ^ 31) (hb : b < 2 ^ 31) : nI a - nI a / nI b * nI b = nI (a % b) := by
  have h1 : b * (a / b) + a % b = a := Nat.div_add_mod a b
  rw [idivI a b ha hb, nI_mul, nI_sub _ _ (by rw [Nat.mul_comm]; omega)]
  congr 1
  rw [Nat.mul_comm]
  omega
/-- an int's low 31 bits -/
def lo31 (v : Int32) : Nat := v.toBitVec.toNat % 2147483648
theorem lo31_lt (v : Int32) : lo31 v < 2147483648 := Nat.mod_lt _ (by decide)
theorem lo31_and (v : Int32) : v &&& nI 2147483647 = nI (lo31 v) := by
  have h := nI_bv v
  generalize v.toBitVec.toNat = n at h
  subst h
  have e : (nI n).toBitVec.toNat = n % 4294967296 := BitVec.toNat_ofNat n 32
  rw [nI_and]
  unfold lo31
  rw [e, show (2147483647 : Nat) = 2 ^ 31 - 1 from rfl, Nat.and_two_pow_sub_one_eq_mod]
  congr 1
  omega
def lwN (v : Int32) (n : Nat) : Nat := lo31 v % n
theorem lwN_lt (v : Int32) {n : Nat} (h : 0 < n) : lwN v n < n := Nat.mod_lt _ h
theorem nI_or (a b : Nat) : nI a ||| nI b = nI (a ||| b) := by
  apply Int32.toBitVec_inj.mp
  rw [Int32.toBitVec_or]
  show BitVec.ofNat 32 a ||| BitVec.ofNat 32 b = BitVec.ofNat 32 (a ||| b)
  apply BitVec.eq_of_getLsbD_eq
  intro i hi
  rw [BitVec.getLsbD_or, BitVec.getLsbD_ofNat, BitVec.getLsbD_ofNat, BitVec.getLsbD_ofNat, Nat.testBit_or]
  simp [hi]
theorem nI_shl {t : Nat} (h : t < 32) : nI 1 <<< (nI t &&& 31) = nI (2 ^ t) := by
  have : ∀ t : Fin 32, nI 1 <<< (nI t.1 &&& 31) = nI (2 ^ t.1) := by decide +kernel
  exact this ⟨t, h⟩
theorem selB_nI {s t : Nat} (ht : t < 32) : selB (nI s) t = s.testBit t := by
  rw [selB_bv ht]
  show (BitVec.ofNat 32 s).getLsbD t = s.testBit t
  rw [BitVec.getLsbD_ofNat]
  simp [ht]
theorem and1_01 (y : Int32) : y &&& nI 1 = nI 0 ∨ y &&& nI 1 = nI 1 := by
  have h := nI_bv y
  generalize y.toBitVec.toNat = n at h
  subst h
  rw [nI_and, Nat.and_one_is_mod]
  rcases Nat.mod_two_eq_zero_or_one n with e | e <;> rw [e]
  · exact Or.inl rfl
  · exact Or.inr rfl
theorem sel_1 {x : Int32} {t : Nat} : ((x >>> (nI t &&& 31)) &&& nI 1) = bI (selB x t) := by
  unfold selB
  rcases and1_01 (x >>> (nI t &&& 31)) with e | e <;> rw [e] <;> rfl
/-! the law's own morning: three rows of ints at a, a + 1, a + 2, read as the flat row -/
def ixL (a x k : Nat) : Nat := if x = a then (if k < 10 then k else 999) else if x = a + 1 then (if k < 30 then 10 + k else 999) else if x = a + 2 then (if k < 63 ∧ k % 9 < 6 then 58 + 18 * (k / 9) + k % 9 else 999) else 999
def lM (m : vMM) (a : Nat) (f : Nat → Int32) : vMM := fun x k => if ixL a x k < 346 then f (ixL a x k) else m x k
theorem ixL_inj {a x k x' k' : Nat} (h : ixL a x k < 346) (e : ixL a x k = ixL a x' k') : x = x' ∧ k = k' := by
  have h' : ixL a x' k' < 346 := by omega
  have key : ∀ x k, ixL a x k < 346 → (x = a ∧ ixL a x k = k ∧ k < 10) ∨ (x = a + 1 ∧ ixL a x k = 10 + k ∧ k < 30) ∨ (x = a + 2 ∧ ixL a x k = 58 + 18 * (k / 9) + k % 9 ∧ k % 9 < 6) := by
    intro x k hx
    unfold ixL at hx ⊢
    by_cases h1 : x = a
    · rw [if_pos h1] at hx ⊢
      by_cases h2 : k < 10
      · rw [if_pos h2]; exact Or.inl ⟨h1, rfl, h2⟩
      · rw [if_neg h2] at hx; omega
    · rw [if_neg h1] at hx ⊢
      by_cases h3 : x = a + 1
      · rw [if_pos h3] at hx ⊢
        by_cases h2 : k < 30
        · rw [if_pos h2]; exact Or.inr (Or.inl ⟨h3, rfl, h2⟩)
        · rw [if_neg h2] at hx; omega
      · rw [if_neg h3] at hx ⊢
        by_cases h4 : x = a + 2
        · rw [if_pos h4] at hx ⊢
          by_cases h2 : k < 63 ∧ k % 9 < 6
          · rw [if_pos h2]; exact Or.inr (Or.inr ⟨h4, rfl, h2.2⟩)
          · rw [if_neg h2] at hx; omega
        · rw [if_neg h4] at hx; omega
  rcases key x k h with ⟨p1, p2, p3⟩ | ⟨p1, p2, p3⟩ | ⟨p1, p2, p3⟩ <;> rcases key x' k' h' with ⟨q1, q2, q3⟩ | ⟨q1, q2, q3⟩ | ⟨q1, q2, q3⟩ <;> omega
theorem lM_rd {m : vMM} {a x k j : Nat} {f : Nat → Int32} (e : ixL a x k = j) (h : j < 346) : lM m a f x k = f j := by
  unfold lM
  rw [e, if_pos h]
theorem lM_no {m : vMM} {a x k : Nat} {f : Nat → Int32} (h : ¬ ixL a x k < 346) : lM m a f x k = m x k := by
  unfold lM
  rw [if_neg h]
theorem lM_wr {m : vMM} {a x k j : Nat} {f : Nat → Int32} {v : Int32} (e : ixL a x k = j) (h : j < 346) : up2 (lM m a f) x k v = lM m a (upd f j v) := by
  funext x'
  by_cases hx : x' = x
  · subst hx
    rw [up2_eq]
    funext k'
    by_cases hk : k' = k
    · subst hk
      rw [upd_eq, lM_rd e h, upd_eq]
    · rw [upd_ne _ _ hk]
      unfold lM
      by_cases h2 : ixL a x' k' < 346
      · rw [if_pos h2, if_pos h2, upd_ne]
        intro e2
        exact hk (ixL_inj h2 (e2.trans e.symm)).2
      · rw [if_neg h2, if_neg h2]
  · rw [up2_ne hx]
    funext k'
    unfold lM
    by_cases h2 : ixL a x' k' < 346
    · rw [if_pos h2, if_pos h2, upd_ne]
      intro e2
      exact hx (ixL_inj h2 (e2.trans e.symm)).1
    · rw [if_neg h2, if_neg h2]
theorem lM_wo {m : vMM} {a x k : Nat} {f : Nat → Int32} {v : Int32} (h : ¬ ixL a x k < 346) : up2 (lM m a f) x k v = lM (up2 m x k v) a f := by
  funext x'
  funext k'
  unfold lM up2
  by_cases hx : x' = x
  · subst hx
    rw [if_pos rfl, if_pos rfl]
    unfold upd
    by_cases hk : k' = k
    · subst hk
      rw [if_pos rfl, if_neg h, if_pos rfl]
    · rw [if_neg hk, if_neg hk]
  · rw [if_neg hx, if_neg hx]
theorem ixL_q {a k : Nat} (h : k < 10) : ixL a a k = k := by
  unfold ixL
  rw [if_pos rfl, if_pos h]
theorem ixL_f {a i k : Nat} (hi : i < 5) (h : k < 6) : ixL a (a + 1) (6 * i + k) = 10 + 6 * i + k := by
  unfold ixL
  rw [if_neg (by omega), if_pos rfl, if_pos (by omega)]
  omega
theorem ixL_t {a t k : Nat} (ht : t < 7) (h : k < 6) : ixL a (a + 2) (9 * t + k) = 58 + 18 * t + k := by
  unfold ixL
  rw [if_neg (by omega), if_neg (by omega), if_pos rfl, if_pos (by omega)]
  omega
theorem ixL_s {a t s : Nat} (h : s < 3) : ¬ ixL a (a + 2) (9 * t + 6 + s) < 346 := by
  unfold ixL
  rw [if_neg (by omega), if_neg (by omega), if_pos rfl, if_neg (by omega)]
  decide
theorem ixL_o {a x k : Nat} (h : x < a ∨ a + 3 ≤ x) : ¬ ixL a x k < 346 := by
  unfold ixL
  rw [if_neg (by omega), if_neg (by omega), if_neg (by omega)]
  decide
section LMM
variable {m : vMM} {a i t k s : Nat} {f : Nat → Int32} {v : Int32}
theorem l_q (h : k < 10) : lM m a f a k = gG f k := lM_rd (ixL_q h) (by omega)
theorem l_f (hi : i < 5) (h : k < 6) : lM m a f (a + 1) (6 * i + k) = gF f i k := lM_rd (ixL_f hi h) (by omega)
theorem l_f0 (hi : i < 5) : lM m a f (a + 1) (6 * i) = gF f i 0 := l_f (k := 0) hi (by decide)
theorem l_t (ht : t < 7) (h : k < 6) : lM m a f (a + 2) (9 * t + k) = gT f t k := lM_rd (ixL_t ht h) (by omega)
theorem l_t0 (ht : t < 7) : lM m a f (a + 2) (9 * t) = gT f t 0 := l_t (k := 0) ht (by decide)
theorem l_s (h : s < 3) : lM m a f (a + 2) (9 * t + 6 + s) = m (a + 2) (9 * t + 6 + s) := lM_no (ixL_s h)
theorem l_o {x : Nat} (h : x < a ∨ a + 3 ≤ x) : lM m a f x = m x := by
  funext k
  exact lM_no (ixL_o h)
theorem lw_q (h : k < 10) : up2 (lM m a f) a k v = lM m a (sG f k v) := lM_wr (ixL_q h) (by omega)
theorem lw_f (hi : i < 5) (h : k < 6) : up2 (lM m a f) (a + 1) (6 * i + k) v = lM m a (sF f i k v) := lM_wr (ixL_f hi h) (by omega)
theorem lw_f0 (hi : i < 5) : up2 (lM m a f) (a + 1) (6 * i) v = lM m a (sF f i 0 v) := lw_f (k := 0) hi (by decide)
theorem lw_t (ht : t < 7) (h : k < 6) : up2 (lM m a f) (a + 2) (9 * t + k) v = lM m a (sT f t k v) := lM_wr (ixL_t ht h) (by omega)
theorem lw_t0 (ht : t < 7) : up2 (lM m a f) (a + 2) (9 * t) v = lM m a (sT f t 0 v) := lw_t (k := 0) ht (by decide)
theorem lw_s (h : s < 3) : up2 (lM m a f) (a + 2) (9 * t + 6 + s) v = lM (up2 m (a + 2) (9 * t + 6 + s) v) a f := lM_wo (ixL_s h)
theorem lw_o {x : Nat} (h : x < a ∨ a + 3 ≤ x) : up2 (lM m a f) x k v = lM (up2 m x k v) a f := lM_wo (ixL_o h)
theorem lM_c (h : 346 ≤ k) : lM m a (sG f k v) = lM m a f := by
  funext x
  funext j
  unfold lM
  by_cases h2 : ixL a x j < 346
  · rw [if_pos h2, if_pos h2]
    exact upd_ne _ _ (by omega)
  · rw [if_neg h2, if_neg h2]
theorem lM_ext {g : Nat → Int32} (e : ∀ k, k < 346 → g k = f k) : lM m a g = lM m a f := by
  funext x
  funext j
  unfold lM
  by_cases h2 : ixL a x j < 346
  · rw [if_pos h2, if_pos h2, e _ h2]
  · rw [if_neg h2, if_neg h2]
end LMM
def IsL (D : vDD) (a : Nat) : Prop := ((D a).1 = 8 ∧ (D a).2.1 = 10) ∧ ((D (a + 1)).1 = 8 ∧ (D (a + 1)).2.1 = 30) ∧ ((D (a + 2)).1 = 8 ∧ (D (a + 2)).2.1 = 63)
/-- the packed steps say what the row says -/
def Pk (m : vMM) (b : Nat) (f : Nat → Int32) (nT : Nat) : Prop := ∀ t, t < nT → ∃ n, gT f t 1 = nI n ∧ n ≤ 3 ∧ ∀ s, s < n → ∃ sk wk pt, (sk < 5 ∧ 1 ≤ wk ∧ wk ≤ 9 ∧ pt ≤ 4) ∧ m b (9 * t + 6 + s) = nI (100 * sk + 10 * wk + pt) ∧ gT f t (6 + 3 * s + 0) = nI sk ∧ gT f t (6 + 3 * s + 1) = nI wk ∧ gT f t (6 + 3 * s + 2) = if pt = 0 then m6 else nI (pt - 1)
theorem Pk.cong {m m' : vMM} {b : Nat} {f : Nat → Int32} {nT : Nat} (h : Pk m b f nT) (e : ∀ t s, t < nT → s < 3 → m' b (9 * t + 6 + s) = m b (9 * t + 6 + s)) : Pk m' b f nT := by
  intro t ht
  obtain ⟨n, h1, h2, h3⟩ := h t ht
  refine ⟨n, h1, h2, fun s hs => ?_⟩
  obtain ⟨sk, wk, pt, q1, q2, q3⟩ := h3 s hs
  exact ⟨sk, wk, pt, q1, by rw [e t s ht (by omega)]; exact q2, q3⟩
/-! what never changes of a thing: its steps -/
def StE (f g : Nat → Int32) (nT : Nat) : Prop := ∀ t, t < nT → gT g t 1 = gT f t 1 ∧ ∀ k, 6 ≤ k → k < 18 → gT g t k = gT f t k
theorem StE.refl {f : Nat → Int32} {nT : Nat} : StE f f nT := fun _ _ => ⟨rfl, fun _ _ _ => rfl⟩
theorem StE.trans {f g h : Nat → Int32} {nT : Nat} (a : StE f g nT) (b : StE g h nT) : StE f h nT := fun t ht => ⟨(b t ht).1.trans (a t ht).1, fun k h6 h18 => ((b t ht).2 k h6 h18).trans ((a t ht).2 k h6 h18)⟩
theorem Pk.st {m : vMM} {b : Nat} {f g : Nat → Int32} {nT : Nat} (h : Pk m b f nT) (e : StE f g nT) : Pk m b g nT := by
  intro t ht
  obtain ⟨n, h1, h2, h3⟩ := h t ht
  obtain ⟨e1, e2⟩ := e t ht
  refine ⟨n, e1.trans h1, h2, fun s hs => ?_⟩
  obtain ⟨sk, wk, pt, q1, q2, q3, q4, q5⟩ := h3 s hs
  exact ⟨sk, wk, pt, q1, q2, (e2 _ (by omega) (by omega)).trans q3, (e2 _ (by omega) (by omega)).trans q4, (e2 _ (by omega) (by omega)).trans q5⟩
section STE
variable {f : Nat → Int32} {nF nT i t k : Nat} {v : Int32}
theorem StE.G (hk : k < 10 ∨ 346 ≤ k) (h16 : nT ≤ 16) : StE f (sG f k v) nT := fun u hu => ⟨gT_sG hk (by omega) (by decide), fun j _ h18 => gT_sG hk (by omega) h18⟩
theorem StE.F (hi : i < 8) (hk : k < 6) : StE f (sF f i k v) nT := fun u hu => ⟨gT_sF hi hk, fun j _ h18 => gT_sF hi hk⟩
theorem StE.T (h1 : k ≠ 1) (hk : k < 6) : StE f (sT f t k v) nT := fun u hu => by
  by_cases e : u = t
  · subst e
    exact ⟨gT_sTk (Ne.symm h1), fun j h6 h18 => gT_sTk (by omega)⟩
  · exact ⟨gT_sTt e (by omega) (by decide), fun j h6 h18 => gT_sTt e (by omega) h18⟩
theorem StE.wA : StE f (wA f t) nT := (StE.T (k := 0) (by decide) (by decide)).trans (StE.T (k := 3) (by decide) (by decide))
theorem StE.off (hi : i < 8) : StE f (offF f i) nT := ((StE.F hi (by decide)).trans (StE.F hi (by decide))).trans (StE.F hi (by decide))
theorem StE.ends (hi : i < 8) (h16 : nT ≤ 16) : StE f (endsStepF f i t) nT := by
  unfold endsStepF
  split
  · refine (StE.off hi).trans ?_
    generalize offF f i = g
    unfold endsTestF
    split
    · exact ((((StE.T (k := 4) (by decide) (by decide)).trans (StE.G (k := 5) (by decide) h16)).trans (StE.G (k := 348) (by decide) h16)).trans (StE.T (k := 2) (by decide) (by decide))).trans StE.wA
    · exact (StE.T (k := 0) (by decide) (by decide)).trans (StE.G (k := 346) (by decide) h16)
  · exact ((StE.off hi).trans (StE.T (k := 2) (by decide) (by decide))).trans StE.wA
theorem StE.work (hi : i < 8) (h16 : nT ≤ 16) : StE f (workF i f) nT := by
  unfold workF
  split
  · exact StE.refl
  · split
    · exact (StE.F (k := 4) hi (by decide)).trans (StE.ends hi h16)
    · exact StE.F (k := 4) hi (by decide)
theorem StE.out {p : Int32} (hp : p = m6 ∨ ∃ n, n < 4 ∧ p = nI n) (h16 : nT ≤ 16) : StE f (outP f p) nT := by
  unfold outP
  rcases hp with rfl | ⟨n, hn, rfl⟩
  · rw [if_pos rfl]; exact StE.refl
  · rw [if_neg (nI_nm6 (by omega)), nI_clamp (by omega)]
    exact StE.G (by omega) h16
theorem StE.takes (hi : i < 8) (h16 : nT ≤ 16) (hp : nsF f t 2 = m6 ∨ ∃ n, n < 4 ∧ nsF f t 2 = nI n) : StE f (takesF f i t) nT :=
  ((((StE.out hp h16).trans (StE.T (k := 0) (by decide) (by decide))).trans (StE.T (k := 3) (by decide) (by decide))).trans (StE.F hi (by decide))).trans (StE.F hi (by decide))
theorem StE.take (hW : WF f nF nT) (hi : i < nF) : StE f (takeF nT i f) nT := by
  have h8 := hW.1.2.1
  unfold takeF
  split
  · split
    · exact StE.refl
    · rename_i h
      rcases lgF_spec (f := f) (i := i) nT with q | ⟨u, hu, e, -⟩
      · exact absurd q h
      · rw [e, nI_clamp (by have := hW.1.2.2.2; omega)]
        exact StE.takes (by omega) hW.1.2.2.2 (hW.2.2.1 u hu).okT.2
  · exact StE.refl
theorem StE.wait (h16 : nT ≤ 16) : StE f (waitF t f) nT := by
  unfold waitF
  split
  · split
    · exact ((StE.T (k := 3) (by decide) (by decide)).trans (StE.T (k := 0) (by decide) (by decide))).trans (StE.G (by decide) h16)
    · exact StE.T (k := 3) (by decide) (by decide)
  · exact StE.refl
theorem StE.lp {q : Nat → (Nat → Int32) → (Nat → Int32)} (hW : WF f nF nT) : ∀ n, (∀ i, i < n → ∀ f', WF f' nF nT → WF (q i f') nF nT ∧ StE f' (q i f') nT) → WF (lpF q n f) nF nT ∧ StE f (lpF q n f) nT
  | 0, _ => ⟨hW, StE.refl⟩
  | n + 1, h => by
    obtain ⟨w, s⟩ := StE.lp hW n (fun i hi => h i (by omega))
    obtain ⟨w2, s2⟩ := h n (by omega) _ w
    exact ⟨w2, s.trans s2⟩
theorem StE.slot (hW : WF f nF nT) : StE f (slotF f) nT := by
  have h16 := hW.1.2.2.2
  have h8 := hW.1.2.1
  obtain ⟨w1, s1⟩ := StE.lp (q := workF) hW nF (fun i hi f' w => ⟨w.work hi, StE.work (by omega) h16⟩)
  obtain ⟨w2, s2⟩ := StE.lp (q := takeF nT) w1 nF (fun i hi f' w => ⟨w.take hi, StE.take w hi⟩)
  obtain ⟨w3, s3⟩ := StE.lp (q := waitF) w2 nT (fun i hi f' w => ⟨w.wait hi, StE.wait h16⟩)
  have e : slotF f = sG (lpF waitF nT (lpF (takeF nT) nF (lpF workF nF f))) 4 (gG (lpF waitF nT (lpF (takeF nT) nF (lpF workF nF f))) 4 + nI 1) := by
    unfold slotF waitOnF takeAllF worksF
    rw [hW.ns.1, w1.ns.1, w1.ns.2, w2.ns.2]
  rw [e]
  exact ((s1.trans s2).trans s3).trans (StE.G (by decide) h16)
theorem StE.slots (hW : WF f nF nT) (n : Nat) : StE f (slotsF n f) nT := (StE.lp hW n (fun _ _ _ w => ⟨w.slot, StE.slot w⟩)).2
theorem StE.go {P : Nat → Int32} (hW : WF f nF nT) (hG : GOk P f nF nT 0) (hD : ∀ j k u, u < 16 → P j = nI u → P (j + 1 + k) = nI u → False) : ∀ i, i ≤ 8 → StE f (goF P f i).2 nT
  | 0, _ => StE.refl
  | i + 1, hi => by
    have ih := StE.go hW hG hD i (by omega)
    obtain ⟨w1, w2, w3⟩ := goF_WF hW hG hD i (by omega)
    rw [goF_s]
    split
    · exact ih
    · rename_i h6
      obtain ⟨t, t1, t2, t3, t4, t5⟩ := go_step w1 w2 hD (by omega) h6
      split
      · rw [t1, nI_clamp (by have := hW.1.2.2.2; omega)]
        exact ih.trans (StE.takes (by omega) hW.1.2.2.2 (w1.2.2.1 t t2).okT.2)
      · exact ih
end STE
