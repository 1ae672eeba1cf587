/-! the law's act: bring -/
def IB (D : vDD) (M : vMM) (f : Nat → Int32) (nF nT : Nat) (l : List Nat) (N : Nat) (r0 r1 R : Nat → Int32) : Prop := CKl D M f nF nT l ∧ KD D N ∧ M 853 = r0 ∧ M 854 = r1 ∧ M 855 = R
def zR (R : Nat → Int32) (e k : Nat) : Nat → Int32 := fun j => if e ≤ j ∧ j < e + k then nI 0 else R j
theorem zR_s {R : Nat → Int32} {e k : Nat} : upd (zR R e k) (e + k) (nI 0) = zR R e (k + 1) := by
  funext j
  unfold zR upd
  by_cases h : j = e + k
  · rw [if_pos h, if_pos (by omega)]
  · rw [if_neg h]
    show (if e ≤ j ∧ j < e + k then nI 0 else R j) = _
    by_cases h2 : e ≤ j ∧ j < e + k
    · rw [if_pos h2, if_pos (by omega)]
    · rw [if_neg h2, if_neg (by omega)]
def skY (y : Int32) (k : Nat) : Nat := lwN (y >>> (nI (3 * k + 1) &&& 31)) 5
def wkY (y : Int32) (k : Nat) : Nat := 1 + lwN (y >>> (nI (4 * k + 2) &&& 31)) 9
def paY (y : Int32) (k : Nat) : Nat := lwN (y >>> (nI (2 * k + 5) &&& 31)) 8
def pkY (y : Int32) (k : Nat) : Nat := 100 * skY y k + 10 * wkY y k + (if paY y k < 4 then paY y k + 1 else 0)
def pR (y : Int32) (R : Nat → Int32) (e k : Nat) : Nat → Int32 := fun j => if e + 6 ≤ j ∧ j < e + 6 + k then nI (pkY y (j - (e + 6))) else R j
theorem pR_s {y : Int32} {R : Nat → Int32} {e k : Nat} : upd (pR y R e k) (e + 6 + k) (nI (pkY y k)) = pR y R e (k + 1) := by
  funext j
  unfold pR upd
  by_cases h : j = e + 6 + k
  · rw [if_pos h, if_pos (by omega), h, Nat.add_sub_cancel_left]
  · rw [if_neg h]
    show (if e + 6 ≤ j ∧ j < e + 6 + k then nI (pkY y (j - (e + 6))) else R j) = _
    by_cases h2 : e + 6 ≤ j ∧ j < e + 6 + k
    · rw [if_pos h2, if_pos (by omega)]
    · rw [if_neg h2, if_neg (by omega)]
theorem pR_0 {y : Int32} {R : Nat → Int32} {e : Nat} : pR y R e 0 = R := by
  funext j
  unfold pR
  rw [if_neg (by omega)]
theorem zR_0 {R : Nat → Int32} {e : Nat} : zR R e 0 = R := by
  funext j
  unfold zR
  rw [if_neg (by omega)]
theorem ckl_fr {D : vDD} {M M' : vMM} {f : Nat → Int32} {nF nT : Nat} {l : List Nat} (C : CKl D M f nF nT l) (e : ∀ a, a < 853 → M' a = M a) : CKl D M' f nF nT l := CK.fr C e
theorem u2n {M : vMM} {a b k : Nat} {v : Int32} (h : b ≠ a) : up2 M a k v b = M b := if_neg h
theorem u2e {M : vMM} {a k : Nat} {v : Int32} : up2 M a k v a = upd (M a) k v := if_pos rfl
section BRG
variable {D : vDD} {M m : vMM} {f r0 r1 R : Nat → Int32} {z : vZZ} {nF nT N e n : Nat} {l : List Nat} {tu x y ki fx : Int32}
theorem IB.wr (h : IB D M f nF nT l N r0 r1 R) {k : Nat} {v : Int32} : IB D (up2 M 855 k v) f nF nT l N r0 r1 (upd R k v) := by
  obtain ⟨a, b, c, d, e⟩ := h
  exact ⟨ckl_fr a (fun x hx => u2n (by omega)), b, (u2n (by decide)).trans c, (u2n (by decide)).trans d, by rw [u2e, e]⟩
theorem IB.put (h : IB D M f nF nT l N r0 r1 R) (hz : 861 ≤ z.1) {c : Nat} (h1 : 33 ≤ c) (h2 : c ≤ 126) (hL : l.length < 60) : ∃ D1 M1, IB D1 M1 f nF nT (l ++ [c]) N r0 r1 R ∧ ∀ Q, Runs MX6_put 0 [.ref 1, .long (uL c), vJ, vJ] [] D M z Q = Q (.int (nI (l.length + 1))) D1 M1 z := by
  obtain ⟨C, K, a, b, d⟩ := h
  obtain ⟨D1, M1, C1, e1, y1⟩ := o_putl (z := z) C h1 h2 hL
  exact ⟨D1, M1, ⟨C1, K.mv (eq_runs y1 K.1.1 (by omega)) hz, (e1 853 (by decide)).trans a, (e1 854 (by decide)).trans b, (e1 855 (by decide)).trans d⟩, y1⟩
theorem l_Lz {v18 v19 v20 : Value} (he : e ≤ 54) : ∀ d k (M : vMM), k + d = 9 → IB D M f nF nT l N r0 r1 (zR R e k) → ∃ M1, IB D M1 f nF nT l N r0 r1 (zR R e 9) ∧ ∀ Q, Runs ML_law 332 [.ref 0, .ref 1, .ref 853, .ref 854, .ref 855, .ref 856, .ref 857, .ref 858, .ref 859, .ref 860, .int tu, .int x, .int y, .int ki, .int fx, .int (nI e), .int (nI n), .int (nI k), v18, v19, v20] [] D M z Q = Runs ML_law 354 [.ref 0, .ref 1, .ref 853, .ref 854, .ref 855, .ref 856, .ref 857, .ref 858, .ref 859, .ref 860, .int tu, .int x, .int y, .int ki, .int fx, .int (nI e), .int (nI n), .int (nI 9), v18, v19, v20] [] D M1 z Q := by
  intro d
  induction d with
  | zero =>
    intro k M hk h
    obtain rfl : k = 9 := by omega
    refine ⟨M, h, fun Q => ?_⟩
    rw [sL_law_332]
    simp (disch := omega) only [sL_law_334, sL_law_336, true_and, and_true, true_or, or_true, eq_self, ↓reduceIte, if_true, if_false, nI_add, nI_mul, inB_nI, nI_clamp, Nat.add_zero, eqI, ltI, leI, m6_ne, ne_m6, Nat.reduceEqDiff, reduceCtorEq, Nat.reduceLT, Nat.reduceLeDiff, Nat.reduceAdd, Nat.reduceMul, Nat.zero_add, Nat.mul_zero, nar_0, nar_1, nar_b, bI_t, bI_f, bI_0, bI_1, Bool.true_eq_false, Bool.false_eq_true, Bool.and_self, Bool.and_false, Bool.false_and, Bool.true_and, Bool.and_true, and_self, Nat.le_refl]
  | succ d ih =>
    intro k M hk h
    have hlt : ¬ 9 ≤ k := by omega
    have h2 := h.wr (k := e + k) (v := nI 0)
    rw [zR_s] at h2
    obtain ⟨M1, h3, y1⟩ := ih (k + 1) _ (by omega) h2
    have hD := h.2.1.2.1
    simp only [IsL, Nat.reduceAdd] at hD
    refine ⟨M1, h3, fun Q => ?_⟩
    rw [sL_law_332]
    simp (disch := omega) only [sL_law_334, sL_law_336, sL_law_339, sL_law_341, sL_law_343, sL_law_345, sL_law_346, sL_law_347, sL_law_348, sL_law_351, hD, hlt, true_and, and_true, true_or, or_true, eq_self, ↓reduceIte, if_true, if_false, nI_add, nI_mul, inB_nI, nI_clamp, Nat.add_zero, eqI, ltI, leI, m6_ne, ne_m6, Nat.reduceEqDiff, reduceCtorEq, Nat.reduceLT, Nat.reduceLeDiff, Nat.reduceAdd, Nat.reduceMul, Nat.zero_add, Nat.mul_zero, nar_0, nar_1, nar_b, bI_t, bI_f, bI_0, bI_1, Bool.true_eq_false, Bool.false_eq_true, Bool.and_self, Bool.and_false, Bool.false_and, Bool.true_and, Bool.and_true, and_self, y1]
theorem l_LtA (he : e ≤ 54) {k : Nat} (hk : k < n) (hn : n ≤ 3) (h : IB D M f nF nT l N r0 r1 (pR y R e k)) {v18 v19 v20 : Value} : ∃ M1, IB D M1 f nF nT l N r0 r1 (pR y R e (k + 1)) ∧ ∀ Q, Runs ML_law 366 [.ref 0, .ref 1, .ref 853, .ref 854, .ref 855, .ref 856, .ref 857, .ref 858, .ref 859, .ref 860, .int tu, .int x, .int y, .int ki, .int fx, .int (nI e), .int (nI n), .int (nI k), v18, v19, v20] [] D M z Q = Runs ML_law 459 [.ref 0, .ref 1, .ref 853, .ref 854, .ref 855, .ref 856, .ref 857, .ref 858, .ref 859, .ref 860, .int tu, .int x, .int y, .int ki, .int fx, .int (nI e), .int (nI n), .int (nI k), .int (nI (skY y k)), .int (nI (wkY y k)), .int (nI (paY y k))] [] D M1 z Q := by
  have h2 := h.wr (k := e + 6 + k) (v := nI (pkY y k))
  rw [pR_s] at h2
  have hD := h.2.1.2.1
  simp only [IsL, Nat.reduceAdd] at hD
  have hlt : ¬ n ≤ k := by omega
  have l1 := lwN_lt (y >>> (nI (3 * k + 1) &&& 31)) (n := 5) (by decide)
  have l2 := lwN_lt (y >>> (nI (4 * k + 2) &&& 31)) (n := 9) (by decide)
  have l3 := lwN_lt (y >>> (nI (2 * k + 5) &&& 31)) (n := 8) (by decide)
  refine ⟨_, h2, fun Q => ?_⟩
  rw [sL_law_366]
  by_cases hp : lwN (y >>> (nI (2 * k + 5) &&& 31)) 8 < 4
  · have hp2 : ¬ 4 ≤ lwN (y >>> (nI (2 * k + 5) &&& 31)) 8 := by omega
    have e1 : pkY y k = 100 * lwN (y >>> (nI (3 * k + 1) &&& 31)) 5 + 10 * (1 + lwN (y >>> (nI (4 * k + 2) &&& 31)) 9) + (lwN (y >>> (nI (2 * k + 5) &&& 31)) 8 + 1) := by
      unfold pkY skY wkY paY
      rw [if_pos hp]
    rw [e1]
    simp (disch := omega) only [sL_law_368, sL_law_370, sL_law_373, sL_law_375, sL_law_376, sL_law_378, sL_law_379, sL_law_380, sL_law_381, sL_law_382, sL_law_383, sL_law_386, sL_law_388, sL_law_389, sL_law_391, sL_law_392, sL_law_394, sL_law_395, sL_law_396, sL_law_397, sL_law_398, sL_law_400, sL_law_403, sL_law_404, sL_law_406, sL_law_408, sL_law_409, sL_law_411, sL_law_412, sL_law_413, sL_law_414, sL_law_415, sL_law_417, sL_law_420, sL_law_422, sL_law_424, sL_law_426, sL_law_428, sL_law_429, sL_law_431, sL_law_432, sL_law_434, sL_law_436, sL_law_437, sL_law_439, sL_law_441, sL_law_442, sL_law_443, sL_law_445, sL_law_446, sL_law_449, sL_law_451, sL_law_452, sL_law_453, sL_law_456, sL_law_457, sL_law_458, hD, hlt, hp2, y_low, true_and, and_true, true_or, or_true, eq_self, ↓reduceIte, if_true, if_false, nI_add, nI_mul, inB_nI, nI_clamp, Nat.add_zero, eqI, ltI, leI, m6_ne, ne_m6, Nat.reduceEqDiff, reduceCtorEq, Nat.reduceLT, Nat.reduceLeDiff, Nat.reduceAdd, Nat.reduceMul, Nat.zero_add, Nat.mul_zero, nar_0, nar_1, nar_b, bI_t, bI_f, bI_0, bI_1, Bool.true_eq_false, Bool.false_eq_true, Bool.and_self, Bool.and_false, Bool.false_and, Bool.true_and, Bool.and_true, and_self]
    rfl
  · have hp2 : 4 ≤ lwN (y >>> (nI (2 * k + 5) &&& 31)) 8 := by omega
    have e1 : pkY y k = 100 * lwN (y >>> (nI (3 * k + 1) &&& 31)) 5 + 10 * (1 + lwN (y >>> (nI (4 * k + 2) &&& 31)) 9) := by
      unfold pkY skY wkY paY
      rw [if_neg hp]
      rfl
    rw [e1]
    simp (disch := omega) only [sL_law_368, sL_law_370, sL_law_373, sL_law_375, sL_law_376, sL_law_378, sL_law_379, sL_law_380, sL_law_381, sL_law_382, sL_law_383, sL_law_386, sL_law_388, sL_law_389, sL_law_391, sL_law_392, sL_law_394, sL_law_395, sL_law_396, sL_law_397, sL_law_398, sL_law_400, sL_law_403, sL_law_404, sL_law_406, sL_law_408, sL_law_409, sL_law_411, sL_law_412, sL_law_413, sL_law_414, sL_law_415, sL_law_417, sL_law_420, sL_law_422, sL_law_424, sL_law_426, sL_law_428, sL_law_429, sL_law_431, sL_law_432, sL_law_434, sL_law_436, sL_law_437, sL_law_439, sL_law_441, sL_law_442, sL_law_443, sL_law_445, sL_law_446, sL_law_449, sL_law_451, sL_law_452, sL_law_453, sL_law_456, sL_law_457, sL_law_458, hD, hlt, hp2, y_low, true_and, and_true, true_or, or_true, eq_self, ↓reduceIte, if_true, if_false, nI_add, nI_mul, inB_nI, nI_clamp, Nat.add_zero, eqI, ltI, leI, m6_ne, ne_m6, Nat.reduceEqDiff, reduceCtorEq, Nat.reduceLT, Nat.reduceLeDiff, Nat.reduceAdd, Nat.reduceMul, Nat.zero_add, Nat.mul_zero, nar_0, nar_1, nar_b, bI_t, bI_f, bI_0, bI_1, Bool.true_eq_false, Bool.false_eq_true, Bool.and_self, Bool.and_false, Bool.false_and, Bool.true_and, Bool.and_true, and_self]
    rfl
theorem l_LtB {k : Nat} (hk : k < 3) (hz : 861 ≤ z.1) (hl : l.length < 60) (h : IB D M f nF nT l N r0 r1 R) {v15 v16 v18 v19 v20 : Value} : ∃ D1 M1, IB D1 M1 f nF nT (l ++ if k = 0 then [] else [44]) N r0 r1 R ∧ ∀ Q, Runs ML_law 459 [.ref 0, .ref 1, .ref 853, .ref 854, .ref 855, .ref 856, .ref 857, .ref 858, .ref 859, .ref 860, .int tu, .int x, .int y, .int ki, .int fx, v15, v16, .int (nI k), v18, v19, v20] [] D M z Q = Runs ML_law 475 [.ref 0, .ref 1, .ref 853, .ref 854, .ref 855, .ref 856, .ref 857, .ref 858, .ref 859, .ref 860, .int tu, .int x, .int y, .int ki, .int fx, v15, v16, .int (nI k), v18, v19, v20] [] D1 M1 z Q := by
  by_cases h0 : k = 0
  · subst h0
    rw [if_pos rfl, List.append_nil]
    refine ⟨D, M, h, fun Q => ?_⟩
    simp (disch := omega) only [sL_law_459, sL_law_461, sL_law_464, sL_law_465, sL_law_468, sL_law_471, sL_law_472, true_and, and_true, true_or, or_true, eq_self, ↓reduceIte, if_true, if_false, nI_add, nI_mul, inB_nI, nI_clamp, Nat.add_zero, eqI, ltI, leI, m6_ne, ne_m6, Nat.reduceEqDiff, reduceCtorEq, Nat.reduceLT, Nat.reduceLeDiff, Nat.reduceAdd, Nat.reduceMul, Nat.zero_add, Nat.mul_zero, nar_0, nar_1, nar_b, bI_t, bI_f, bI_0, bI_1, Bool.true_eq_false, Bool.false_eq_true, Bool.and_self, Bool.and_false, Bool.false_and, Bool.true_and, Bool.and_true, and_self, Nat.le_refl]
  · rw [if_neg h0]
    obtain ⟨D1, M1, h1, y1⟩ := h.put hz (c := 44) (by decide) (by decide) hl
    have h2 : ¬ k ≤ 0 := by omega
    have h3 : ¬ l.length + 1 < 1 := by omega
    have k6 := CK.k6 h.1
    refine ⟨D1, M1, h1, fun Q => ?_⟩
    simp (disch := omega) only [sL_law_459, sL_law_461, sL_law_464, sL_law_465, sL_law_468, sL_law_471, sL_law_472, k6, h2, h3, L44, y1, true_and, and_true, true_or, or_true, eq_self, ↓reduceIte, if_true, if_false, nI_add, nI_mul, inB_nI, nI_clamp, Nat.add_zero, eqI, ltI, leI, m6_ne, ne_m6, Nat.reduceEqDiff, reduceCtorEq, Nat.reduceLT, Nat.reduceLeDiff, Nat.reduceAdd, Nat.reduceMul, Nat.zero_add, Nat.mul_zero, nar_0, nar_1, nar_b, bI_t, bI_f, bI_0, bI_1, Bool.true_eq_false, Bool.false_eq_true, Bool.and_self, Bool.and_false, Bool.false_and, Bool.true_and, Bool.and_true, and_self]
theorem l_LtC {s w q : Nat} (hs : s < 5) (hw : w ≤ 9) (hz : 861 ≤ z.1) (hl : l.length < 50) (h : IB D M f nF nT l N r0 r1 R) {v15 v16 : Value} {k : Nat} : ∃ D1 M1, IB D1 M1 f nF nT (l ++ [48 + s] ++ [48 + w]) N r0 r1 R ∧ ∀ Q, Runs ML_law 475 [.ref 0, .ref 1, .ref 853, .ref 854, .ref 855, .ref 856, .ref 857, .ref 858, .ref 859, .ref 860, .int tu, .int x, .int y, .int ki, .int fx, v15, v16, .int (nI k), .int (nI s), .int (nI w), .int (nI q)] [] D M z Q = Runs ML_law 503 [.ref 0, .ref 1, .ref 853, .ref 854, .ref 855, .ref 856, .ref 857, .ref 858, .ref 859, .ref 860, .int tu, .int x, .int y, .int ki, .int fx, v15, v16, .int (nI k), .int (nI s), .int (nI w), .int (nI q)] [] D1 M1 z Q := by
  obtain ⟨D1, M1, h1, y1⟩ := h.put hz (c := 48 + s) (by omega) (by omega) (by omega)
  have ll : (l ++ [48 + s]).length = l.length + 1 := by rw [List.length_append]; rfl
  obtain ⟨D2, M2, h2, y2⟩ := h1.put hz (c := 48 + w) (by omega) (by omega) (by omega)
  rw [ll] at y2
  have n1 : ¬ l.length + 1 < 1 := by omega
  have n2 : ¬ l.length + 1 + 1 < 1 := by omega
  have k6 := CK.k6 h.1
  have k61 := CK.k6 h1.1
  refine ⟨D2, M2, h2, fun Q => ?_⟩
  simp (disch := omega) only [sL_law_475, sL_law_476, sL_law_478, sL_law_480, sL_law_481, sL_law_482, sL_law_485, sL_law_486, sL_law_489, sL_law_490, sL_law_492, sL_law_494, sL_law_495, sL_law_496, sL_law_499, sL_law_500, k6, k61, i2l_nI, n1, n2, y1, y2, Nat.add_assoc, nI_add, true_and, true_or, or_true, if_false, ltI, ↓reduceIte]
theorem l_LtD {q : Nat} (hq : q < 8) (hz : 861 ≤ z.1) (hl : l.length < 50) (h : IB D M f nF nT l N r0 r1 R) {v15 v16 v18 v19 : Value} {k : Nat} (hk : k < 3) : ∃ D1 M1, IB D1 M1 f nF nT (l ++ if q < 4 then [112, 48 + q] else []) N r0 r1 R ∧ ∀ Q, Runs ML_law 503 [.ref 0, .ref 1, .ref 853, .ref 854, .ref 855, .ref 856, .ref 857, .ref 858, .ref 859, .ref 860, .int tu, .int x, .int y, .int ki, .int fx, v15, v16, .int (nI k), v18, v19, .int (nI q)] [] D M z Q = Runs ML_law 366 [.ref 0, .ref 1, .ref 853, .ref 854, .ref 855, .ref 856, .ref 857, .ref 858, .ref 859, .ref 860, .int tu, .int x, .int y, .int ki, .int fx, v15, v16, .int (nI (k + 1)), v18, v19, .int (nI q)] [] D1 M1 z Q := by
  by_cases hp : q < 4
  · rw [if_pos hp]
    obtain ⟨D1, M1, h1, y1⟩ := h.put hz (c := 112) (by decide) (by decide) (by omega)
    have ll : (l ++ [112]).length = l.length + 1 := by rw [List.length_append]; rfl
    obtain ⟨D2, M2, h2, y2⟩ := h1.put hz (c := 48 + q) (by omega) (by omega) (by omega)
    rw [ll] at y2
    rw [List.append_assoc] at h2
    have n0 : ¬ 4 ≤ q := by omega
    have n1 : ¬ l.length + 1 < 1 := by omega
    have n2 : 1 ≤ l.length + 1 + 1 := by omega
    have k6 := CK.k6 h.1
    have k61 := CK.k6 h1.1
    refine ⟨D2, M2, h2, fun Q => ?_⟩
    simp (disch := omega) only [sL_law_503, sL_law_505, sL_law_506, sL_law_509, sL_law_510, sL_law_513, sL_law_516, sL_law_517, sL_law_520, sL_law_521, sL_law_523, sL_law_525, sL_law_526, sL_law_527, sL_law_530, sL_law_531, sL_law_534, sL_law_535, sL_law_536, sL_law_539, k6, k61, i2l_nI, L112, n0, n1, n2, y1, y2, true_and, and_true, true_or, or_true, eq_self, ↓reduceIte, if_true, if_false, nI_add, nI_mul, inB_nI, nI_clamp, Nat.add_zero, eqI, ltI, leI, m6_ne, ne_m6, Nat.reduceEqDiff, reduceCtorEq, Nat.reduceLT, Nat.reduceLeDiff, Nat.reduceAdd, Nat.reduceMul, Nat.zero_add, Nat.mul_zero, nar_0, nar_1, nar_b, bI_t, bI_f, bI_0, bI_1, Bool.true_eq_false, Bool.false_eq_true, Bool.and_self, Bool.and_false, Bool.false_and, Bool.true_and, Bool.and_true, and_self]
  · rw [if_neg hp, List.append_nil]
    have n0 : 4 ≤ q := by omega
    refine ⟨D, M, h, fun Q => ?_⟩
    simp (disch := omega) only [sL_law_503, sL_law_505, sL_law_506, sL_law_509, sL_law_510, sL_law_513, sL_law_516, sL_law_517, sL_law_520, sL_law_521, sL_law_523, sL_law_525, sL_law_526, sL_law_527, sL_law_530, sL_law_531, sL_law_534, sL_law_535, sL_law_536, sL_law_539, n0, true_and, and_true, true_or, or_true, eq_self, ↓reduceIte, if_true, if_false, nI_add, nI_mul, inB_nI, nI_clamp, Nat.add_zero, eqI, ltI, leI, m6_ne, ne_m6, Nat.reduceEqDiff, reduceCtorEq, Nat.reduceLT, Nat.reduceLeDiff, Nat.reduceAdd, Nat.reduceMul, Nat.zero_add, Nat.mul_zero, nar_0, nar_1, nar_b, bI_t, bI_f, bI_0, bI_1, Bool.true_eq_false, Bool.false_eq_true, Bool.and_self, Bool.and_false, Bool.false_and, Bool.true_and, Bool.and_true, and_self]
theorem sk_lt (k : Nat) : skY y k < 5 := lwN_lt _ (by decide)
theorem wk_lt (k : Nat) : 1 ≤ wkY y k ∧ wkY y k ≤ 9 := by
  have := lwN_lt (y >>> (nI (4 * k + 2) &&& 31)) (n := 9) (by decide)
  unfold wkY
  omega
theorem pa_lt (k : Nat) : paY y k < 8 := lwN_lt _ (by decide)
theorem l_Lt (he : e ≤ 54) (hn : n ≤ 3) (hz : 861 ≤ z.1) : ∀ d k (D : vDD) (M : vMM) (v18 v19 v20 : Value), k + d = n → IB D M f nF nT (txP (skY y) (wkY y) (paY y) k) N r0 r1 (pR y R e k) → ∃ D1 M1 w18 w19 w20, IB D1 M1 f nF nT (txP (skY y) (wkY y) (paY y) n) N r0 r1 (pR y R e n) ∧ ∀ Q, Runs ML_law 366 [.ref 0, .ref 1, .ref 853, .ref 854, .ref 855, .ref 856, .ref 857, .ref 858, .ref 859, .ref 860, .int tu, .int x, .int y, .int ki, .int fx, .int (nI e), .int (nI n), .int (nI k), v18, v19, v20] [] D M z Q = Runs ML_law 542 [.ref 0, .ref 1, .ref 853, .ref 854, .ref 855, .ref 856, .ref 857, .ref 858, .ref 859, .ref 860, .int tu, .int x, .int y, .int ki, .int fx, .int (nI e), .int (nI n), .int (nI n), w18, w19, w20] [] D1 M1 z Q := by
  intro d
  induction d with
  | zero =>
    intro k D M v18 v19 v20 hk h
    obtain rfl : k = n := by omega
    refine ⟨D, M, v18, v19, v20, h, fun Q => ?_⟩
    rw [sL_law_366]
    simp (disch := omega) only [sL_law_368, sL_law_370, true_and, and_true, true_or, or_true, eq_self, ↓reduceIte, if_true, if_false, nI_add, nI_mul, inB_nI, nI_clamp, Nat.add_zero, eqI, ltI, leI, m6_ne, ne_m6, Nat.reduceEqDiff, reduceCtorEq, Nat.reduceLT, Nat.reduceLeDiff, Nat.reduceAdd, Nat.reduceMul, Nat.zero_add, Nat.mul_zero, nar_0, nar_1, nar_b, bI_t, bI_f, bI_0, bI_1, Bool.true_eq_false, Bool.false_eq_true, Bool.and_self, Bool.and_false, Bool.false_and, Bool.true_and, Bool.and_true, and_self, Nat.le_refl]
  | succ d ih =>
    intro k D M v18 v19 v20 hk h
    have tl := tx_len (sk := skY y) (wk := wkY y) (pa := paY y) k
    obtain ⟨M1, h1, y1⟩ := l_LtA (z := z) (tu := tu) (x := x) (ki := ki) (fx := fx) he (k := k) (by omega) hn h (v18 := v18) (v19 := v19) (v20 := v20)
    obtain ⟨D2, M2, h2, y2⟩ := l_LtB (z := z) (tu := tu) (x := x) (y := y) (ki := ki) (fx := fx) (k := k) (by omega) hz (by omega) h1 (v15 := .int (nI e)) (v16 := .int (nI n)) (v18 := .int (nI (skY y k))) (v19 := .int (nI (wkY y k))) (v20 := .int (nI (paY y k)))
    have l2 : (txP (skY y) (wkY y) (paY y) k ++ if k = 0 then [] else [44]).length < 40 := by
      rw [List.length_append]
      have : (if k = 0 then ([] : List Nat) else [44]).length ≤ 1 := by
        split
        · exact Nat.zero_le _
        · exact Nat.le_refl _
      omega
    obtain ⟨D3, M3, h3, y3⟩ := l_LtC (z := z) (tu := tu) (x := x) (y := y) (ki := ki) (fx := fx) (s := skY y k) (w := wkY y k) (q := paY y k) (k := k) (sk_lt k) (wk_lt k).2 hz (by omega) h2 (v15 := .int (nI e)) (v16 := .int (nI n))
    have l3 : (txP (skY y) (wkY y) (paY y) k ++ (if k = 0 then [] else [44]) ++ [48 + skY y k] ++ [48 + wkY y k]).length < 50 := by
      rw [List.length_append, List.length_append (bs := [48 + skY y k])]
      show _ + 1 + 1 < 50
      omega
    obtain ⟨D4, M4, h4, y4⟩ := l_LtD (z := z) (tu := tu) (x := x) (y := y) (ki := ki) (fx := fx) (q := paY y k) (k := k) (pa_lt k) hz l3 h3 (by omega) (v15 := .int (nI e)) (v16 := .int (nI n)) (v18 := .int (nI (skY y k))) (v19 := .int (nI (wkY y k)))
    have et : txP (skY y) (wkY y) (paY y) k ++ (if k = 0 then [] else [44]) ++ [48 + skY y k] ++ [48 + wkY y k] ++ (if paY y k < 4 then [112, 48 + paY y k] else []) = txP (skY y) (wkY y) (paY y) (k + 1) := by
      show _ = txP (skY y) (wkY y) (paY y) k ++ ((if k = 0 then [] else [44]) ++ ((48 + skY y k) :: (48 + wkY y k) :: (if paY y k < 4 then [112, 48 + paY y k] else [])))
      simp only [List.append_assoc, List.cons_append, List.nil_append]
    rw [et] at h4
    obtain ⟨D5, M5, w18, w19, w20, h5, y5⟩ := ih (k + 1) D4 M4 (.int (nI (skY y k))) (.int (nI (wkY y k))) (.int (nI (paY y k))) (by omega) h4
    exact ⟨D5, M5, w18, w19, w20, h5, fun Q => by rw [y1, y2, y3, y4, y5]⟩
/-- the weakness -/
theorem l_LtE (he : e ≤ 54) (hz : 861 ≤ z.1) (hl : l.length < 50) (h : IB D M f nF nT l N r0 r1 R) {v16 v17 v18 v19 v20 : Value} : ∃ w D1 M1, w ≤ 3 ∧ IB D1 M1 f nF nT (l ++ wkP w) N r0 r1 (upd R (e + 5) (nI w)) ∧ ∀ Q, Runs ML_law 542 [.ref 0, .ref 1, .ref 853, .ref 854, .ref 855, .ref 856, .ref 857, .ref 858, .ref 859, .ref 860, .int tu, .int x, .int y, .int ki, .int fx, .int (nI e), v16, v17, v18, v19, v20] [] D M z Q = Runs ML_law 613 [.ref 0, .ref 1, .ref 853, .ref 854, .ref 855, .ref 856, .ref 857, .ref 858, .ref 859, .ref 860, .int tu, .int x, .int y, .int ki, .int fx, .int (nI e), v16, v17, v18, v19, v20] [] D1 M1 z Q := by
  have hD := h.2.1.2.1
  have k6 := CK.k6 h.1
  simp only [IsL, Nat.reduceAdd] at hD
  have l1 := lwN_lt (x >>> (nI 5 &&& 31)) (n := 2) (by decide)
  have l2 := lwN_lt (x >>> (nI 6 &&& 31)) (n := 4) (by decide)
  obtain ⟨w, hw, y1⟩ : ∃ w, w ≤ 3 ∧ ∀ Q, Runs ML_law 542 [.ref 0, .ref 1, .ref 853, .ref 854, .ref 855, .ref 856, .ref 857, .ref 858, .ref 859, .ref 860, .int tu, .int x, .int y, .int ki, .int fx, .int (nI e), v16, v17, v18, v19, v20] [] D M z Q = Runs ML_law 573 [.ref 0, .ref 1, .ref 853, .ref 854, .ref 855, .ref 856, .ref 857, .ref 858, .ref 859, .ref 860, .int tu, .int x, .int y, .int ki, .int fx, .int (nI e), v16, v17, v18, v19, v20] [] D (up2 M 855 (e + 5) (nI w)) z Q := by
    by_cases q : lwN (x >>> (nI 5 &&& 31)) 2 = 0
    · refine ⟨lwN (x >>> (nI 6 &&& 31)) 4, by omega, fun Q => ?_⟩
      simp (disch := omega) only [sL_law_542, sL_law_544, sL_law_546, sL_law_547, sL_law_548, sL_law_550, sL_law_551, sL_law_552, sL_law_553, sL_law_556, sL_law_559, sL_law_561, sL_law_563, sL_law_564, sL_law_565, sL_law_568, sL_law_571, sL_law_572, hD, y_low, q, true_and, and_true, true_or, or_true, eq_self, ↓reduceIte, if_true, if_false, nI_add, nI_mul, inB_nI, nI_clamp, Nat.add_zero, eqI, ltI, leI, m6_ne, ne_m6, Nat.reduceEqDiff, reduceCtorEq, Nat.reduceLT, Nat.reduceLeDiff, Nat.reduceAdd, Nat.reduceMul, Nat.zero_add, Nat.mul_zero, nar_0, nar_1, nar_b, bI_t, bI_f, bI_0, bI_1, Bool.true_eq_false, Bool.false_eq_true, Bool.and_self, Bool.and_false, Bool.false_and, Bool.true_and, Bool.and_true, and_self]
    · refine ⟨0, by decide, fun Q => ?_⟩
      simp (disch := omega) only [sL_law_542, sL_law_544, sL_law_546, sL_law_547, sL_law_548, sL_law_550, sL_law_551, sL_law_552, sL_law_553, sL_law_556, sL_law_559, sL_law_561, sL_law_563, sL_law_564, sL_law_565, sL_law_568, sL_law_571, sL_law_572, hD, y_low, q, true_and, and_true, true_or, or_true, eq_self, ↓reduceIte, if_true, if_false, nI_add, nI_mul, inB_nI, nI_clamp, Nat.add_zero, eqI, ltI, leI, m6_ne, ne_m6, Nat.reduceEqDiff, reduceCtorEq, Nat.reduceLT, Nat.reduceLeDiff, Nat.reduceAdd, Nat.reduceMul, Nat.zero_add, Nat.mul_zero, nar_0, nar_1, nar_b, bI_t, bI_f, bI_0, bI_1, Bool.true_eq_false, Bool.false_eq_true, Bool.and_self, Bool.and_false, Bool.false_and, Bool.true_and, Bool.and_true, and_self]
  have h1 := h.wr (k := e + 5) (v := nI w)
  have rd : ∀ (M : vMM), M 855 = upd R (e + 5) (nI w) → M 855 (e + 5) = nI w := fun M q => by rw [q, upd_eq]
  have r1 := rd _ h1.2.2.2.2
  by_cases hw0 : 0 < w
  · obtain ⟨D2, M2, h2, y2⟩ := h1.put hz (c := 33) (by decide) (by decide) (by omega)
    have ll : (l ++ [33]).length = l.length + 1 := by rw [List.length_append]; rfl
    have hD2 := h2.2.1.2.1
    simp only [IsL, Nat.reduceAdd] at hD2
    have r2 := rd _ h2.2.2.2.2
    obtain ⟨D3, M3, h3, y3⟩ := h2.put hz (c := 48 + w) (by omega) (by omega) (by omega)
    rw [ll] at y3
    rw [List.append_assoc] at h3
    have n0 : ¬ w ≤ 0 := by omega
    have n1 : ¬ l.length + 1 < 1 := by omega
    have n2 : ¬ l.length + 1 + 1 < 1 := by omega
    have k62 := CK.k6 h2.1
    refine ⟨w, D3, M3, hw, ?_, fun Q => ?_⟩
    · unfold wkP
      rw [if_pos hw0]
      exact h3
    · rw [y1]
      simp (disch := omega) only [sL_law_573, sL_law_575, sL_law_577, sL_law_578, sL_law_579, sL_law_580, sL_law_583, sL_law_584, sL_law_587, sL_law_590, sL_law_591, sL_law_594, sL_law_595, sL_law_597, sL_law_599, sL_law_601, sL_law_602, sL_law_603, sL_law_604, sL_law_605, sL_law_606, sL_law_609, sL_law_610, hD, hD2, k6, k62, r1, r2, i2l_nI, L33, n0, n1, n2, y2, y3, true_and, true_or, or_true, and_true, inB_nI, nI_clamp, leI, ltI, nI_add, if_false, ↓reduceIte]
  · have n0 : w ≤ 0 := by omega
    refine ⟨w, D, up2 M 855 (e + 5) (nI w), hw, ?_, fun Q => ?_⟩
    · unfold wkP
      rw [if_neg hw0, List.append_nil]
      exact h1
    · rw [y1]
      simp (disch := omega) only [sL_law_573, sL_law_575, sL_law_577, sL_law_578, sL_law_579, sL_law_580, sL_law_583, sL_law_584, sL_law_587, sL_law_590, sL_law_591, sL_law_594, sL_law_595, sL_law_597, sL_law_599, sL_law_601, sL_law_602, sL_law_603, sL_law_604, sL_law_605, sL_law_606, sL_law_609, sL_law_610, hD, k6, r1, n0, true_and, and_true, true_or, or_true, eq_self, ↓reduceIte, if_true, if_false, nI_add, nI_mul, inB_nI, nI_clamp, Nat.add_zero, eqI, ltI, leI, m6_ne, ne_m6, Nat.reduceEqDiff, reduceCtorEq, Nat.reduceLT, Nat.reduceLeDiff, Nat.reduceAdd, Nat.reduceMul, Nat.zero_add, Nat.mul_zero, nar_0, nar_1, nar_b, bI_t, bI_f, bI_0, bI_1, Bool.true_eq_false, Bool.false_eq_true, Bool.and_self, Bool.and_false, Bool.false_and, Bool.true_and, Bool.and_true, and_self]
end BRG
