/-! longs as numbers -/
def uL (n : Nat) : Int64 := (UInt64.ofNat n).toInt64
theorem uL_all (x : Int64) : uL x.toUInt64.toNat = x := by
  unfold uL
  rw [UInt64.ofNat_toNat]
  rfl
theorem uL_u {n : Nat} (h : n < 2 ^ 64) : (uL n).toUInt64.toNat = n := by
  unfold uL
  rw [UInt64.toUInt64_toInt64, UInt64.toNat_ofNat_of_lt' h]
theorem uL_inj {x y : Int64} (h : x.toUInt64.toNat = y.toUInt64.toNat) : x = y := by
  rw [← uL_all x, ← uL_all y, h]
theorem sh_8 {k : Nat} (h : k < 8) : (nI (8 * k)).toInt64.toUInt64 &&& Int64.toUInt64 63 = UInt64.ofNat (8 * k) := by
  rcases (by omega : k = 0 ∨ k = 1 ∨ k = 2 ∨ k = 3 ∨ k = 4 ∨ k = 5 ∨ k = 6 ∨ k = 7) with rfl | rfl | rfl | rfl | rfl | rfl | rfl | rfl <;> decide +kernel
theorem uL_shr {n k : Nat} (h : n < 2 ^ 64) (hk : k < 8) : ((uL n).toUInt64 >>> ((nI (8 * k)).toInt64.toUInt64 &&& Int64.toUInt64 63)).toInt64 = uL (n / 256 ^ k) := by
  have h2 : n / 256 ^ k < 2 ^ 64 := Nat.lt_of_le_of_lt (Nat.div_le_self _ _) h
  apply uL_inj
  rw [sh_8 hk, UInt64.toUInt64_toInt64, UInt64.toNat_shiftRight, uL_u h, uL_u h2, UInt64.toNat_ofNat_of_lt' (by show 8 * k < 2 ^ 64; omega), Nat.mod_eq_of_lt (by omega : 8 * k < 64), Nat.shiftRight_eq_div_pow, Nat.pow_mul]
theorem uL_and {n : Nat} (h : n < 2 ^ 64) : uL n &&& 255 = uL (n % 256) := by
  have h2 : n % 256 < 2 ^ 64 := by omega
  apply uL_inj
  rw [uL_u h2, Int64.toUInt64_and, UInt64.toNat_and, uL_u h]
  exact Nat.and_two_pow_sub_one_eq_mod n 8
theorem uL_int {c : Nat} (h : c < 256) : (uL c).toInt32 = nI c := by
  have : ∀ c : Fin 256, (uL c.1).toInt32 = nI c.1 := by decide +kernel
  exact this ⟨c, h⟩
theorem uL_0 {a : Nat} (h : a < 2 ^ 64) : (lg_cmp (uL a) 0 = nI 0) = (a = 0) := by
  have h1 : (uL a = 0) ↔ a = 0 := by
    constructor
    · intro q
      have := congrArg (fun x => x.toUInt64.toNat) q
      simp only [uL_u h] at this
      exact this
    · intro q
      rw [q]
      rfl
  rw [← propext h1]
  unfold lg_cmp
  simp only [eq_iff_iff]
  constructor
  · intro q
    by_cases g : uL a > 0
    · rw [if_pos g] at q
      exact absurd q (by decide +kernel)
    · rw [if_neg g] at q
      by_cases e : uL a = 0
      · exact e
      · rw [if_neg e] at q
        exact absurd q (by decide +kernel)
  · intro q
    rw [q]
    decide +kernel
/-- byte i -/
def byN (n i : Nat) : Nat := n / 256 ^ i % 256
theorem byN_lt (n i : Nat) : byN n i < 256 := Nat.mod_lt _ (by decide)
def szF (b : Nat → Nat) : Nat → Nat → Nat
  | 0, i => i
  | k + 1, i => if b i = 0 then i else szF b k (i + 1)
def okF (b : Nat → Nat) : Nat → Nat → Bool
  | 0, _ => true
  | k + 1, i => if b i = 0 then true else (decide (33 ≤ b i) && decide (b i ≤ 126)) && okF b k (i + 1)
def putN (n : Nat) : Nat := if (okF (byN n) 8 0 && decide (n / 256 ^ (szF (byN n) 8 0) = 0)) = true then szF (byN n) 8 0 else 0
theorem szF_le (b : Nat → Nat) : ∀ k i, i ≤ szF b k i ∧ szF b k i ≤ i + k
  | 0, i => ⟨Nat.le_refl _, Nat.le_refl _⟩
  | k + 1, i => by
    unfold szF
    split
    · omega
    · have := szF_le b k (i + 1)
      omega
theorem okF_in (b : Nat → Nat) : ∀ k i, okF b k i = true → ∀ j, i ≤ j → j < szF b k i → 33 ≤ b j ∧ b j ≤ 126
  | 0, i, _, j, h1, h2 => by unfold szF at h2; omega
  | k + 1, i, h, j, h1, h2 => by
    unfold szF at h2
    unfold okF at h
    by_cases e : b i = 0
    · rw [if_pos e] at h2; omega
    · rw [if_neg e] at h h2
      simp only [Bool.and_eq_true, decide_eq_true_eq] at h
      by_cases ej : j = i
      · subst ej; exact h.1
      · exact okF_in b k (i + 1) h.2 j (by omega) h2
theorem putN_le (n : Nat) : putN n ≤ 8 := by
  unfold putN
  split
  · have := szF_le (byN n) 8 0
    omega
  · omega
theorem putN_in {n j : Nat} (h : j < putN n) : 33 ≤ byN n j ∧ byN n j ≤ 126 := by
  unfold putN at h
  split at h
  · rename_i q
    simp only [Bool.and_eq_true, decide_eq_true_eq] at q
    exact okF_in (byN n) 8 0 q.1 j (Nat.zero_le _) h
  · omega
theorem n_div {n k : Nat} (h : n < 2 ^ 64) : n / 256 ^ k < 2 ^ 64 := Nat.lt_of_le_of_lt (Nat.div_le_self _ _) h
theorem n_div1 {n k : Nat} (h : n < 2 ^ 64) : ((uL (n / 256 ^ k)).toUInt64 >>> ((nI 8).toInt64.toUInt64 &&& Int64.toUInt64 63)).toInt64 = uL (n / 256 ^ (k + 1)) := by
  have := uL_shr (n := n / 256 ^ k) (k := 1) (n_div h) (by decide)
  rw [Nat.div_div_eq_div_mul, ← Nat.pow_add] at this
  exact this
theorem c_in126 {n i : Nat} : (decide (nI 33 ≤ nI (byN n i)) && decide (nI (byN n i) ≤ nI 126)) = (decide (33 ≤ byN n i) && decide (byN n i ≤ 126)) := by
  have := byN_lt n i
  simp only [leI _ _ (by decide : 33 < 2 ^ 31) (by omega : byN n i < 2 ^ 31), leI _ _ (by omega : byN n i < 2 ^ 31) (by decide : 126 < 2 ^ 31)]
theorem byN_z {n i : Nat} (h : n < 2 ^ 64) : (lg_cmp (uL (n / 256 ^ i % 256)) 0 = nI 0) = (byN n i = 0) := uL_0 (by omega)
/-- a pad with more characters -/
def apC (n s L j : Nat) (ch : Nat → Nat) : Nat → Nat := fun q => if L ≤ q ∧ q < L + j then byN n (s - 1 - (q - L)) else ch q
def apR (n s L j : Nat) (row : Nat → Int32) : Nat → Int32 := fun q => if L ≤ q ∧ q < L + j then nI (byN n (s - 1 - (q - L))) else row q
theorem apR_0 {n s L : Nat} {row : Nat → Int32} : apR n s L 0 row = row := by
  funext q
  unfold apR
  rw [if_neg (by omega)]
theorem apR_s {n s L j : Nat} {row : Nat → Int32} : upd (apR n s L j row) (L + j) (nI (byN n (s - 1 - j))) = apR n s L (j + 1) row := by
  funext q
  unfold upd apR
  by_cases h : q = L + j
  · rw [if_pos h, if_pos (by omega)]
    congr 3
    omega
  · rw [if_neg h]
    by_cases h2 : L ≤ q ∧ q < L + j
    · rw [if_pos h2, if_pos (by omega)]
    · rw [if_neg h2, if_neg (by omega)]
theorem nI_m1 {a : Nat} (h : 1 ≤ a) : nI a + m1 = nI (a - 1) := by
  rw [← nI_sub a 1 h, Int32.sub_eq_add_neg]
  rfl
theorem m1_neg : m1 < nI 0 := by decide +kernel
section PUT
variable {D : vDD} {m : vMM} {f : Nat → Int32} {z : vZZ} {Q : Value → vDD → vMM → vZZ → Prop} {L n : Nat} {ch : Nat → Nat}
theorem l_put1 (hn : n < 2 ^ 64) {v7 : Value} {x : Int64} : ∀ (k i : Nat) (b : Bool), i + k = 8 → Runs MX7_put 8 [.ref 853, .long x, vJ, .int (nI i), .long (uL (n / 256 ^ i)), vJ, .int (bI b), v7] [] D m z Q = Runs MX7_put 67 [.ref 853, .long x, vJ, .int (nI (szF (byN n) k i)), .long (uL (n / 256 ^ (szF (byN n) k i))), vJ, .int (bI (b && okF (byN n) k i)), v7] [] D m z Q := by
  intro k
  induction k with
  | zero =>
    intro i b hi
    obtain rfl : i = 8 := by omega
    rw [sX7_put_8]
    simp (disch := omega) only [sX7_put_9, sX7_put_11, sX7_put_14, sX7_put_16, sX7_put_19, sX7_put_20, sX7_put_21, sX7_put_22, sX7_put_25, sX7_put_27, sX7_put_30, sX7_put_32, sX7_put_35, sX7_put_36, sX7_put_37, sX7_put_39, sX7_put_41, sX7_put_44, sX7_put_47, sX7_put_48, sX7_put_51, sX7_put_52, sX7_put_54, sX7_put_56, sX7_put_58, sX7_put_59, sX7_put_61, sX7_put_64, true_and, and_true, true_or, or_true, eq_self, ↓reduceIte, if_true, if_false, nI_add, nI_mul, inB_nI, nI_clamp, Nat.add_zero, eqI, ltI, leI, m6_ne, ne_m6, Nat.reduceEqDiff, reduceCtorEq, Nat.reduceLT, Nat.reduceLeDiff, Nat.reduceAdd, Nat.reduceMul, Nat.zero_add, Nat.mul_zero, nar_0, nar_1, nar_b, bI_t, bI_f, bI_0, bI_1, Bool.true_eq_false, Bool.false_eq_true, Bool.and_self, Bool.and_false, Bool.false_and, Bool.true_and, Bool.and_true, and_self, szF, okF, Nat.le_refl]
  | succ k ih =>
    intro i b hi
    have hlt : ¬ 8 ≤ i := by omega
    have hb := byN_lt n i
    have e1 : uL (n / 256 ^ i) &&& 255 = uL (byN n i) := uL_and (n_div hn)
    have e2 : (lg_cmp (uL (byN n i)) 0 = nI 0) = (byN n i = 0) := uL_0 (by omega)
    have e3 := uL_int hb
    have e4 := n_div1 (k := i) hn
    rw [sX7_put_8]
    simp only [szF, okF]
    by_cases h0 : byN n i = 0
    · rw [h0] at e1 e2
      simp (disch := omega) only [sX7_put_9, sX7_put_11, sX7_put_14, sX7_put_16, sX7_put_19, sX7_put_20, sX7_put_21, sX7_put_22, sX7_put_25, sX7_put_27, sX7_put_30, sX7_put_32, sX7_put_35, sX7_put_36, sX7_put_37, sX7_put_39, sX7_put_41, sX7_put_44, sX7_put_47, sX7_put_48, sX7_put_51, sX7_put_52, sX7_put_54, sX7_put_56, sX7_put_58, sX7_put_59, sX7_put_61, sX7_put_64, true_and, and_true, true_or, or_true, eq_self, ↓reduceIte, if_true, if_false, nI_add, nI_mul, inB_nI, nI_clamp, Nat.add_zero, eqI, ltI, leI, m6_ne, ne_m6, Nat.reduceEqDiff, reduceCtorEq, Nat.reduceLT, Nat.reduceLeDiff, Nat.reduceAdd, Nat.reduceMul, Nat.zero_add, Nat.mul_zero, nar_0, nar_1, nar_b, bI_t, bI_f, bI_0, bI_1, Bool.true_eq_false, Bool.false_eq_true, Bool.and_self, Bool.and_false, Bool.false_and, Bool.true_and, Bool.and_true, and_self, hlt, e1, e2, h0]
    · have ihf := ih (i + 1) false (by omega)
      simp only [bI_f, Bool.false_and] at ihf
      have iht := ih (i + 1) true (by omega)
      simp only [bI_t, Bool.true_and] at iht
      simp (disch := omega) only [sX7_put_9, sX7_put_11, sX7_put_14, sX7_put_16, sX7_put_19, sX7_put_20, sX7_put_21, sX7_put_22, sX7_put_25, sX7_put_27, sX7_put_30, sX7_put_32, sX7_put_35, sX7_put_36, sX7_put_37, sX7_put_39, sX7_put_41, sX7_put_44, sX7_put_47, sX7_put_48, sX7_put_51, sX7_put_52, sX7_put_54, sX7_put_56, sX7_put_58, sX7_put_59, sX7_put_61, sX7_put_64, true_and, and_true, true_or, or_true, eq_self, ↓reduceIte, if_true, if_false, nI_add, nI_mul, inB_nI, nI_clamp, Nat.add_zero, eqI, ltI, leI, m6_ne, ne_m6, Nat.reduceEqDiff, reduceCtorEq, Nat.reduceLT, Nat.reduceLeDiff, Nat.reduceAdd, Nat.reduceMul, Nat.zero_add, Nat.mul_zero, nar_0, nar_1, nar_b, bI_t, bI_f, bI_0, bI_1, Bool.true_eq_false, Bool.false_eq_true, Bool.and_self, Bool.and_false, Bool.false_and, Bool.true_and, Bool.and_true, and_self, hlt, e1, e2, h0]
      cases b
      · simp (disch := omega) only [sX7_put_25, sX7_put_27, sX7_put_30, sX7_put_32, sX7_put_35, sX7_put_36, sX7_put_37, sX7_put_39, sX7_put_41, sX7_put_44, sX7_put_47, sX7_put_48, sX7_put_51, sX7_put_52, sX7_put_54, sX7_put_56, sX7_put_58, sX7_put_59, sX7_put_61, sX7_put_64, true_and, and_true, true_or, or_true, eq_self, ↓reduceIte, if_true, if_false, nI_add, nI_mul, inB_nI, nI_clamp, Nat.add_zero, eqI, ltI, leI, m6_ne, ne_m6, Nat.reduceEqDiff, reduceCtorEq, Nat.reduceLT, Nat.reduceLeDiff, Nat.reduceAdd, Nat.reduceMul, Nat.zero_add, Nat.mul_zero, nar_0, nar_1, nar_b, bI_t, bI_f, bI_0, bI_1, Bool.true_eq_false, Bool.false_eq_true, Bool.and_self, Bool.and_false, Bool.false_and, Bool.true_and, Bool.and_true, and_self, e1, e4, ihf]
      · cases hc : (decide (33 ≤ byN n i) && decide (byN n i ≤ 126)) <;>
        simp (disch := omega) only [sX7_put_25, sX7_put_27, sX7_put_30, sX7_put_32, sX7_put_35, sX7_put_36, sX7_put_37, sX7_put_39, sX7_put_41, sX7_put_44, sX7_put_47, sX7_put_48, sX7_put_51, sX7_put_52, sX7_put_54, sX7_put_56, sX7_put_58, sX7_put_59, sX7_put_61, sX7_put_64, true_and, and_true, true_or, or_true, eq_self, ↓reduceIte, if_true, if_false, nI_add, nI_mul, inB_nI, nI_clamp, Nat.add_zero, eqI, ltI, leI, m6_ne, ne_m6, Nat.reduceEqDiff, reduceCtorEq, Nat.reduceLT, Nat.reduceLeDiff, Nat.reduceAdd, Nat.reduceMul, Nat.zero_add, Nat.mul_zero, nar_0, nar_1, nar_b, bI_t, bI_f, bI_0, bI_1, Bool.true_eq_false, Bool.false_eq_true, Bool.and_self, Bool.and_false, Bool.false_and, Bool.true_and, Bool.and_true, and_self, e1, e3, e4, c_within, c_in126, hc, ihf, iht]
/-- what put leaves: s characters of n behind -/
def ptM (m : vMM) (L s n : Nat) (j : Nat) : vMM := setR (setR m 859 (apR n s L j (m 859))) 853 (upd (m 853) 7 (nI (L + j)))
theorem ptM_7 {s j : Nat} : ptM m L s n j 853 7 = nI (L + j) := by
  unfold ptM
  rw [setR_eq, upd_eq]
theorem ptM_w {s j : Nat} : up2 (up2 (ptM m L s n j) 859 (L + j) (nI (byN n (s - 1 - j)))) 853 7 (nI (L + j + 1)) = ptM m L s n (j + 1) := by
  funext a
  by_cases h : a = 853
  · subst h
    rw [up2_eq, up2_ne (by decide)]
    unfold ptM
    rw [setR_eq, setR_eq, upd_upd, Nat.add_assoc]
  · rw [up2_ne h]
    by_cases h2 : a = 859
    · subst h2
      rw [up2_eq]
      unfold ptM
      rw [setR_ne h, setR_eq, setR_ne h, setR_eq, apR_s]
    · rw [up2_ne h2]
      unfold ptM
      rw [setR_ne h, setR_ne h2, setR_ne h, setR_ne h2]
theorem ptM_0 {s : Nat} (h7 : m 853 7 = nI L) : ptM m L s n 0 = m := by
  unfold ptM
  rw [apR_0, Nat.add_zero, ← h7]
  funext a
  by_cases h : a = 853
  · subst h
    rw [setR_eq]
    funext j
    unfold upd
    by_cases hj : j = 7
    · rw [if_pos hj, hj]
    · rw [if_neg hj]
  · rw [setR_ne h]
    by_cases h2 : a = 859
    · subst h2
      rw [setR_eq]
    · rw [setR_ne h2]
theorem l_put2 (hM : IsMo D) (hn : n < 2 ^ 64) {s : Nat} (hs : s ≤ 8) (hL : L + s ≤ 60) {v3 v4 v6 : Value} : ∀ k j, j + k = s → Runs MX7_put 105 [.ref 853, .long (uL n), vJ, v3, v4, vJ, v6, .int (if k = 0 then m1 else nI (k - 1))] [] D (ptM m L s n j) z Q = Q (.int (nI (L + s))) D (ptM m L s n s) z := by
  have h1 := hM
  simp only [IsMo] at h1
  intro k
  induction k with
  | zero =>
    intro j hj
    obtain rfl : j = s := by omega
    have ht : m1 < nI 0 := m1_neg
    rw [sX7_put_105]
    simp (disch := omega) only [sX7_put_107, sX7_put_110, sX7_put_111, sX7_put_114, sX7_put_115, sX7_put_118, sX7_put_119, sX7_put_121, sX7_put_123, sX7_put_124, sX7_put_125, sX7_put_128, sX7_put_129, sX7_put_130, sX7_put_131, sX7_put_132, sX7_put_133, sX7_put_136, sX7_put_137, sX7_put_138, sX7_put_141, sX7_put_144, sX7_put_147, sX7_put_148, sX7_put_151, h1, true_and, and_true, true_or, or_true, eq_self, ↓reduceIte, if_true, if_false, nI_add, nI_mul, inB_nI, nI_clamp, Nat.add_zero, eqI, ltI, leI, m6_ne, ne_m6, Nat.reduceEqDiff, reduceCtorEq, Nat.reduceLT, Nat.reduceLeDiff, Nat.reduceAdd, Nat.reduceMul, Nat.zero_add, Nat.mul_zero, nar_0, nar_1, nar_b, bI_t, bI_f, bI_0, bI_1, Bool.true_eq_false, Bool.false_eq_true, Bool.and_self, Bool.and_false, Bool.false_and, Bool.true_and, Bool.and_true, and_self, ht, ptM_7]
  | succ k ih =>
    intro j hj
    have ih := ih (j + 1) (by omega)
    have hb := byN_lt n k
    have e0 : (if k + 1 = 0 then m1 else nI (k + 1 - 1)) = nI k := by
      rw [if_neg (by omega)]
      rfl
    have e1 := uL_shr (k := k) hn (by omega)
    have e2 : uL (n / 256 ^ k) &&& 255 = uL (byN n k) := uL_and (n_div hn)
    have e3 := uL_int hb
    have e4 : nI k + m1 = (if k = 0 then m1 else nI (k - 1)) := by
      by_cases h : k = 0
      · subst h; rfl
      · rw [if_neg h, nI_m1 (by omega)]
    have e5 := ptM_w (m := m) (L := L) (n := n) (s := s) (j := j)
    have e6 : s - 1 - j = k := by omega
    rw [e6] at e5
    have ng : ¬ k < 0 := Nat.not_lt_zero k
    have e7 : up2 (ptM m L s n j) 859 (L + j) (nI (byN n k)) 853 7 = nI (L + j) := by
      rw [up2_ne (by decide), ptM_7]
    rw [e0, sX7_put_105]
    simp (disch := omega) only [sX7_put_107, sX7_put_110, sX7_put_111, sX7_put_114, sX7_put_115, sX7_put_118, sX7_put_119, sX7_put_121, sX7_put_123, sX7_put_124, sX7_put_125, sX7_put_128, sX7_put_129, sX7_put_130, sX7_put_131, sX7_put_132, sX7_put_133, sX7_put_136, sX7_put_137, sX7_put_138, sX7_put_141, sX7_put_144, sX7_put_147, sX7_put_148, sX7_put_151, h1, true_and, and_true, true_or, or_true, eq_self, ↓reduceIte, if_true, if_false, nI_add, nI_mul, inB_nI, nI_clamp, Nat.add_zero, eqI, ltI, leI, m6_ne, ne_m6, Nat.reduceEqDiff, reduceCtorEq, Nat.reduceLT, Nat.reduceLeDiff, Nat.reduceAdd, Nat.reduceMul, Nat.zero_add, Nat.mul_zero, nar_0, nar_1, nar_b, bI_t, bI_f, bI_0, bI_1, Bool.true_eq_false, Bool.false_eq_true, Bool.and_self, Bool.and_false, Bool.false_and, Bool.true_and, Bool.and_true, and_self, ng, ptM_7, e1, e2, e3, e7, e5]
    rw [e4, ih]
theorem m_put_bad (hn : n < 2 ^ 64) (h : putN n = 0) : Runs MX7_put 0 [.ref 853, .long (uL n), vJ, vJ, vJ, vJ, vJ, vJ] [] D m z Q = Q (.int m2) D m z := by
  have l1 := l_put1 (D := D) (m := m) (z := z) (Q := Q) (n := n) hn (v7 := vJ) (x := uL n) 8 0 true (by decide)
  rw [Nat.pow_zero, Nat.div_one, Bool.true_and] at l1
  have hsz := szF_le (byN n) 8 0
  have e2 : ∀ s, (lg_cmp (uL (n / 256 ^ s)) 0 = nI 0) = (n / 256 ^ s = 0) := fun s => uL_0 (n_div hn)
  unfold putN at h
  generalize szF (byN n) 8 0 = s at l1 h hsz
  generalize okF (byN n) 8 0 = b at l1 h
  simp only [bI_t] at l1
  by_cases hs : s = 0
  · simp (disch := omega) only [sX7_put_0, sX7_put_1, sX7_put_2, sX7_put_3, sX7_put_5, sX7_put_6, true_and, and_true, true_or, or_true, eq_self, ↓reduceIte, if_true, if_false, nI_add, nI_mul, inB_nI, nI_clamp, Nat.add_zero, eqI, ltI, leI, m6_ne, ne_m6, Nat.reduceEqDiff, reduceCtorEq, Nat.reduceLT, Nat.reduceLeDiff, Nat.reduceAdd, Nat.reduceMul, Nat.zero_add, Nat.mul_zero, nar_0, nar_1, nar_b, bI_t, bI_f, bI_0, bI_1, Bool.true_eq_false, Bool.false_eq_true, Bool.and_self, Bool.and_false, Bool.false_and, Bool.true_and, Bool.and_true, and_self, l1, sX7_put_67, sX7_put_68, sX7_put_71, sX7_put_73, sX7_put_76, sX7_put_78, sX7_put_79, sX7_put_80, sX7_put_83, sX7_put_85, hs]
  · cases b
    · simp (disch := omega) only [sX7_put_0, sX7_put_1, sX7_put_2, sX7_put_3, sX7_put_5, sX7_put_6, true_and, and_true, true_or, or_true, eq_self, ↓reduceIte, if_true, if_false, nI_add, nI_mul, inB_nI, nI_clamp, Nat.add_zero, eqI, ltI, leI, m6_ne, ne_m6, Nat.reduceEqDiff, reduceCtorEq, Nat.reduceLT, Nat.reduceLeDiff, Nat.reduceAdd, Nat.reduceMul, Nat.zero_add, Nat.mul_zero, nar_0, nar_1, nar_b, bI_t, bI_f, bI_0, bI_1, Bool.true_eq_false, Bool.false_eq_true, Bool.and_self, Bool.and_false, Bool.false_and, Bool.true_and, Bool.and_true, and_self, l1, sX7_put_67, sX7_put_68, sX7_put_71, sX7_put_73, sX7_put_76, sX7_put_78, sX7_put_79, sX7_put_80, sX7_put_83, sX7_put_85, hs]
    · have hr : ¬ n / 256 ^ s = 0 := by
        intro q
        rw [if_pos (by simp [q])] at h
        exact hs h
      simp (disch := omega) only [sX7_put_0, sX7_put_1, sX7_put_2, sX7_put_3, sX7_put_5, sX7_put_6, true_and, and_true, true_or, or_true, eq_self, ↓reduceIte, if_true, if_false, nI_add, nI_mul, inB_nI, nI_clamp, Nat.add_zero, eqI, ltI, leI, m6_ne, ne_m6, Nat.reduceEqDiff, reduceCtorEq, Nat.reduceLT, Nat.reduceLeDiff, Nat.reduceAdd, Nat.reduceMul, Nat.zero_add, Nat.mul_zero, nar_0, nar_1, nar_b, bI_t, bI_f, bI_0, bI_1, Bool.true_eq_false, Bool.false_eq_true, Bool.and_self, Bool.and_false, Bool.false_and, Bool.true_and, Bool.and_true, and_self, l1, sX7_put_67, sX7_put_68, sX7_put_71, sX7_put_73, sX7_put_76, sX7_put_78, sX7_put_79, sX7_put_80, sX7_put_83, sX7_put_85, hs, e2, hr]
theorem m_put_go (hM : IsMo D) (hn : n < 2 ^ 64) (h7 : m 853 7 = nI L) (h60 : L ≤ 60) (h : putN n ≠ 0) : ∃ v4 v6, Runs MX7_put 0 [.ref 853, .long (uL n), vJ, vJ, vJ, vJ, vJ, vJ] [] D m z Q = (if L + putN n ≤ 60 then Runs MX7_put 105 [.ref 853, .long (uL n), vJ, .int (nI (putN n)), v4, vJ, v6, .int (nI (putN n - 1))] [] D m z Q else Q (.int m4) D m z) := by
  have h1 := hM
  simp only [IsMo] at h1
  have l1 := l_put1 (D := D) (m := m) (z := z) (Q := Q) (n := n) hn (v7 := vJ) (x := uL n) 8 0 true (by decide)
  rw [Nat.pow_zero, Nat.div_one, Bool.true_and] at l1
  have hsz := szF_le (byN n) 8 0
  have e2 : ∀ s, (lg_cmp (uL (n / 256 ^ s)) 0 = nI 0) = (n / 256 ^ s = 0) := fun s => uL_0 (n_div hn)
  unfold putN at h ⊢
  generalize szF (byN n) 8 0 = s at l1 h hsz
  generalize okF (byN n) 8 0 = b at l1 h
  simp only [bI_t] at l1
  by_cases hc : (b && decide (n / 256 ^ s = 0)) = true
  · rw [if_pos hc] at h
    rw [if_pos hc]
    simp only [Bool.and_eq_true, decide_eq_true_eq] at hc
    obtain ⟨rfl, hr⟩ := hc
    have e3 : nI s - nI 1 = nI (s - 1) := nI_sub s 1 (by omega)
    have hz : (lg_cmp (uL 0) 0 = nI 0) = True := by rw [uL_0 (by decide)]; exact propext ⟨fun _ => trivial, fun _ => rfl⟩
    refine ⟨.long (uL (n / 256 ^ s)), .int (nI 1), ?_⟩
    simp (disch := omega) only [sX7_put_0, sX7_put_1, sX7_put_2, sX7_put_3, sX7_put_5, sX7_put_6, true_and, and_true, true_or, or_true, eq_self, ↓reduceIte, if_true, if_false, nI_add, nI_mul, inB_nI, nI_clamp, Nat.add_zero, eqI, ltI, leI, m6_ne, ne_m6, Nat.reduceEqDiff, reduceCtorEq, Nat.reduceLT, Nat.reduceLeDiff, Nat.reduceAdd, Nat.reduceMul, Nat.zero_add, Nat.mul_zero, nar_0, nar_1, nar_b, bI_t, bI_f, bI_0, bI_1, Bool.true_eq_false, Bool.false_eq_true, Bool.and_self, Bool.and_false, Bool.false_and, Bool.true_and, Bool.and_true, and_self, l1, sX7_put_67, sX7_put_68, sX7_put_71, sX7_put_73, sX7_put_76, sX7_put_78, sX7_put_79, sX7_put_80, sX7_put_83, sX7_put_85, sX7_put_86, sX7_put_87, sX7_put_90, sX7_put_91, sX7_put_92, sX7_put_94, sX7_put_97, sX7_put_99, sX7_put_100, sX7_put_101, sX7_put_102, sX7_put_103, h1, h, hz, hr, h7, e3]
  · rw [if_neg hc] at h
    exact absurd rfl h
theorem m_put_many (hM : IsMo D) (hn : n < 2 ^ 64) (h7 : m 853 7 = nI L) (h60 : L ≤ 60) (h : putN n ≠ 0) (hg : 60 < L + putN n) : Runs MX7_put 0 [.ref 853, .long (uL n), vJ, vJ, vJ, vJ, vJ, vJ] [] D m z Q = Q (.int m4) D m z := by
  obtain ⟨v4, v6, e⟩ := m_put_go (D := D) (m := m) (z := z) (Q := Q) hM hn h7 h60 h
  rw [e, if_neg (by omega)]
theorem m_put (hM : IsMo D) (hn : n < 2 ^ 64) (h7 : m 853 7 = nI L) (h60 : L ≤ 60) (h : putN n ≠ 0) (hg : L + putN n ≤ 60) : Runs MX7_put 0 [.ref 853, .long (uL n), vJ, vJ, vJ, vJ, vJ, vJ] [] D m z Q = Q (.int (nI (L + putN n))) D (ptM m L (putN n) n (putN n)) z := by
  obtain ⟨v4, v6, e⟩ := m_put_go (D := D) (m := m) (z := z) (Q := Q) hM hn h7 h60 h
  rw [e, if_pos hg]
  have l2 := l_put2 (D := D) (m := m) (z := z) (Q := Q) (L := L) (n := n) hM hn (s := putN n) (putN_le n) hg (v3 := .int (nI (putN n))) (v4 := v4) (v6 := v6) (putN n) 0 (by omega)
  rw [if_neg h, ptM_0 h7] at l2
  exact l2
end PUT
