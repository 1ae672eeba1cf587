/-! longs as numbers -/
def uL (n : Nat) : Int64 := (UInt64.ofNat n).toInt64
theorem uL_all (x : Int64) : uL x.toUInt64.toNat = x := by
  unfold uL
  rw [UInt64.ofNat_toNat]
  rfl
theorem uL_u {n : Nat} (h : n < 2 ^ 64) : (uL n).toUInt64.toNat = n := by
  unfold uL
  rw [UInt64.toUInt64_toInt64, UInt64.toNat_ofNat_of_lt' h]
theorem uL_inj {x y : Int64} (h : x.toUInt64.toNat = y.toUInt64.toNat) : x = y := by
  rw [← uL_all x, ← uL_all y, h]
theorem sh_8 {k : Nat} (h : k < 8) : (nI (8 * k)).toInt64.toUInt64 &&& Int64.toUInt64 63 = UInt64.ofNat (8 * k) := by
  rcases (by omega : k = 0 ∨ k = 1 ∨ k = 2 ∨ k = 3 ∨ k = 4 ∨ k = 5 ∨ k = 6 ∨ k = 7) with rfl | rfl | rfl | rfl | rfl | rfl | rfl | rfl <;> decide +kernel
theorem uL_shr {n k : Nat} (h : n < 2 ^ 64) (hk : k < 8) : ((uL n).toUInt64 >>> ((nI (8 * k)).toInt64.toUInt64 &&& Int64.toUInt64 63)).toInt64 = uL (n / 256 ^ k) := by
  have h2 : n / 256 ^ k < 2 ^ 64 := Nat.lt_of_le_of_lt (Nat.div_le_self _ _) h
  apply uL_inj
  rw [sh_8 hk, UInt64.toUInt64_toInt64, UInt64.toNat_shiftRight, uL_u h, uL_u h2, UInt64.toNat_ofNat_of_lt' (by show 8 * k < 2 ^ 64; omega), Nat.mod_eq_of_lt (by omega : 8 * k < 64), Nat.shiftRight_eq_div_pow, Nat.pow_mul]
theorem uL_and {n : Nat} (h : n < 2 ^ 64) : uL n &&& 255 = uL (n % 256) := by
  have h2 : n % 256 < 2 ^ 64 := by omega
  apply uL_inj
  rw [uL_u h2, Int64.toUInt64_and, UInt64.toNat_and, uL_u h]
  exact Nat.and_two_pow_sub_one_eq_mod n 8
theorem uL_int {c : Nat} (h : c < 256) : (uL c).toInt32 = nI c := by
  have : ∀ c : Fin 256, (uL c.1).toInt32 = nI c.1 := by decide +kernel
  exact this ⟨c, h⟩
theorem uL_0 {a : Nat} (h : a < 2 ^ 64) : (lg_cmp (uL a) 0 = nI 0) = (a = 0) := by
  have h1 : (uL a = 0) ↔ a = 0 := by
    constructor
    · intro q
      have := congrArg (fun x => x.toUInt64.toNat) q
      simp only [uL_u h] at this
      exact this
    · intro q
      rw [q]
      rfl
  rw [← propext h1]
  unfold lg_cmp
  simp only [eq_iff_iff]
  constructor
  · intro q
    by_cases g : uL a > 0
    · rw [if_pos g] at q
      exact absurd q (by decide +kernel)
    · rw [if_neg g] at q
      by_cases e : uL a = 0
      · exact e
      · rw [if_neg e] at q
        exact absurd q (by decide +kernel)
  · intro q
    rw [q]
    decide +kernel
/-- byte i -/
def byN (n i : Nat) : Nat := n / 256 ^ i % 256
theorem byN_lt (n i : Nat) : byN n i < 256 := Nat.mod_lt _ (by decide)
def szF (b : Nat → Nat) : Nat → Nat → Nat
  | 0, i => i
  | k + 1, i => if b i = 0 then i else szF b k (i + 1)
def okF (b : Nat → Nat) : Nat → Nat → Bool
  | 0, _ => true
  | k + 1, i => if b i = 0 then true else (decide (33 ≤ b i) && decide (b i ≤ 126)) && okF b k (i + 1)
def putN (n : Nat) : Nat := if (okF (byN n) 8 0 && decide (n / 256 ^ (szF (byN n) 8 0) = 0)) = true then szF (byN n) 8 0 else 0
theorem szF_le (b : Nat → Nat) : ∀ k i, i ≤ szF b k i ∧ szF b k i ≤ i + k
  | 0, i => ⟨Nat.le_refl _, Nat.le_refl _⟩
  | k + 1, i => by
    unfold szF
    split
    · omega
    · have := szF_le b k (i + 1)
      omega
theorem okF_in (b : Nat → Nat) : ∀ k i, okF b k i = true → ∀ j, i ≤ j → j < szF b k i → 33 ≤ b j ∧ b j ≤ 126
  | 0, i, _, j, h1, h2 => by unfold szF at h2; omega
  | k + 1, i, h, j, h1, h2 => by
    unfold szF at h2
    unfold okF at h
    by_cases e : b i = 0
    · rw [if_pos e] at h2; omega
    · rw [if_neg e] at h h2
      simp only [Bool.and_eq_true, decide_eq_true_eq] at h
      by_cases ej : j = i
      · subst ej; exact h.1
      · exact okF_in b k (i + 1) h.2 j (by omega) h2
theorem putN_le (n : Nat) : putN n ≤ 8 := by
  unfold putN
  split
  · have := szF_le (byN n) 8 0
    omega
  · omega
theorem putN_in {n j : Nat} (h : j < putN n) : 33 ≤ byN n j ∧ byN n j ≤ 126 := by
  unfold putN at h
  split at h
  · rename_i q
    simp only [Bool.and_eq_true, decide_eq_true_eq] at q
    exact okF_in (byN n) 8 0 q.1 j (Nat.zero_le _) h
  · omega
theorem n_div {n k : Nat} (h : n < 2 ^ 64) : n / 256 ^ k < 2 ^ 64 := Nat.lt_of_le_of_lt (Nat.div_le_self _ _) h
theorem n_div1 {n k : Nat} (h : n < 2 ^ 64) : ((uL (n / 256 ^ k)).toUInt64 >>> ((nI 8).toInt64.toUInt64 &&& Int64.toUInt64 63)).toInt64 = uL (n / 256 ^ (k + 1)) := by
  have := uL_shr (n := n / 256 ^ k) (k := 1) (n_div h) (by decide)
  rw [Nat.div_div_eq_div_mul, ← Nat.pow_add] at this
  exact this
theorem c_in126 {n i : Nat} : (decide (nI 33 ≤ nI (byN n i)) && decide (nI (byN n i) ≤ nI 126)) = (decide (33 ≤ byN n i) && decide (byN n i ≤ 126)) := by
  have := byN_lt n i
  simp only [leI _ _ (by decide : 33 < 2 ^ 31) (by omega : byN n i < 2 ^ 31), leI _ _ (by omega : byN n i < 2 ^ 31) (by decide : 126 < 2 ^ 31)]
theorem byN_z {n i : Nat} (h : n < 2 ^ 64) : (lg_cmp (uL (n / 256 ^ i % 256)) 0 = nI 0) = (byN n i = 0) := uL_0 (by omega)
/-- a pad with more characters -/
def apC (n s L j : Nat) (ch : Nat → Nat) : Nat → Nat := fun q => if L ≤ q ∧ q < L + j then byN n (s - 1 - (q - L)) else ch q
def apR (n s L j : Nat) (row : Nat → Int32) : Nat → Int32 := fun q => if L ≤ q ∧ q < L + j then nI (byN n (s - 1 - (q - L))) else row q
theorem apR_0 {n s L : Nat} {row : Nat → Int32} : apR n s L 0 row = row := by
  funext q
  unfold apR
  rw [if_neg (by omega)]
theorem apR_s {n s L j : Nat} {row : Nat → Int32} : upd (apR n s L j row) (L + j) (nI (byN n (s - 1 - j))) = apR n s L (j + 1) row := by
  funext q
  unfold upd apR
  by_cases h : q = L + j
  · rw [if_pos h, if_pos (by omega)]
    congr 3
    omega
  · rw [if_neg h]
    by_cases h2 : L ≤ q ∧ q < L + j
    · rw [if_pos h2, if_pos (by omega)]
    · rw [if_neg h2, if_neg (by omega)]
theorem nI_m1 {a : Nat} (h : 1 ≤ a) : nI a + m1 = nI (a - 1) := by
  rw [← nI_sub a 1 h, Int32.sub_eq_add_neg]
  rfl
theorem m1_neg : m1 < nI 0 := by decide +kernel
section PUT
variable {D : vDD} {m : vMM} {f : Nat → Int32} {z : vZZ} {Q : Value → vDD → vMM → vZZ → Prop} {L n : Nat} {ch : Nat → Nat}
/-- what put leaves: s characters of n behind -/
def ptM (m : vMM) (L s n : Nat) (j : Nat) : vMM := setR (setR m 859 (apR n s L j (m 859))) 853 (upd (m 853) 7 (nI (L + j)))
theorem ptM_7 {s j : Nat} : ptM m L s n j 853 7 = nI (L + j) := by
  unfold ptM
  rw [setR_eq, upd_eq]
theorem ptM_w {s j : Nat} : up2 (up2 (ptM m L s n j) 859 (L + j) (nI (byN n (s - 1 - j)))) 853 7 (nI (L + j + 1)) = ptM m L s n (j + 1) := by
  funext a
  by_cases h : a = 853
  · subst h
    rw [up2_eq, up2_ne (by decide)]
    unfold ptM
    rw [setR_eq, setR_eq, upd_upd, Nat.add_assoc]
  · rw [up2_ne h]
    by_cases h2 : a = 859
    · subst h2
      rw [up2_eq]
      unfold ptM
      rw [setR_ne h, setR_eq, setR_ne h, setR_eq, apR_s]
    · rw [up2_ne h2]
      unfold ptM
      rw [setR_ne h, setR_ne h2, setR_ne h, setR_ne h2]
theorem ptM_0 {s : Nat} (h7 : m 853 7 = nI L) : ptM m L s n 0 = m := by
  unfold ptM
  rw [apR_0, Nat.add_zero, ← h7]
  funext a
  by_cases h : a = 853
  · subst h
    rw [setR_eq]
    funext j
    unfold upd
    by_cases hj : j = 7
    · rw [if_pos hj, hj]
    · rw [if_neg hj]
  · rw [setR_ne h]
    by_cases h2 : a = 859
    · subst h2
      rw [setR_eq]
    · rw [setR_ne h2]
end PUT
