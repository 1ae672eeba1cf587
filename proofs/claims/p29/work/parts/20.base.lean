/-! numbers -/
theorem nI_mul (a b : Nat) : nI a * nI b = nI (a * b) := (Int32.ofNat_mul a b).symm
theorem inB_nI {k n : Nat} (h : k < n) (hn : n < 2 ^ 31) : inB (nI k) n = true := by
  unfold inB
  have h1 : ¬ nI k < 0 := nI_pos (by omega)
  have h2 : ¬ n ≤ (nI k).toNatClampNeg := by rw [nI_clamp (by omega)]; omega
  simp [h1, h2]
def bI (b : Bool) : Int32 := if b then nI 1 else nI 0
theorem bI_t : bI true = nI 1 := rfl
theorem bI_f : bI false = nI 0 := rfl
theorem bI_0 (b : Bool) : (bI b = nI 0) = (b = false) := by cases b <;> simp [bI] <;> decide
theorem bI_1 (b : Bool) : (bI b = nI 1) = (b = true) := by cases b <;> simp [bI] <;> decide
theorem nar_0 : (narrow .boolean (.int (nI 0)) = .int (nI 0)) = True := by simp only [eq_iff_iff, iff_true]; rfl
theorem nar_1 : (narrow .boolean (.int (nI 1)) = .int (nI 1)) = True := by simp only [eq_iff_iff, iff_true]; rfl
theorem nar_b (b : Bool) : (narrow .boolean (.int (bI b)) = .int (bI b)) = True := by cases b <;> simp only [bI_t, bI_f, nar_0, nar_1]
theorem m6_lt (n : Nat) (h : n < 2 ^ 31) : m6 < nI n := by
  rw [Int32.lt_iff_toInt_lt, nI_toInt h]
  have : m6.toInt = -6 := by decide +kernel
  omega
theorem m6_ne (n : Nat) (h : n < 2 ^ 31) : (m6 = nI n) = False := by
  simp only [eq_iff_iff, iff_false]
  intro q
  have h1 := m6_lt n h
  rw [← q] at h1
  exact absurd h1 (by decide +kernel)
theorem ne_m6 (n : Nat) (h : n < 2 ^ 31) : (nI n = m6) = False := by
  rw [← m6_ne n h]
  exact propext ⟨Eq.symm, Eq.symm⟩
theorem eqI (a b : Nat) (ha : a < 2 ^ 31) (hb : b < 2 ^ 31) : (nI a = nI b) = (a = b) := propext (nI_eq ha hb)
theorem ltI (a b : Nat) (ha : a < 2 ^ 31) (hb : b < 2 ^ 31) : (nI a < nI b) = (a < b) := propext (nI_ltI ha hb)
theorem leI (a b : Nat) (ha : a < 2 ^ 31) (hb : b < 2 ^ 31) : (nI a ≤ nI b) = (a ≤ b) := propext (nI_leI ha hb)
theorem nI_sub (a b : Nat) (h : b ≤ a) : nI a - nI b = nI (a - b) := by
  have h1 : nI a = nI (a - b) + nI b := by rw [nI_add]; congr 1; omega
  rw [h1]
  exact Int32.add_sub_cancel _ _
/-- every int is a number, or negative -/
theorem i32_cases (x : Int32) : (∃ n : Nat, n < 2 ^ 31 ∧ x = nI n) ∨ x < nI 0 := by
  by_cases h : x < 0
  · exact Or.inr h
  · obtain ⟨j, h1, h2⟩ := nI_of h
    exact Or.inl ⟨j, h1, h2⟩
theorem upd_eq (f : Nat → Int32) (k : Nat) (x : Int32) : upd f k x k = x := if_pos rfl
theorem upd_ne (f : Nat → Int32) {k j : Nat} (x : Int32) (h : j ≠ k) : upd f k x j = f j := if_neg h
/-- a loop's steps: g 0, g 1 .. -/
def lpF {α : Type} (g : Nat → α → α) : Nat → α → α
  | 0, a => a
  | n + 1, a => g n (lpF g n a)
theorem lpF_0 {α : Type} (g : Nat → α → α) (a : α) : lpF g 0 a = a := rfl
theorem lpF_s {α : Type} (g : Nat → α → α) (n : Nat) (a : α) : lpF g (n + 1) a = g n (lpF g n a) := rfl
/-! the model's memory: its row of 346 ints and its three counters out of one function -/
def rM (m : vMM) : Nat → Int32 := fun k => if k < 346 then m 854 k else if k = 346 then m 853 8 else if k = 347 then m 853 9 else m 853 10
