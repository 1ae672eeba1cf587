/-! numbers -/
theorem nI_mul (a b : Nat) : nI a * nI b = nI (a * b) := (Int32.ofNat_mul a b).symm
theorem inB_nI {k n : Nat} (h : k < n) (hn : n < 2 ^ 31) : inB (nI k) n = true := by
  unfold inB
  have h1 : ¬ nI k < 0 := nI_pos (by omega)
  have h2 : ¬ n ≤ (nI k).toNatClampNeg := by rw [nI_clamp (by omega)]; omega
  simp [h1, h2]
def bI (b : Bool) : Int32 := if b then nI 1 else nI 0
theorem bI_t : bI true = nI 1 := rfl
theorem bI_f : bI false = nI 0 := rfl
theorem bI_0 (b : Bool) : (bI b = nI 0) = (b = false) := by cases b <;> simp [bI] <;> decide
theorem bI_1 (b : Bool) : (bI b = nI 1) = (b = true) := by cases b <;> simp [bI] <;> decide
theorem nar_0 : (narrow .boolean (.int (nI 0)) = .int (nI 0)) = True := by simp only [eq_iff_iff, iff_true]; rfl
theorem nar_1 : (narrow .boolean (.int (nI 1)) = .int (nI 1)) = True := by simp only [eq_iff_iff, iff_true]; rfl
theorem nar_b (b : Bool) : (narrow .boolean (.int (bI b)) = .int (bI b)) = True := by cases b <;> simp only [bI_t, bI_f, nar_0, nar_1]
theorem m6_lt (n : Nat) (h : n < 2 ^ 31) : m6 < nI n := by
  rw [Int32.lt_iff_toInt_lt, nI_toInt h]
  have : m6.toInt = -6 := by decide +kernel
  omega
theorem m6_ne (n : Nat) (h : n < 2 ^ 31) : (m6 = nI n) = False := by
  simp only [eq_iff_iff, iff_false]
  intro q
  have h1 := m6_lt n h
  rw [← q] at h1
  exact absurd h1 (by decide +kernel)
theorem ne_m6 (n : Nat) (h : n < 2 ^ 31) : (nI n = m6) = False := by
  rw [← m6_ne n h]
  exact propext ⟨Eq.symm, Eq.symm⟩
theorem eqI (a b : Nat) (ha : a < 2 ^ 31) (hb : b < 2 ^ 31) : (nI a = nI b) = (a = b) := propext (nI_eq ha hb)
theorem ltI (a b : Nat) (ha : a < 2 ^ 31) (hb : b < 2 ^ 31) : (nI a < nI b) = (a < b) := propext (nI_ltI ha hb)
theorem leI (a b : Nat) (ha : a < 2 ^ 31) (hb : b < 2 ^ 31) : (nI a ≤ nI b) = (a ≤ b) := propext (nI_leI ha hb)
theorem nI_sub (a b : Nat) (h : b ≤ a) : nI a - nI b = nI (a - b) := by
  have h1 : nI a = nI (a - b) + nI b := by rw [nI_add]; congr 1; omega
  rw [h1]
  exact Int32.add_sub_cancel _ _
/-- every int is a number, or negative -/
theorem i32_cases (x : Int32) : (∃ n : Nat, n < 2 ^ 31 ∧ x = nI n) ∨ x < nI 0 := by
  by_cases h : x < 0
  · exact Or.inr h
  · obtain ⟨j, h1, h2⟩ := nI_of h
    exact Or.inl ⟨j, h1, h2⟩
theorem upd_eq (f : Nat → Int32) (k : Nat) (x : Int32) : upd f k x k = x := if_pos rfl
theorem upd_ne (f : Nat → Int32) {k j : Nat} (x : Int32) (h : j ≠ k) : upd f k x j = f j := if_neg h
/-- a loop's steps: g 0, g 1 .. -/
def lpF {α : Type} (g : Nat → α → α) : Nat → α → α
  | 0, a => a
  | n + 1, a => g n (lpF g n a)
theorem lpF_0 {α : Type} (g : Nat → α → α) (a : α) : lpF g 0 a = a := rfl
theorem lpF_s {α : Type} (g : Nat → α → α) (n : Nat) (a : α) : lpF g (n + 1) a = g n (lpF g n a) := rfl
/-! the model's memory: its row of 346 ints and its three counters out of one function -/
def eM (m : vMM) (f : Nat → Int32) : vMM := fun a => if a = 854 then (fun k => if k < 346 then f k else m 854 k) else if a = 853 then (fun j => if j = 8 then f 346 else if j = 9 then f 347 else if j = 10 then f 348 else m 853 j) else m a
def rM (m : vMM) : Nat → Int32 := fun k => if k < 346 then m 854 k else if k = 346 then m 853 8 else if k = 347 then m 853 9 else m 853 10
theorem eM_st {m : vMM} {f : Nat → Int32} {i : Nat} (h : i < 346) : eM m f 854 i = f i := by unfold eM; rw [if_pos rfl, if_pos h]
theorem eM_8 {m : vMM} {f : Nat → Int32} : eM m f 853 8 = f 346 := rfl
theorem eM_9 {m : vMM} {f : Nat → Int32} : eM m f 853 9 = f 347 := rfl
theorem eM_10 {m : vMM} {f : Nat → Int32} : eM m f 853 10 = f 348 := rfl
theorem eM_fld {m : vMM} {f : Nat → Int32} {j : Nat} (h : j ≠ 8) (h2 : j ≠ 9) (h3 : j ≠ 10) : eM m f 853 j = m 853 j := by
  unfold eM
  rw [if_neg (by decide), if_pos rfl, if_neg h, if_neg h2, if_neg h3]
theorem eM_oth {m : vMM} {f : Nat → Int32} {a : Nat} (h : a ≠ 854) (h2 : a ≠ 853) : eM m f a = m a := by unfold eM; rw [if_neg h, if_neg h2]
theorem eM_put {m : vMM} {f : Nat → Int32} {i : Nat} {x : Int32} (h : i < 346) : up2 (eM m f) 854 i x = eM m (upd f i x) := by
  funext a
  unfold up2
  by_cases ha : a = 854
  · subst ha
    rw [if_pos rfl]
    funext k
    by_cases hk : k = i
    · subst hk
      rw [upd_eq, eM_st h, upd_eq]
    · rw [upd_ne _ _ hk]
      unfold eM
      rw [if_pos rfl, if_pos rfl, upd_ne _ _ hk]
  · rw [if_neg ha]
    unfold eM
    rw [if_neg ha, if_neg ha]
    by_cases h3 : a = 853
    · rw [if_pos h3, if_pos h3, upd_ne _ _ (by omega : 346 ≠ i), upd_ne _ _ (by omega : 347 ≠ i), upd_ne _ _ (by omega : 348 ≠ i)]
    · rw [if_neg h3, if_neg h3]
theorem eM_putc {m : vMM} {f : Nat → Int32} {j : Nat} {x : Int32} (h : 8 ≤ j) (h2 : j ≤ 10) : up2 (eM m f) 853 j x = eM m (upd f (338 + j) x) := by
  funext a
  unfold up2
  by_cases ha : a = 853
  · subst ha
    rw [if_pos rfl]
    funext k
    unfold eM
    rw [if_neg (by decide), if_pos rfl, if_neg (by decide), if_pos rfl]
    unfold upd
    by_cases hk : k = j
    · subst hk
      rw [if_pos rfl]
      rcases (by omega : k = 8 ∨ k = 9 ∨ k = 10) with rfl | rfl | rfl <;> rfl
    · rw [if_neg hk]
      rcases (by omega : j = 8 ∨ j = 9 ∨ j = 10) with rfl | rfl | rfl <;> simp <;> (try rw [if_neg hk]) <;> (repeat' split) <;> first | rfl | omega
  · rw [if_neg ha]
    unfold eM
    by_cases h3 : a = 854
    · rw [if_pos h3, if_pos h3]
      funext k
      by_cases hk : k < 346
      · rw [if_pos hk, if_pos hk, upd_ne _ _ (by omega)]
      · rw [if_neg hk, if_neg hk]
    · rw [if_neg h3, if_neg h3, if_neg ha, if_neg ha]
theorem eM_rM (m : vMM) : eM m (rM m) = m := by
  funext a
  unfold eM
  by_cases h : a = 854
  · rw [if_pos h]
    subst h
    funext k
    unfold rM
    by_cases hk : k < 346
    · rw [if_pos hk, if_pos hk]
    · rw [if_neg hk]
  · rw [if_neg h]
    by_cases h3 : a = 853
    · rw [if_pos h3]
      subst h3
      funext k
      unfold rM
      by_cases k1 : k = 8
      · subst k1; rfl
      · rw [if_neg k1]
        by_cases k2 : k = 9
        · subst k2; rfl
        · rw [if_neg k2]
          by_cases k3 : k = 10
          · subst k3; rfl
          · rw [if_neg k3]
    · rw [if_neg h3]
/-- the model's cells -/
def IsMo (D : vDD) : Prop := ((D 853).1 = 7 ∧ (D 853).2.2 0 = some 854 ∧ (D 853).2.2 1 = some 855 ∧ (D 853).2.2 2 = some 856 ∧ (D 853).2.2 4 = some 857 ∧ (D 853).2.2 5 = some 858 ∧ (D 853).2.2 6 = some 859) ∧ ((D 853).2.2 11 = some 860 ∧ (D 853).2.2 12 = some 861 ∧ (D 853).2.2 13 = some 862 ∧ (D 853).2.2 14 = some 863 ∧ (D 853).2.2 15 = some 864 ∧ (D 853).2.2 16 = some 865 ∧ (D 853).2.2 18 = some 866) ∧
  ((D 854).1 = 8 ∧ (D 855).1 = 8 ∧ (D 856).1 = 8 ∧ (D 857).1 = 8 ∧ (D 858).1 = 8 ∧ (D 859).1 = 8 ∧ (D 860).1 = 8 ∧ (D 861).1 = 8 ∧ (D 862).1 = 8 ∧ (D 863).1 = 8 ∧ (D 864).1 = 8 ∧ (D 865).1 = 8 ∧ (D 866).1 = 8) ∧
  ((D 854).2.1 = 346 ∧ (D 855).2.1 = 346 ∧ (D 856).2.1 = 2076 ∧ (D 857).2.1 = 692 ∧ (D 858).2.1 = 2 ∧ (D 859).2.1 = 60 ∧ (D 860).2.1 = 144 ∧ (D 861).2.1 = 9 ∧ (D 862).2.1 = 16 ∧ (D 863).2.1 = 16 ∧ (D 864).2.1 = 9 ∧ (D 865).2.1 = 8 ∧ (D 866).2.1 = 12)
