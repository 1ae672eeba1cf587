/-! the class's mornings: a block of 76 cells at b, read as the flat row -/
def ixB (b a k : Nat) : Nat :=
  if a = b then (if k = 3 then 2 else if k = 4 then 3 else if k = 5 then 0 else if k = 6 then 1 else if k = 7 then 4 else if k = 8 then 5 else 999)
  else if a = b + 3 then (if k < 4 then 6 + k else 999)
  else if b + 4 ≤ a ∧ a < b + 12 then (if k < 6 then 10 + 6 * (a - (b + 4)) + k else 999)
  else if b + 12 ≤ a ∧ a < b + 76 then
    (if (a - (b + 12)) % 4 = 0 then (if k = 3 then 58 + 18 * ((a - (b + 12)) / 4) + 1 else if k = 4 then 58 + 18 * ((a - (b + 12)) / 4) + 2 else if k = 5 then 58 + 18 * ((a - (b + 12)) / 4) + 0 else if k = 6 then 58 + 18 * ((a - (b + 12)) / 4) + 3 else if k = 7 then 58 + 18 * ((a - (b + 12)) / 4) + 4 else if k = 8 then 58 + 18 * ((a - (b + 12)) / 4) + 5 else 999)
     else (if k < 4 then 58 + 18 * ((a - (b + 12)) / 4) + 6 + 3 * k + ((a - (b + 12)) % 4 - 1) else 999))
  else 999
def bM (m : vMM) (b : Nat) (c : Nat → Int32) : vMM := fun a k => if ixB b a k < 346 then c (ixB b a k) else m a k
theorem ixB_row {b a k : Nat} (h : ixB b a k < 346) : (a = b ∧ ixB b a k < 6) ∨ (a = b + 3 ∧ 6 ≤ ixB b a k ∧ ixB b a k < 10 ∧ k = ixB b a k - 6) ∨ (∃ i, i < 8 ∧ a = b + 4 + i ∧ k < 6 ∧ ixB b a k = 10 + 6 * i + k) ∨ (∃ t, t < 16 ∧ a = b + 12 + 4 * t ∧ 58 + 18 * t ≤ ixB b a k ∧ ixB b a k < 58 + 18 * t + 6) ∨ (∃ t w, t < 16 ∧ w < 3 ∧ a = b + 12 + 4 * t + 1 + w ∧ k < 4 ∧ ixB b a k = 58 + 18 * t + 6 + 3 * k + w) := by
  unfold ixB at h ⊢
  by_cases h1 : a = b
  · rw [if_pos h1] at h ⊢
    left
    refine ⟨h1, ?_⟩
    repeat' split at h
    all_goals (repeat' split)
    all_goals omega
  · rw [if_neg h1] at h ⊢
    by_cases h2 : a = b + 3
    · rw [if_pos h2] at h ⊢
      right; left
      by_cases h3 : k < 4
      · rw [if_pos h3]; omega
      · rw [if_neg h3] at h; omega
    · rw [if_neg h2] at h ⊢
      by_cases h3 : b + 4 ≤ a ∧ a < b + 12
      · rw [if_pos h3] at h ⊢
        right; right; left
        by_cases h4 : k < 6
        · rw [if_pos h4]
          exact ⟨a - (b + 4), by omega, by omega, h4, rfl⟩
        · rw [if_neg h4] at h; omega
      · rw [if_neg h3] at h ⊢
        by_cases h4 : b + 12 ≤ a ∧ a < b + 76
        · rw [if_pos h4] at h ⊢
          by_cases h5 : (a - (b + 12)) % 4 = 0
          · rw [if_pos h5] at h ⊢
            right; right; right; left
            refine ⟨(a - (b + 12)) / 4, by omega, by omega, ?_⟩
            repeat' split at h
            all_goals (repeat' split)
            all_goals omega
          · rw [if_neg h5] at h ⊢
            right; right; right; right
            by_cases h6 : k < 4
            · rw [if_pos h6]
              exact ⟨(a - (b + 12)) / 4, (a - (b + 12)) % 4 - 1, by omega, by omega, by omega, h6, rfl⟩
            · rw [if_neg h6] at h; omega
        · rw [if_neg h4] at h; omega
theorem ix_b {b k : Nat} : ixB b b k = (if k = 3 then 2 else if k = 4 then 3 else if k = 5 then 0 else if k = 6 then 1 else if k = 7 then 4 else if k = 8 then 5 else 999) := by
  unfold ixB
  rw [if_pos rfl]
theorem ix_p {b k : Nat} (h : k < 4) : ixB b (b + 3) k = 6 + k := by
  unfold ixB
  rw [if_neg (by omega), if_pos rfl, if_pos h]
theorem ix_f {b i k : Nat} (hi : i < 8) (h : k < 6) : ixB b (b + 4 + i) k = 10 + 6 * i + k := by
  unfold ixB
  rw [if_neg (by omega), if_neg (by omega), if_pos (by omega), if_pos h, (by omega : b + 4 + i - (b + 4) = i)]
theorem ix_t {b t k : Nat} (ht : t < 16) : ixB b (b + 12 + 4 * t) k = (if k = 3 then 58 + 18 * t + 1 else if k = 4 then 58 + 18 * t + 2 else if k = 5 then 58 + 18 * t + 0 else if k = 6 then 58 + 18 * t + 3 else if k = 7 then 58 + 18 * t + 4 else if k = 8 then 58 + 18 * t + 5 else 999) := by
  unfold ixB
  rw [if_neg (by omega), if_neg (by omega), if_neg (by omega), if_pos (by omega), if_pos (by omega), (by omega : (b + 12 + 4 * t - (b + 12)) / 4 = t)]
theorem ix_s {b t w k : Nat} (ht : t < 16) (hw : w < 3) (h : k < 4) : ixB b (b + 12 + 4 * t + (1 + w)) k = 58 + 18 * t + (6 + 3 * k + w) := by
  unfold ixB
  rw [if_neg (by omega), if_neg (by omega), if_neg (by omega), if_pos (by omega), if_neg (by omega), if_pos h, (by omega : (b + 12 + 4 * t + (1 + w) - (b + 12)) / 4 = t), (by omega : (b + 12 + 4 * t + (1 + w) - (b + 12)) % 4 - 1 = w)]
  omega
theorem ixB_inj {b a k a' k' : Nat} (h : ixB b a k < 346) (e : ixB b a k = ixB b a' k') : a = a' ∧ k = k' := by
  have h' : ixB b a' k' < 346 := by omega
  rcases ixB_row h with ⟨rfl, p1⟩ | ⟨p0, p1, p2, p3⟩ | ⟨i, p1, p2, p3, p4⟩ | ⟨t, p1, p2, p3, p4⟩ | ⟨t, w, p1, p2, p3, p4, p5⟩
  · rcases ixB_row h' with ⟨rfl, q1⟩ | ⟨q0, q1, q2, q3⟩ | ⟨i', q1, q2, q3, q4⟩ | ⟨t', q1, q2, q3, q4⟩ | ⟨t', w', q1, q2, q3, q4, q5⟩
    · refine ⟨rfl, ?_⟩
      rw [ix_b, ix_b] at e
      rw [ix_b] at h h'
      have hk : 3 ≤ k ∧ k ≤ 8 := by
        repeat' split at h
        all_goals omega
      have hk' : 3 ≤ k' ∧ k' ≤ 8 := by
        repeat' split at h'
        all_goals omega
      clear h h' p1 q1
      repeat' split at e
      all_goals omega
    all_goals omega
  · rcases ixB_row h' with ⟨rfl, q1⟩ | ⟨q0, q1, q2, q3⟩ | ⟨i', q1, q2, q3, q4⟩ | ⟨t', q1, q2, q3, q4⟩ | ⟨t', w', q1, q2, q3, q4, q5⟩ <;> omega
  · rcases ixB_row h' with ⟨rfl, q1⟩ | ⟨q0, q1, q2, q3⟩ | ⟨i', q1, q2, q3, q4⟩ | ⟨t', q1, q2, q3, q4⟩ | ⟨t', w', q1, q2, q3, q4, q5⟩ <;> omega
  · rcases ixB_row h' with ⟨rfl, q1⟩ | ⟨q0, q1, q2, q3⟩ | ⟨i', q1, q2, q3, q4⟩ | ⟨t', q1, q2, q3, q4⟩ | ⟨t', w', q1, q2, q3, q4, q5⟩
    · omega
    · omega
    · omega
    · obtain rfl : t = t' := by omega
      subst p2
      subst q2
      refine ⟨rfl, ?_⟩
      rw [ix_t p1, ix_t p1] at e
      rw [ix_t p1] at h h'
      have hk : 3 ≤ k ∧ k ≤ 8 := by
        repeat' split at h
        all_goals omega
      have hk' : 3 ≤ k' ∧ k' ≤ 8 := by
        repeat' split at h'
        all_goals omega
      clear h h' p3 p4 q3 q4
      repeat' split at e
      all_goals omega
    · omega
  · rcases ixB_row h' with ⟨rfl, q1⟩ | ⟨q0, q1, q2, q3⟩ | ⟨i', q1, q2, q3, q4⟩ | ⟨t', q1, q2, q3, q4⟩ | ⟨t', w', q1, q2, q3, q4, q5⟩ <;> omega
theorem bM_rd {m : vMM} {b a k j : Nat} {c : Nat → Int32} (e : ixB b a k = j) (h : j < 346) : bM m b c a k = c j := by
  unfold bM
  rw [e, if_pos h]
theorem bM_wr {m : vMM} {b a k j : Nat} {c : Nat → Int32} {x : Int32} (e : ixB b a k = j) (h : j < 346) : up2 (bM m b c) a k x = bM m b (upd c j x) := by
  funext a' 
  by_cases ha : a' = a
  · subst ha
    rw [up2_eq]
    funext k'
    by_cases hk : k' = k
    · subst hk
      rw [upd_eq, bM_rd e h, upd_eq]
    · rw [upd_ne _ _ hk]
      unfold bM
      by_cases h2 : ixB b a' k' < 346
      · rw [if_pos h2, if_pos h2, upd_ne]
        intro e2
        exact hk (ixB_inj h2 (e2.trans e.symm)).2
      · rw [if_neg h2, if_neg h2]
  · rw [up2_ne ha]
    funext k'
    unfold bM
    by_cases h2 : ixB b a' k' < 346
    · rw [if_pos h2, if_pos h2, upd_ne]
      intro e2
      exact ha (ixB_inj h2 (e2.trans e.symm)).1
    · rw [if_neg h2, if_neg h2]
/-- cells elsewhere -/
theorem bM_o {m : vMM} {b a : Nat} {c : Nat → Int32} (h : a < b ∨ b + 76 ≤ a) : bM m b c a = m a := by
  funext k
  unfold bM
  rw [if_neg]
  unfold ixB
  rw [if_neg (by omega), if_neg (by omega), if_neg (by omega), if_neg (by omega)]
  decide
section BLK
variable {m : vMM} {b i t k s : Nat} {c : Nat → Int32} {x : Int32}
theorem b_pat : bM m b c b 5 = gG c 0 := bM_rd (by rw [ix_b]; rfl) (by decide)
theorem b_tst : bM m b c b 6 = gG c 1 := bM_rd (by rw [ix_b]; rfl) (by decide)
theorem b_nF : bM m b c b 3 = gG c 2 := bM_rd (by rw [ix_b]; rfl) (by decide)
theorem b_nT : bM m b c b 4 = gG c 3 := bM_rd (by rw [ix_b]; rfl) (by decide)
theorem b_slt : bM m b c b 7 = gG c 4 := bM_rd (by rw [ix_b]; rfl) (by decide)
theorem b_fld : bM m b c b 8 = gG c 5 := bM_rd (by rw [ix_b]; rfl) (by decide)
theorem b_prt (h : k < 4) : bM m b c (b + 3) k = gG c (6 + k) := bM_rd (ix_p h) (by omega)
theorem b_F (hi : i < 8) (h : k < 6) : bM m b c (b + 4 + i) k = gF c i k := bM_rd (ix_f hi h) (by omega)
theorem b_T0 (h : t < 16) : bM m b c (b + 12 + 4 * t) 5 = gT c t 0 := bM_rd (by rw [ix_t h]; rfl) (by omega)
theorem b_T1 (h : t < 16) : bM m b c (b + 12 + 4 * t) 3 = gT c t 1 := bM_rd (by rw [ix_t h]; rfl) (by omega)
theorem b_T2 (h : t < 16) : bM m b c (b + 12 + 4 * t) 4 = gT c t 2 := bM_rd (by rw [ix_t h]; rfl) (by omega)
theorem b_T3 (h : t < 16) : bM m b c (b + 12 + 4 * t) 6 = gT c t 3 := bM_rd (by rw [ix_t h]; rfl) (by omega)
theorem b_T4 (h : t < 16) : bM m b c (b + 12 + 4 * t) 7 = gT c t 4 := bM_rd (by rw [ix_t h]; rfl) (by omega)
theorem b_T5 (h : t < 16) : bM m b c (b + 12 + 4 * t) 8 = gT c t 5 := bM_rd (by rw [ix_t h]; rfl) (by omega)
theorem b_S0 (h : t < 16) (hs : s < 4) : bM m b c (b + 12 + 4 * t + 1) s = gT c t (6 + 3 * s + 0) := bM_rd (ix_s (w := 0) h (by decide) hs) (by omega)
theorem b_S1 (h : t < 16) (hs : s < 4) : bM m b c (b + 12 + 4 * t + 2) s = gT c t (6 + 3 * s + 1) := bM_rd (ix_s (w := 1) h (by decide) hs) (by omega)
theorem b_S2 (h : t < 16) (hs : s < 4) : bM m b c (b + 12 + 4 * t + 3) s = gT c t (6 + 3 * s + 2) := bM_rd (ix_s (w := 2) h (by decide) hs) (by omega)
theorem w_pat : up2 (bM m b c) b 5 x = bM m b (sG c 0 x) := bM_wr (by rw [ix_b]; rfl) (by decide)
theorem w_tst : up2 (bM m b c) b 6 x = bM m b (sG c 1 x) := bM_wr (by rw [ix_b]; rfl) (by decide)
theorem w_nF : up2 (bM m b c) b 3 x = bM m b (sG c 2 x) := bM_wr (by rw [ix_b]; rfl) (by decide)
theorem w_nT : up2 (bM m b c) b 4 x = bM m b (sG c 3 x) := bM_wr (by rw [ix_b]; rfl) (by decide)
theorem w_slt : up2 (bM m b c) b 7 x = bM m b (sG c 4 x) := bM_wr (by rw [ix_b]; rfl) (by decide)
theorem w_fld : up2 (bM m b c) b 8 x = bM m b (sG c 5 x) := bM_wr (by rw [ix_b]; rfl) (by decide)
theorem w_prt (h : k < 4) : up2 (bM m b c) (b + 3) k x = bM m b (sG c (6 + k) x) := bM_wr (ix_p h) (by omega)
theorem w_F (hi : i < 8) (h : k < 6) : up2 (bM m b c) (b + 4 + i) k x = bM m b (sF c i k x) := bM_wr (ix_f hi h) (by omega)
theorem w_T0 (h : t < 16) : up2 (bM m b c) (b + 12 + 4 * t) 5 x = bM m b (sT c t 0 x) := bM_wr (by rw [ix_t h]; rfl) (by omega)
theorem w_T1 (h : t < 16) : up2 (bM m b c) (b + 12 + 4 * t) 3 x = bM m b (sT c t 1 x) := bM_wr (by rw [ix_t h]; rfl) (by omega)
theorem w_T2 (h : t < 16) : up2 (bM m b c) (b + 12 + 4 * t) 4 x = bM m b (sT c t 2 x) := bM_wr (by rw [ix_t h]; rfl) (by omega)
theorem w_T3 (h : t < 16) : up2 (bM m b c) (b + 12 + 4 * t) 6 x = bM m b (sT c t 3 x) := bM_wr (by rw [ix_t h]; rfl) (by omega)
theorem w_T4 (h : t < 16) : up2 (bM m b c) (b + 12 + 4 * t) 7 x = bM m b (sT c t 4 x) := bM_wr (by rw [ix_t h]; rfl) (by omega)
theorem w_T5 (h : t < 16) : up2 (bM m b c) (b + 12 + 4 * t) 8 x = bM m b (sT c t 5 x) := bM_wr (by rw [ix_t h]; rfl) (by omega)
theorem w_S0 (h : t < 16) (hs : s < 4) : up2 (bM m b c) (b + 12 + 4 * t + 1) s x = bM m b (sT c t (6 + 3 * s + 0) x) := bM_wr (ix_s (w := 0) h (by decide) hs) (by omega)
theorem w_S1 (h : t < 16) (hs : s < 4) : up2 (bM m b c) (b + 12 + 4 * t + 2) s x = bM m b (sT c t (6 + 3 * s + 1) x) := bM_wr (ix_s (w := 1) h (by decide) hs) (by omega)
theorem w_S2 (h : t < 16) (hs : s < 4) : up2 (bM m b c) (b + 12 + 4 * t + 3) s x = bM m b (sT c t (6 + 3 * s + 2) x) := bM_wr (ix_s (w := 2) h (by decide) hs) (by omega)
end BLK
/-- the kinds and references of a block -/
def IsM (D : vDD) (b : Nat) : Prop := ((D b).1 = 2 ∧ (D b).2.2 0 = some (b + 1) ∧ (D b).2.2 1 = some (b + 2) ∧ (D b).2.2 2 = some (b + 3)) ∧ ((D (b + 1)).1 = 10 ∧ (D (b + 1)).2.1 = 8 ∧ (D (b + 2)).1 = 12 ∧ (D (b + 2)).2.1 = 16 ∧ (D (b + 3)).1 = 8 ∧ (D (b + 3)).2.1 = 4) ∧
  (∀ i, i < 8 → (D (b + 1)).2.2 i = some (b + 4 + i)) ∧ (∀ i, i < 8 → (D (b + 4 + i)).1 = 0) ∧ (∀ t, t < 16 → (D (b + 2)).2.2 t = some (b + 12 + 4 * t)) ∧ (∀ t, t < 16 → (D (b + 12 + 4 * t)).1 = 5) ∧
  (∀ t, t < 16 → (D (b + 12 + 4 * t)).2.2 0 = some (b + 12 + 4 * t + 1)) ∧ (∀ t, t < 16 → (D (b + 12 + 4 * t)).2.2 1 = some (b + 12 + 4 * t + 2)) ∧ (∀ t, t < 16 → (D (b + 12 + 4 * t)).2.2 2 = some (b + 12 + 4 * t + 3)) ∧
  (∀ t, t < 16 → (D (b + 12 + 4 * t + 1)).1 = 8) ∧ (∀ t, t < 16 → (D (b + 12 + 4 * t + 2)).1 = 8) ∧ (∀ t, t < 16 → (D (b + 12 + 4 * t + 3)).1 = 8) ∧
  (∀ t, t < 16 → (D (b + 12 + 4 * t + 1)).2.1 = 4) ∧ (∀ t, t < 16 → (D (b + 12 + 4 * t + 2)).2.1 = 4) ∧ (∀ t, t < 16 → (D (b + 12 + 4 * t + 3)).2.1 = 4)
/-- the class's row c says what the model's row f says -/
def Rfc (f c : Nat → Int32) (nF nT : Nat) : Prop := (∀ k, k < 10 → gG c k = gG f k) ∧ (∀ i, i < nF → ∀ k, k < 6 → gF c i k = gF f i k) ∧
  ∀ t, t < nT → (∀ k, k < 6 → k ≠ 3 → gT c t k = gT f t k) ∧ gT c t 3 = (if gT f t 0 = nI 0 then gT f t 3 else nI 0) ∧ ∀ s n, gT f t 1 = nI n → s < n → n ≤ 4 → ∀ w, w < 3 → gT c t (6 + 3 * s + w) = gT f t (6 + 3 * s + w)
