/-! the model: what if, undo, saving -/
def mixF (f g : Nat → Int32) : Nat → Int32 := fun j => if 346 ≤ j ∧ j ≤ 348 then g j else f j
def keepM (m : vMM) (f : Nat → Int32) : vMM := setR m 855 (fun j => if j < 346 then f j else m 855 j)
theorem keepM_3 {m : vMM} {f : Nat → Int32} {a : Nat} (h : a ≠ 855) : keepM m f a = m a := setR_ne h
theorem mix_zero {f g : Nat → Int32} {k : Nat} {v : Int32} (hk : k < 10) : zeroF (sG (mixF f g) k v) = zeroF (sG f k v) := by
  funext j
  unfold zeroF sG upd mixF
  by_cases h8 : j = 348
  · rw [if_pos h8, if_pos h8]
  · rw [if_neg h8, if_neg h8]
    by_cases h7 : j = 347
    · rw [if_pos h7, if_pos h7]
    · rw [if_neg h7, if_neg h7]
      by_cases h6 : j = 346
      · rw [if_pos h6, if_pos h6]
      · rw [if_neg h6, if_neg h6]
        by_cases hj : j = k
        · rw [if_pos hj, if_pos hj]
        · rw [if_neg hj, if_neg hj, if_neg (by omega)]
theorem mix_g {f g : Nat → Int32} {k : Nat} (hk : k < 346) : gG (mixF f g) k = gG f k := by
  unfold gG mixF
  rw [if_neg (by omega)]
theorem mix_c {f g : Nat → Int32} {j : Nat} (h1 : 346 ≤ j) (h2 : j ≤ 348) : gG (mixF f g) j = gG g j := by
  unfold gG mixF
  rw [if_pos ⟨h1, h2⟩]
theorem mix_mix {f g h : Nat → Int32} : mixF (mixF f g) h = mixF f h := by
  funext j
  unfold mixF
  by_cases hj : 346 ≤ j ∧ j ≤ 348
  · rw [if_pos hj, if_pos hj]
  · rw [if_neg hj, if_neg hj, if_neg hj]
theorem mix_self {f : Nat → Int32} : mixF f f = f := by
  funext j
  unfold mixF
  split <;> rfl
def ovB (f : Nat → Int32) (nT : Nat) : Bool := nI (cntS f (nI 0) nT + cntS f (nI 1) nT) == nI 0
def uF (nT : Nat) : Nat → Nat → (Nat → Int32) → Int32 × (Nat → Int32)
  | 0, i, g => (if ovB g nT = true then nI i else m6, g)
  | k + 1, i, g => if ovB g nT = true then (nI i, g) else uF nT k (i + 1) (slotF g)
def bpV (N : Nat) (f : Nat → Int32) (p : Nat) : Int32 := gG (passesF N (sG f (6 + p) (gG f (6 + p) + nI 1))) 346
/-- the best so far of the first n parts: which, how many -/
def bpF (N : Nat) (f : Nat → Int32) : Nat → Int32 × Int32
  | 0 => (m6, m1)
  | n + 1 => if (bpF N f n).2 < bpV N f n then (nI n, bpV N f n) else bpF N f n
section MDL6
variable {D : vDD} {m : vMM} {f : Nat → Int32} {z : vZZ} {Q : Value → vDD → vMM → vZZ → Prop} {nF nT r : Nat}
def histG (m : vMM) (j : Nat) : Nat → Int32 := fun k => m 856 (346 * j + k)
def saveM (m : vMM) (f : Nat → Int32) (p : Nat) : vMM := setR (setR m 857 (fun j => if 346 * p ≤ j ∧ j < 346 * p + 346 then f (j - 346 * p) else m 857 j)) 858 (upd (m 858) p (nI 1))
def saveG (m : vMM) (p : Nat) : Nat → Int32 := fun k => m 857 (346 * p + k)
end MDL6
