/-! the model reads steps, things, texts -/
section RD2
variable {D : vDD} {m : vMM} {f : Nat → Int32} {z : vZZ} {Q : Value → vDD → vMM → vZZ → Prop} {L p k : Nat} {ch : Nat → Nat} {w : Int32} {T : Nat → Int32}
theorem m1_lt0 : m1 < nI 0 := by decide +kernel
theorem m1_le0 : m1 ≤ nI 0 := by decide +kernel
theorem m1_ge0 : ¬ nI 0 ≤ m1 := by decide +kernel
theorem m1_gt0 : ¬ nI 0 < m1 := by decide +kernel
theorem nI_gt0 {n : Nat} (h : 1 ≤ n) (h2 : n < 2 ^ 31) : ¬ nI n ≤ nI 0 := by
  rw [leI _ _ h2 (by decide)]
  omega
end RD2
