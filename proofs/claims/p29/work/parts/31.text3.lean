/-! the model reads things and texts -/
section RD3
variable {D : vDD} {m : vMM} {f : Nat → Int32} {z : vZZ} {Q : Value → vDD → vMM → vZZ → Prop} {L p k : Nat} {ch : Nat → Nat} {w : Int32} {T : Nat → Int32}
/-- how many semicolons among the first n characters -/
def smN (ch : Nat → Nat) : Nat → Nat
  | 0 => 0
  | n + 1 => smN ch n + (if ch n = 59 then 1 else 0)
theorem smN_le (ch : Nat → Nat) (n : Nat) : smN ch n ≤ n := by
  induction n with
  | zero => exact Nat.le_refl _
  | succ n ih => simp only [smN]; split <;> omega
/-- a new thing behind the others -/
def newF (f : Nat → Int32) (t k : Nat) (w : Int32) (T : Nat → Int32) : Nat → Int32 := fun j => if j = 3 then nI (t + 1) else if 58 + 18 * t ≤ j ∧ j < 58 + 18 * t + 18 then (if j = 58 + 18 * t + 1 then nI k else if j = 58 + 18 * t + 5 then w else if 58 + 18 * t + 6 ≤ j ∧ j < 58 + 18 * t + 6 + 3 * k then T (j - (58 + 18 * t + 6)) else nI 0) else f j
def zrF (t i : Nat) (f : Nat → Int32) : Nat → Int32 := fun j => if 58 + 18 * t ≤ j ∧ j < 58 + 18 * t + i then nI 0 else f j
def tlF (t i : Nat) (T f : Nat → Int32) : Nat → Int32 := fun j => if 58 + 18 * t + 6 ≤ j ∧ j < 58 + 18 * t + 6 + i then T (j - (58 + 18 * t + 6)) else f j
end RD3
