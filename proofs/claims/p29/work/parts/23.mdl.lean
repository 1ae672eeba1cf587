/-! the model's methods of a slot -/
section MDL
variable {D : vDD} {m : vMM} {f : Nat → Int32} {z : vZZ} {Q : Value → vDD → vMM → vZZ → Prop}
/-- what a thing's row must hold for its next step to be read -/
def okT (f : Nat → Int32) (t : Nat) : Prop := (testedF f t = false → ∃ n, n < 4 ∧ gT f t 2 = nI n) ∧ (nsF f t 2 = m6 ∨ ∃ p, p < 4 ∧ nsF f t 2 = nI p)
end MDL
