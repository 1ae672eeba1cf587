/-! finds as a whole, and how many can get something -/
def FDp (rw : Nat → Nat → Bool) (W : Nat → Prop) (tO fO : Nat → Int32) (fx : Nat) (r : Bool) (tO' fO' : Nat → Int32) : Prop :=
  (r = true ∧ MTs rw tO' fO' ∧ CLs rw W fO' ∧ ∀ g, g < 9 → (tO' g = m6 ↔ (tO g = m6 ∧ g ≠ fx))) ∨
  (r = false ∧ tO' = tO ∧ fO' = fO ∧ ∃ W' : Nat → Prop, (∀ g, W g → W' g) ∧ W' fx ∧ CLs rw W' fO)
section FINDS2
variable {D : vDD} {m : vMM} {z : vZZ} {rw : Nat → Nat → Bool} {W : Nat → Prop} {x : Int32}
end FINDS2
