/-! what the model remembers, and bring -/
section MOS
variable {D : vDD} {m : vMM} {f : Nat → Int32} {z : vZZ} {Q : Value → vDD → vMM → vZZ → Prop} {L r n : Nat} {ch : Nat → Nat} {h s : Nat → Int32} {b0 b1 : Bool}
variable {nF nT : Nat}
theorem pM_lo {p k : Nat} {w : Int32} {T : Nat → Int32} {a : Nat} (ha : a < 853) : pM m p k w T a = m a := by
  unfold pM
  rw [setR_ne (by omega), setR_ne (by omega)]
end MOS
