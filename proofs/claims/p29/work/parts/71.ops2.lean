/-! again, pass, clear; the looks -/
section OP2
variable {D : vDD} {m : vMM} {z : vZZ}
theorem Rfc_zero {f c : Nat → Int32} {nF nT : Nat} (h : Rfc f c nF nT) (h8 : nF ≤ 8) (h16 : nT ≤ 16) : Rfc (zeroF f) c nF nT := ((h.o (by decide) h8 h16).o (by decide) h8 h16).o (by decide) h8 h16
end OP2
