/-! the changes, side by side: set, come, away, stock, again, pass, clear -/
section OP1
variable {D : vDD} {H : Nat → Nat} {m : vMM} {z : vZZ} {f : Nat → Int32} {nF nT r L : Nat} {h s : Nat → Int32} {b0 b1 : Bool} {ch : Nat → Nat}
theorem ClS.kp (C : ClS D H m f nF nT r L h s b0 b1 ch) : ∃ c D' H' m', Blk m' 2 c ∧ Rfc f c nF nT ∧ (∀ a, 853 ≤ a → m' a = m a) ∧ Wd D' H' ∧ (∀ Q, Runs MX1_keep 0 [.ref 308, .ref 2] [] D m z Q = Q vJ D' (bM m' 2 c) z) ∧
    (∀ c2 f2 nF2 nT2, Rfc f2 c2 nF2 nT2 → WF f2 nF2 nT2 → ClS D' H' (bM m' 2 c2) f2 nF2 nT2 (min r 5 + 1) L (histP h r f) s b0 b1 ch) := by
  obtain ⟨c, D', H', m', k1, k2, k3, k4, k5, k6⟩ := C.keep (z := z)
  refine ⟨c, D', H', m', k1, k2, k3, k4, fun Q => ?_, k6⟩
  have : bM m' 2 c = m' := k1
  rw [k5, this]
theorem ClS.rd (C : ClS D H m f nF nT r L h s b0 b1 ch) : ∃ c, bM m 2 c = m ∧ Rfc f c nF nT ∧ IsM D 2 ∧ WF f nF nT := by
  obtain ⟨h1, ⟨c, h2, h3⟩, h4, -⟩ := C
  exact ⟨c, h2, h3, h1.2.1.1, h4⟩
end OP1
