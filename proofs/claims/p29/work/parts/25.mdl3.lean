/-! the model's slot: its loops -/
section MDL3
variable {D : vDD} {m : vMM} {f : Nat → Int32} {z : vZZ} {Q : Value → vDD → vMM → vZZ → Prop} {nF nT : Nat}
theorem WF.lpi {g : Nat → (Nat → Int32) → (Nat → Int32)} {n : Nat} (h : WF f nF nT) (hg : ∀ i, i < n → ∀ f', WF f' nF nT → WF (g i f') nF nT) (k : Nat) (hk : k ≤ n) : WF (lpF g k f) nF nT := h.lp (fun i hi => hg i (by omega))
end MDL3
