/-! plans: the model's public methods -/
def ablN (f : Nat → Int32) (nF nT : Nat) : Nat → Nat → Bool := fun g t => decide (g < nF) && ableF f nT g t
/-- changed at most from 860 to 865 -/
def CHm (m m' : vMM) : Prop := ∀ a, a < 860 ∨ 865 < a → m' a = m a
/-- changed at most from 861 to 864 -/
def KCm (m m' : vMM) : Prop := ∀ a, a < 861 ∨ 864 < a → m' a = m a
theorem KCm.ch {m m' : vMM} (h : KCm m m') : CHm m m' := fun a ha => h a (by omega)
theorem CHm.trans {a b c : vMM} (h : CHm a b) (h2 : CHm b c) : CHm a c := fun x hx => (h2 x hx).trans (h x hx)
theorem KCm.trans {a b c : vMM} (h : KCm a b) (h2 : KCm b c) : KCm a c := fun x hx => (h2 x hx).trans (h x hx)
theorem KCm.TB {m m' : vMM} {f : Nat → Int32} {nF nT : Nat} (h : KCm m m') (T : TBs m f nF nT) : TBs m' f nF nT := fun g t hg ht => by rw [h 860 (by omega)]; exact T g t hg ht
theorem kM_KC {m : vMM} {tO fO cF rq : Nat → Int32} : KCm m (kM m tO fO cF rq) := fun a ha => k_o ha
theorem aM_CH {m : vMM} {f : Nat → Int32} {nF nT k : Nat} : CHm m (aM m f nF nT k) := fun a ha => setR_ne (by omega)
theorem oM_CH {m : vMM} {f : Nat → Int32} {nT s k : Nat} : CHm m (oM m f nT s k) := fun a ha => setR_ne (by omega)
section PLANS
variable {D : vDD} {m : vMM} {f : Nat → Int32} {z : vZZ} {nF nT r : Nat}
theorem bsF_s {s : Nat} : bsF f nF nT (s + 1) = if nI (bsV f nF nT s) ≤ (bsF f nF nT s).2 then bsF f nF nT s else (nI s, nI (bsV f nF nT s)) := rfl
end PLANS
