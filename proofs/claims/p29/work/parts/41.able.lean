/-! the table of who can take what; most, read out of it -/
def abR (f : Nat → Int32) (nF nT : Nat) (base : Nat → Int32) (k : Nat) : Nat → Int32 := fun j => if j < k then bI (decide (j / 16 < nF) && ableF f nT (j / 16) (j % 16)) else base j
def aM (m : vMM) (f : Nat → Int32) (nF nT k : Nat) : vMM := setR m 860 (abR f nF nT (m 860) k)
def moR (f : Nat → Int32) (nT s : Nat) (base : Nat → Int32) (k : Nat) : Nat → Int32 := fun j => if 128 ≤ j ∧ j < 128 + k then bI (moreF f nT s (j - 128)) else base j
def oM (m : vMM) (f : Nat → Int32) (nT s k : Nat) : vMM := setR m 860 (moR f nT s (m 860) k)
/-- the table of the first eight -/
def TBs (m : vMM) (f : Nat → Int32) (nF nT : Nat) : Prop := ∀ g t, g < 8 → t < 16 → m 860 (16 * g + t) = bI (decide (g < nF) && ableF f nT g t)
section ABLE
variable {D : vDD} {m : vMM} {f : Nat → Int32} {z : vZZ} {Q : Value → vDD → vMM → vZZ → Prop} {nF nT r : Nat}
theorem aM_TB : TBs (aM m f nF nT 128) f nF nT := by
  intro g t hg ht
  unfold aM
  rw [setR_eq]
  unfold abR
  rw [if_pos (by omega)]
  have e1 : (16 * g + t) / 16 = g := by omega
  have e2 : (16 * g + t) % 16 = t := by omega
  rw [e1, e2]
theorem oM_TB {s : Nat} (h : TBs m f nF nT) : TBs (oM m f nT s 16) f nF nT := by
  intro g t hg ht
  unfold oM
  rw [setR_eq]
  unfold moR
  rw [if_neg (by omega)]
  exact h g t hg ht
theorem kM_TB {tO fO cF rq : Nat → Int32} (h : TBs m f nF nT) : TBs (kM m tO fO cF rq) f nF nT := by
  intro g t hg ht
  rw [k_o (by decide)]
  exact h g t hg ht
theorem bI_eq1 (b : Bool) : (bI b == nI 1) = b := by
  cases b
  · rw [bI_f]; decide +kernel
  · rw [bI_t]; exact beq_self_eq_true _
theorem beh_val {A : Nat → Nat → Bool} {n a : Nat} {S : Nat → Bool} (h : a ≤ n) : svF (fun g t => decide (a ≤ g) && (A g t && S t)) n = behF A n a S := by
  unfold behF svF
  have := mn_off (rw := fun g t => decide (a ≤ g) && (A g t && S t)) (w := 16) (s := a) (fun i t hi _ => by rw [decide_eq_false (by omega : ¬ a ≤ i), Bool.false_and]) (n - a) (fun _ => false)
  rw [(by omega : a + (n - a) = n)] at this
  rw [this]
  exact mn_ext _ _ _ (fun k t _ _ => by rw [decide_eq_true (by omega : a ≤ a + k), Bool.true_and]) (fun _ _ => rfl)
end ABLE
