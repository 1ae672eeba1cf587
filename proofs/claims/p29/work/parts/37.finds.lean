/-! finds, in the model's memory -/
def kM (m : vMM) (tO fO cF rq : Nat → Int32) : vMM := setR (setR (setR (setR m 861 tO) 862 fO) 863 cF) 864 rq
def rwM (m : vMM) (x : Int32) : Nat → Nat → Bool := fun g t => (m 860 (16 * g + t) == nI 1) && ((x >>> (nI t &&& 31)) &&& nI 1) == nI 1
section KM
variable {m : vMM} {tO fO cF rq : Nat → Int32} {i : Nat} {x : Int32}
theorem k_1 : kM m tO fO cF rq 861 = tO := by unfold kM; rw [setR_ne (by decide), setR_ne (by decide), setR_ne (by decide), setR_eq]
theorem k_2 : kM m tO fO cF rq 862 = fO := by unfold kM; rw [setR_ne (by decide), setR_ne (by decide), setR_eq]
theorem k_3 : kM m tO fO cF rq 863 = cF := by unfold kM; rw [setR_ne (by decide), setR_eq]
theorem k_4 : kM m tO fO cF rq 864 = rq := by unfold kM; rw [setR_eq]
theorem k_o {a : Nat} (h : a < 861 ∨ 864 < a) : kM m tO fO cF rq a = m a := by unfold kM; rw [setR_ne (by omega), setR_ne (by omega), setR_ne (by omega), setR_ne (by omega)]
theorem setR_comm {a b : Nat} {r s : Nat → Int32} (h : a ≠ b) : setR (setR m a r) b s = setR (setR m b s) a r := by
  funext q
  by_cases h1 : q = b
  · subst h1
    rw [setR_eq, setR_ne (Ne.symm h), setR_eq]
  · rw [setR_ne h1]
    by_cases h2 : q = a
    · subst h2; rw [setR_eq, setR_eq]
    · rw [setR_ne h2, setR_ne h2, setR_ne h1]
theorem k_w1 : up2 (kM m tO fO cF rq) 861 i x = kM m (upd tO i x) fO cF rq := by
  rw [up2_R, k_1]
  unfold kM
  rw [setR_comm (a := 864) (b := 861) (by decide), setR_comm (a := 863) (b := 861) (by decide), setR_comm (a := 862) (b := 861) (by decide), setR_R]
theorem k_w2 : up2 (kM m tO fO cF rq) 862 i x = kM m tO (upd fO i x) cF rq := by
  rw [up2_R, k_2]
  unfold kM
  rw [setR_comm (a := 864) (b := 862) (by decide), setR_comm (a := 863) (b := 862) (by decide), setR_R]
theorem k_w3 : up2 (kM m tO fO cF rq) 863 i x = kM m tO fO (upd cF i x) rq := by
  rw [up2_R, k_3]
  unfold kM
  rw [setR_comm (a := 864) (b := 863) (by decide), setR_R]
theorem k_w4 : up2 (kM m tO fO cF rq) 864 i x = kM m tO fO cF (upd rq i x) := by
  rw [up2_R, k_4]
  unfold kM
  rw [setR_R]
end KM
section FINDS
variable {D : vDD} {m : vMM} {z : vZZ} {rw : Nat → Nat → Bool} {W : Nat → Prop} {x : Int32}
end FINDS
