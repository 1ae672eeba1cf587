/-! the model's other plain methods -/
def setR (m : vMM) (a : Nat) (row : Nat → Int32) : vMM := fun q => if q = a then row else m q
theorem setR_eq {m : vMM} {a : Nat} {row : Nat → Int32} : setR m a row a = row := if_pos rfl
theorem setR_ne {m : vMM} {a q : Nat} {row : Nat → Int32} (h : q ≠ a) : setR m a row q = m q := if_neg h
theorem up2_R (m : vMM) (a k : Nat) (x : Int32) : up2 m a k x = setR m a (upd (m a) k x) := rfl
theorem setR_R {m : vMM} {a : Nat} {r1 r2 : Nat → Int32} : setR (setR m a r1) a r2 = setR m a r2 := by
  funext q
  unfold setR
  by_cases h : q = a
  · rw [if_pos h, if_pos h]
  · rw [if_neg h, if_neg h, if_neg h]
theorem setR_self {m : vMM} {a : Nat} : setR m a (m a) = m := by
  funext q
  unfold setR
  by_cases h : q = a
  · rw [if_pos h, h]
  · rw [if_neg h]
theorem up2_setR {m : vMM} {a k : Nat} {x : Int32} {row : Nat → Int32} : up2 (setR m a row) a k x = setR m a (upd row k x) := by rw [up2_R, setR_eq, setR_R]
/-- the copy of n ints -/
def mvF (m : vMM) (a s b t n : Nat) : vMM := setR m b (fun j => if t ≤ j ∧ j < t + n then m a (s + (j - t)) else m b j)
def inR (x : Int32) (n : Nat) : Bool := decide (nI 0 ≤ x) && decide (x < nI n)
theorem inR_t {x : Int32} {n : Nat} (h : inR x n = true) (hn : n < 2 ^ 31) : ∃ k, k < n ∧ x = nI k := by
  unfold inR at h
  simp only [Bool.and_eq_true, decide_eq_true_eq] at h
  obtain ⟨j, h1, h2⟩ := nI_of (Int32.not_lt.mpr h.1)
  subst h2
  exact ⟨j, (nI_ltI h1 hn).mp h.2, rfl⟩
theorem inR_nI {k n : Nat} (h : k < n) (hn : n < 2 ^ 31) : inR (nI k) n = true := by
  unfold inR
  simp only [Bool.and_eq_true, decide_eq_true_eq]
  exact ⟨nI_pos' (by omega), nI_lt h hn⟩
theorem inR_le {x : Int32} {n : Nat} (hn : n < 2 ^ 31) : (decide (nI 0 ≤ x) && decide (x ≤ nI n - nI 1)) = inR x n := by
  have h0 : (nI 1).toInt = 1 := by decide
  have hN := nI_toInt hn
  have e : (nI n - nI 1).toInt = (n : Int) - 1 := by
    rw [Int32.toInt_sub, hN, h0]
    exact Int.bmod_eq_of_le (by omega) (by omega)
  unfold inR
  congr 1
  rw [decide_eq_decide, Int32.le_iff_toInt_le, Int32.lt_iff_toInt_lt, e, hN]
  omega
section MDL4
variable {D : vDD} {m : vMM} {f : Nat → Int32} {z : vZZ} {Q : Value → vDD → vMM → vZZ → Prop} {nF nT : Nat}
/-- the history's row behind one more state -/
def shR (h : Nat → Int32) (n : Nat) : Nat → Int32 := fun k => if k < n then h (k + 346) else h k
def histP (h : Nat → Int32) (r : Nat) (f : Nat → Int32) : Nat → Int32 := fun j => if 346 * (min r 5) ≤ j ∧ j < 346 * (min r 5) + 346 then f (j - 346 * (min r 5)) else (if r = 6 then shR h 1730 j else h j)
def recM (m : vMM) (f : Nat → Int32) (r : Nat) : vMM := setR (setR m 856 (histP (m 856) r f)) 853 (upd (m 853) 3 (nI (min r 5 + 1)))
end MDL4
