/-! the model's public methods: changes and looks (not plans, not texts) -/
def thoseF (f : Nat → Int32) : Nat → Int32
  | 0 => nI 0
  | n + 1 => thoseF f n ||| (gF f n 2 <<< (nI n &&& 31))
def doerF (f : Nat → Int32) (x : Int32) : Nat → Int32
  | 0 => m6
  | n + 1 => if gF f n 3 = x then nI n else doerF f x n
def skF (f : Nat → Int32) (t : Nat) : Nat → Int32
  | 0 => nI 0
  | n + 1 => skF f t n ||| (if gT f t 0 = nI 2 then nI 0 else if hasF f n (nsF f t 0) = true then nI 1 <<< (nI n &&& 31) else nI 0)
def cntFr (f : Nat → Int32) : Nat → Nat
  | 0 => 0
  | n + 1 => cntFr f n + (if freeF f n = true then 1 else 0)
def clrF (i : Nat) (f : Nat → Int32) : Nat → Int32 := sF (sF f i 3 m6) i 4 (nI 0)
def cameF (f : Nat → Int32) (n : Nat) (sk sp : Int32) : Nat → Int32 := sG (sF (sF (sF (sF (sF (sF f n 0 sk) n 1 sp) n 2 (nI 1)) n 3 m6) n 4 (nI 0)) n 5 (nI 0)) 2 (nI (n + 1))
def setOK (a v : Int32) : Bool := if a = nI 0 then decide (nI 1 ≤ v) && decide (v ≤ nI 50) else if a = nI 1 then decide (nI 1 ≤ v) && decide (v ≤ nI 9) else false
theorem inR4 (x : Int32) {n : Nat} (hn : n < 2 ^ 30) : (decide (nI 0 ≤ x) && decide (x ≤ nI n)) = inR x (n + 1) := by
  have := inR_le (x := x) (n := n + 1) (by omega)
  rw [nI_sub _ _ (by omega)] at this
  exact this
section MDL5
variable {D : vDD} {m : vMM} {f : Nat → Int32} {z : vZZ} {Q : Value → vDD → vMM → vZZ → Prop} {nF nT r : Nat}
theorem recM_3 {h : Nat → Int32} : recM m h r 853 3 = nI (min r 5 + 1) := by unfold recM; rw [setR_eq, upd_eq]
def clearF (f : Nat → Int32) (nF : Nat) : Nat → Int32 := lpF clrF nF (sG (sG f 3 (nI 0)) 4 (nI 0))
def thingF (f : Nat → Int32) (nF t k : Nat) : Int32 := if k = 0 then gT f t 0 else if k = 1 then gT f t 1 else if k = 2 then (if gT f t 0 = nI 2 then m6 else gT f t 2) else if k = 3 then (if gT f t 0 = nI 0 then gT f t 3 else nI 0) else if k = 4 then gT f t 4 else if k = 5 then gT f t 5 else if k = 6 then doerF f (nI t) nF else skF f t nF
theorem inR_f {y : Int32} {n k : Nat} (h : inR y n = false) (hk : k < n) (hn : n < 2 ^ 31) : ¬ y = nI k := by
  intro q
  subst q
  rw [inR_nI hk hn] at h
  cases h
def countF (m : vMM) (f : Nat → Int32) (nF nT k : Nat) : Int32 := if 2 ≤ k ∧ k ≤ 5 then nI (cntS f (nI (k - 2)) nT) else if 9 ≤ k ∧ k ≤ 12 then gG f (k - 3) else if k = 0 then gG f 2 else if k = 1 then gG f 3 else if k = 6 then nI (cntFr f nF) else if k = 7 then gG f 4 else if k = 8 then gG f 5 else if k = 13 then gG f 0 else if k = 14 then gG f 1 else if k = 15 then m 853 7 else m 853 3
theorem bt_no {x : Int32} {a b : Nat} (hb : b < 2 ^ 31) (h : ∀ k, a ≤ k → k ≤ b → ¬ x = nI k) (ha : a ≤ b) : (decide (nI a ≤ x) && decide (x ≤ nI b)) = false := by
  rw [Bool.eq_false_iff]
  intro q
  simp only [Bool.and_eq_true, decide_eq_true_eq] at q
  rcases i32_cases x with ⟨n, hn, rfl⟩ | hx
  · rw [leI _ _ (by omega) (by omega), leI _ _ (by omega) (by omega)] at q
    exact h n q.1 q.2 rfl
  · have h1 := Int32.lt_of_le_of_lt q.1 hx
    rw [ltI _ _ (by omega) (by omega)] at h1
    omega
theorem bt_nI {a b k : Nat} (hb : b < 2 ^ 31) (hk : k < 2 ^ 31) (ha : a < 2 ^ 31) : (decide (nI a ≤ nI k) && decide (nI k ≤ nI b)) = (decide (a ≤ k) && decide (k ≤ b)) := by
  simp only [leI _ _ ha hk, leI _ _ hk hb]
end MDL5
