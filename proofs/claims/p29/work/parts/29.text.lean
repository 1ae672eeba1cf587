/-! texts: what is read, as functions of the characters ch 0 .. ch (L - 1) -/
def dgB (ch : Nat → Nat) (L p lo hi : Nat) : Bool := decide (p < L) && (decide (48 + lo ≤ ch p) && decide (ch p ≤ 48 + hi))
def isB (ch : Nat → Nat) (L p c : Nat) : Bool := decide (p < L) && decide (ch p = c)
def stR (ch : Nat → Nat) (L p : Nat) : Bool × Nat × Int32 × Int32 × Int32 :=
  if dgB ch L p 0 4 = true then
    (if dgB ch L (p + 1) 1 9 = true then
      (if isB ch L (p + 2) 112 = true then
        (if dgB ch L (p + 3) 0 3 = true then (true, p + 4, nI (ch p - 48), nI (ch (p + 1) - 48), nI (ch (p + 3) - 48))
         else (false, p + 3, nI (ch p - 48), nI (ch (p + 1) - 48), m1))
       else (true, p + 2, nI (ch p - 48), nI (ch (p + 1) - 48), m6))
     else (false, p + 1, nI (ch p - 48), m1, m6))
  else (false, p, m1, m1, m6)
def setT (T : Nat → Int32) (k : Nat) (r : Bool × Nat × Int32 × Int32 × Int32) : Nat → Int32 := upd (upd (upd T (3 * k) r.2.2.1) (3 * k + 1) r.2.2.2.1) (3 * k + 2) r.2.2.2.2
/-- further steps of a thing -/
def thL (ch : Nat → Nat) (L : Nat) : Nat → Nat → Nat → (Nat → Int32) → Bool × Nat × Nat × (Nat → Int32)
  | 0, p, k, T => (true, p, k, T)
  | n + 1, p, k, T => if isB ch L p 44 = true then
      (if (stR ch L (p + 1)).1 = true then thL ch L n (stR ch L (p + 1)).2.1 (k + 1) (setT T k (stR ch L (p + 1))) else (false, (stR ch L (p + 1)).2.1, k + 1, setT T k (stR ch L (p + 1))))
    else (true, p, k, T)
/-- a weakness behind the steps -/
def wkR (ch : Nat → Nat) (L : Nat) (q : Bool × Nat × Nat × (Nat → Int32)) : Bool × Nat × Nat × Int32 × (Nat → Int32) :=
  if q.1 = true then
    (if isB ch L q.2.1 33 = true then (if dgB ch L (q.2.1 + 1) 0 3 = true then (true, q.2.1 + 2, q.2.2.1, nI (ch (q.2.1 + 1) - 48), q.2.2.2) else (false, q.2.1 + 1, q.2.2.1, m1, q.2.2.2))
     else (true, q.2.1, q.2.2.1, nI 0, q.2.2.2))
  else (false, q.2.1, q.2.2.1, nI 0, q.2.2.2)
def thR (ch : Nat → Nat) (L p : Nat) (T : Nat → Int32) : Bool × Nat × Nat × Int32 × (Nat → Int32) :=
  wkR ch L (if (stR ch L p).1 = true then thL ch L 3 (stR ch L p).2.1 1 (setT T 0 (stR ch L p)) else (false, (stR ch L p).2.1, 1, setT T 0 (stR ch L p)))
/-- the fault, or NONE -/
def ffR (ch : Nat → Nat) (L : Nat) : Nat → Nat → (Nat → Int32) → Int32
  | 0, _, _ => m6
  | n + 1, p, T => if (thR ch L p T).1 = true then (if (thR ch L p T).2.1 = L then m6 else if isB ch L (thR ch L p T).2.1 59 = true then ffR ch L n ((thR ch L p T).2.1 + 1) (thR ch L p T).2.2.2.2 else nI (thR ch L p T).2.1) else nI (thR ch L p T).2.1
theorem dgB_lt {ch : Nat → Nat} {L p lo hi : Nat} (h : dgB ch L p lo hi = true) : p < L ∧ 48 + lo ≤ ch p ∧ ch p ≤ 48 + hi := by
  unfold dgB at h
  simpa only [Bool.and_eq_true, decide_eq_true_eq] using h
theorem isB_lt {ch : Nat → Nat} {L p c : Nat} (h : isB ch L p c = true) : p < L ∧ ch p = c := by
  unfold isB at h
  simpa only [Bool.and_eq_true, decide_eq_true_eq] using h
theorem stR_le {ch : Nat → Nat} {L p : Nat} (h : p ≤ L) : p ≤ (stR ch L p).2.1 ∧ (stR ch L p).2.1 ≤ L ∧ ((stR ch L p).1 = true → p + 2 ≤ (stR ch L p).2.1) := by
  unfold stR
  split
  · rename_i h1
    have h1 := dgB_lt h1
    split
    · rename_i h2
      have h2 := dgB_lt h2
      split
      · rename_i h3
        have h3 := isB_lt h3
        split
        · rename_i h4
          have h4 := dgB_lt h4
          exact ⟨by simp only []; omega, by simp only []; omega, fun _ => by simp only []; omega⟩
        · exact ⟨by simp only []; omega, by simp only []; omega, fun q => by cases q⟩
      · exact ⟨by simp only []; omega, by simp only []; omega, fun _ => by simp only []; omega⟩
    · exact ⟨by simp only []; omega, by simp only []; omega, fun q => by cases q⟩
  · exact ⟨Nat.le_refl _, h, fun q => by cases q⟩
theorem thL_le {ch : Nat → Nat} {L : Nat} : ∀ (n p k : Nat) (T : Nat → Int32), p ≤ L → p ≤ (thL ch L n p k T).2.1 ∧ (thL ch L n p k T).2.1 ≤ L ∧ k ≤ (thL ch L n p k T).2.2.1 ∧ (thL ch L n p k T).2.2.1 ≤ k + n
  | 0, p, k, T, h => ⟨Nat.le_refl _, h, Nat.le_refl _, Nat.le_refl _⟩
  | n + 1, p, k, T, h => by
    unfold thL
    split
    · rename_i h1
      have h1 := isB_lt h1
      have h2 := stR_le (ch := ch) (L := L) (p := p + 1) (by omega)
      split
      · have h3 := thL_le (ch := ch) (L := L) n (stR ch L (p + 1)).2.1 (k + 1) (setT T k (stR ch L (p + 1))) h2.2.1
        exact ⟨by omega, h3.2.1, by omega, by omega⟩
      · exact ⟨by simp only []; omega, h2.2.1, by simp only []; omega, by simp only []; omega⟩
    · exact ⟨Nat.le_refl _, h, Nat.le_refl _, by simp only []; omega⟩
theorem wkR_le {ch : Nat → Nat} {L : Nat} {q : Bool × Nat × Nat × (Nat → Int32)} (h : q.2.1 ≤ L) : q.2.1 ≤ (wkR ch L q).2.1 ∧ (wkR ch L q).2.1 ≤ L ∧ (wkR ch L q).2.2.1 = q.2.2.1 ∧ (wkR ch L q).2.2.2.2 = q.2.2.2 ∧ ((wkR ch L q).1 = true → q.1 = true ∧ ∃ w, w ≤ 3 ∧ (wkR ch L q).2.2.2.1 = nI w) := by
  unfold wkR
  split
  · rename_i h0
    split
    · rename_i h1
      have h1 := isB_lt h1
      split
      · rename_i h2
        have h2 := dgB_lt h2
        exact ⟨by simp only []; omega, by simp only []; omega, rfl, rfl, fun _ => ⟨h0, _, by omega, rfl⟩⟩
      · exact ⟨by simp only []; omega, by simp only []; omega, rfl, rfl, fun q => by cases q⟩
    · exact ⟨Nat.le_refl _, h, rfl, rfl, fun _ => ⟨h0, 0, by decide, rfl⟩⟩
  · exact ⟨Nat.le_refl _, h, rfl, rfl, fun q => by cases q⟩
theorem thR_le {ch : Nat → Nat} {L p : Nat} {T : Nat → Int32} (h : p ≤ L) : p ≤ (thR ch L p T).2.1 ∧ (thR ch L p T).2.1 ≤ L ∧ 1 ≤ (thR ch L p T).2.2.1 ∧ (thR ch L p T).2.2.1 ≤ 4 ∧ ((thR ch L p T).1 = true → p + 2 ≤ (thR ch L p T).2.1 ∧ ∃ w, w ≤ 3 ∧ (thR ch L p T).2.2.2.1 = nI w) := by
  unfold thR
  have h1 := stR_le (ch := ch) h
  by_cases hs : (stR ch L p).1 = true
  · rw [if_pos hs]
    have h2 := thL_le (ch := ch) (L := L) 3 (stR ch L p).2.1 1 (setT T 0 (stR ch L p)) h1.2.1
    have h3 := wkR_le (ch := ch) (q := thL ch L 3 (stR ch L p).2.1 1 (setT T 0 (stR ch L p))) h2.2.1
    have h4 := h1.2.2 hs
    exact ⟨by omega, h3.2.1, by omega, by omega, fun q => ⟨by omega, (h3.2.2.2.2 q).2⟩⟩
  · rw [if_neg hs]
    have h3 := wkR_le (ch := ch) (L := L) (q := (false, (stR ch L p).2.1, 1, setT T 0 (stR ch L p))) h1.2.1
    simp only [] at h3
    exact ⟨by omega, h3.2.1, by omega, by omega, fun q => absurd (h3.2.2.2.2 q).1 (by decide)⟩
/-! the model reads -/
def pM (m : vMM) (p k : Nat) (w : Int32) (T : Nat → Int32) : vMM := setR (setR m 866 T) 853 (upd (upd (upd (m 853) 17 (nI p)) 19 (nI k)) 20 w)
section QM
variable {m : vMM} {f : Nat → Int32} {p k p' k' : Nat} {w x : Int32} {T : Nat → Int32}
theorem upd_upd {g : Nat → Int32} {j : Nat} {x y : Int32} : upd (upd g j x) j y = upd g j y := by
  funext i
  unfold upd
  by_cases h : i = j
  · rw [if_pos h, if_pos h]
  · rw [if_neg h, if_neg h, if_neg h]
theorem upd_comm {g : Nat → Int32} {i j : Nat} {x y : Int32} (h : i ≠ j) : upd (upd g i x) j y = upd (upd g j y) i x := by
  funext a
  unfold upd
  by_cases h1 : a = j
  · subst h1
    rw [if_pos rfl, if_neg (Ne.symm h), if_pos rfl]
  · rw [if_neg h1]
    by_cases h2 : a = i
    · rw [if_pos h2, if_pos h2]
    · rw [if_neg h2, if_neg h2, if_neg h1]
end QM
/-- the pad: L characters ch -/
def PD (m : vMM) (L : Nat) (ch : Nat → Nat) : Prop := m 853 7 = nI L ∧ L ≤ 60 ∧ ∀ j, j < L → m 859 j = nI (ch j) ∧ 33 ≤ ch j ∧ ch j ≤ 126
theorem nI_neg {a b : Nat} (h : a < b) (hb : b < 2 ^ 30) : nI a - nI b < nI 0 := by
  rw [Int32.lt_iff_toInt_lt, Int32.toInt_sub, nI_toInt (by omega), nI_toInt (by omega), nI_toInt (by decide), Int.bmod_eq_of_le (by omega) (by omega)]
  omega
theorem dg_spec {ch : Nat → Nat} {L p lo hi : Nat} (hc : p < L → ch p ≤ 126) (hl : lo ≤ hi) (hh : hi ≤ 9) :
    (decide (nI lo ≤ (if p < L then nI (ch p) else m1) - nI 48) && decide ((if p < L then nI (ch p) else m1) - nI 48 ≤ nI hi)) = dgB ch L p lo hi ∧ (dgB ch L p lo hi = true → (if p < L then nI (ch p) else m1) - nI 48 = nI (ch p - 48)) := by
  have neg : ∀ x : Int32, x < nI 0 → (decide (nI lo ≤ x) && decide (x ≤ nI hi)) = false := by
    intro x hx
    have : ¬ nI lo ≤ x := by
      intro q
      have h1 := Int32.lt_of_le_of_lt q hx
      rw [ltI _ _ (by omega) (by omega)] at h1
      omega
    simp only [this, decide_false, Bool.false_and]
  by_cases hp : p < L
  · have h126 := hc hp
    rw [if_pos hp]
    rcases Nat.lt_or_ge (ch p) 48 with q | q
    · have h1 := neg _ (nI_neg (a := ch p) (b := 48) q (by decide))
      have h2 : dgB ch L p lo hi = false := by
        rw [Bool.eq_false_iff]
        intro h
        have := dgB_lt h
        omega
      exact ⟨h1.trans h2.symm, fun h => by rw [h2] at h; cases h⟩
    · rw [nI_sub _ _ q]
      refine ⟨?_, fun _ => rfl⟩
      unfold dgB
      rw [decide_eq_true hp, Bool.true_and]
      congr 1
      · rw [decide_eq_decide, leI _ _ (by omega) (by omega)]
        omega
      · rw [decide_eq_decide, leI _ _ (by omega) (by omega)]
        omega
  · rw [if_neg hp]
    have h2 : dgB ch L p lo hi = false := by
      rw [Bool.eq_false_iff]
      intro h
      exact hp (dgB_lt h).1
    exact ⟨(neg _ (by decide +kernel)).trans h2.symm, fun h => by rw [h2] at h; cases h⟩
section RD
variable {D : vDD} {m : vMM} {f : Nat → Int32} {z : vZZ} {Q : Value → vDD → vMM → vZZ → Prop} {L p k : Nat} {ch : Nat → Nat} {w : Int32} {T : Nat → Int32}
end RD
