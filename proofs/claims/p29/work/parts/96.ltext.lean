/-! texts that the law writes, and how they are read -/
/-- what is left to read from p on -/
def Suf (ch : Nat → Nat) (L : Nat) : Nat → List Nat → Prop
  | p, [] => p = L
  | p, c :: r => ch p = c ∧ p < L ∧ Suf ch L (p + 1) r
section TXT
variable {ch : Nat → Nat} {L p : Nat} {r : List Nat}
theorem suf_chL : ∀ (b a : List Nat), Suf (chL (a ++ b)) (a ++ b).length a.length b
  | [], a => by
    show a.length = (a ++ []).length
    rw [List.append_nil]
  | c :: b, a => by
    have ih := suf_chL b (a ++ [c])
    rw [List.append_assoc, List.length_append (as := a) (bs := [c])] at ih
    refine ⟨?_, ?_, ih⟩
    · show ((a ++ c :: b)[a.length]?).getD 0 = c
      rw [List.getElem?_append_right (Nat.le_refl _), Nat.sub_self]
      rfl
    · rw [List.length_append]
      show a.length < a.length + (b.length + 1)
      omega
theorem Suf.no (h : Suf ch L p r) {c : Nat} (hr : r.head? ≠ some c) : isB ch L p c = false := by
  unfold isB
  cases r with
  | nil =>
    have h : p = L := h
    rw [decide_eq_false (by omega)]
    rfl
  | cons d r =>
    obtain ⟨h1, h2, -⟩ := h
    have : ¬ ch p = c := fun q => hr (by rw [← q, h1]; rfl)
    rw [decide_eq_false this, Bool.and_false]
theorem Suf.is {c : Nat} (h : Suf ch L p (c :: r)) : isB ch L p c = true := by
  unfold isB
  rw [decide_eq_true h.2.1, decide_eq_true h.1]
  rfl
theorem Suf.dg {c lo hi : Nat} (h : Suf ch L p ((48 + c) :: r)) (h1 : lo ≤ c) (h2 : c ≤ hi) : dgB ch L p lo hi = true := by
  obtain ⟨a, b, -⟩ := h
  unfold dgB
  rw [decide_eq_true b, a, decide_eq_true (by omega), decide_eq_true (by omega)]
  rfl
def lnP (q : Nat) : Nat := if q < 4 then 4 else 2
def stP (s w q : Nat) : List Nat := (48 + s) :: (48 + w) :: (if q < 4 then [112, 48 + q] else [])
theorem stR_stP {s w q : Nat} (h : Suf ch L p (stP s w q ++ r)) (h1 : s < 5) (h2 : 1 ≤ w) (h3 : w ≤ 9) (hr : r.head? ≠ some 112) : stR ch L p = (true, p + lnP q, nI s, nI w, if q < 4 then nI q else m6) ∧ Suf ch L (p + lnP q) r := by
  unfold stP at h
  unfold lnP
  by_cases hq : q < 4
  · rw [if_pos hq] at h
    simp only [if_pos hq]
    have d0 := Suf.dg (lo := 0) (hi := 4) h (by omega) (by omega)
    obtain ⟨c0, -, h⟩ := h
    have d1 := Suf.dg (lo := 1) (hi := 9) h (by omega) (by omega)
    obtain ⟨c1, -, h⟩ := h
    have d2 := Suf.is h
    obtain ⟨c2, -, h⟩ := h
    have d3 := Suf.dg (lo := 0) (hi := 3) h (by omega) (by omega)
    obtain ⟨c3, -, h⟩ := h
    refine ⟨?_, h⟩
    unfold stR
    rw [if_pos d0, if_pos d1, if_pos d2, if_pos d3, c0, c1, c3, Nat.add_sub_cancel_left, Nat.add_sub_cancel_left, Nat.add_sub_cancel_left]
  · rw [if_neg hq] at h
    simp only [if_neg hq]
    have d0 := Suf.dg (lo := 0) (hi := 4) h (by omega) (by omega)
    obtain ⟨c0, -, h⟩ := h
    have d1 := Suf.dg (lo := 1) (hi := 9) h (by omega) (by omega)
    obtain ⟨c1, -, h⟩ := h
    have h : Suf ch L (p + 2) r := h
    have d2 := h.no hr
    refine ⟨?_, h⟩
    unfold stR
    rw [if_pos d0, if_pos d1, d2, if_neg (by decide), c0, c1, Nat.add_sub_cancel_left, Nat.add_sub_cancel_left]
end TXT
section TXU
variable {ch : Nat → Nat} {L : Nat} {r : List Nat} {sk wk pa : Nat → Nat}
/-- the further steps' text -/
def mrP (sk wk pa : Nat → Nat) : Nat → Nat → List Nat
  | 0, _ => []
  | d + 1, k => 44 :: (stP (sk k) (wk k) (pa k) ++ mrP sk wk pa d (k + 1))
def okC (sk wk pa : Nat → Nat) (T : Nat → Int32) (k : Nat) : Prop := ∀ i, i < k → T (3 * i) = nI (sk i) ∧ T (3 * i + 1) = nI (wk i) ∧ T (3 * i + 2) = if pa i < 4 then nI (pa i) else m6
theorem okC.set {T : Nat → Int32} {k p : Nat} {b : Bool} (h : okC sk wk pa T k) : okC sk wk pa (setT T k (b, p, nI (sk k), nI (wk k), if pa k < 4 then nI (pa k) else m6)) (k + 1) := by
  intro i hi
  unfold setT
  by_cases e : i = k
  · subst e
    refine ⟨?_, ?_, ?_⟩
    · rw [upd_ne _ _ (by omega), upd_ne _ _ (by omega), upd_eq]
    · rw [upd_ne _ _ (by omega), upd_eq]
    · rw [upd_eq]
  · obtain ⟨a, b, c⟩ := h i (by omega)
    refine ⟨?_, ?_, ?_⟩
    · rw [upd_ne _ _ (by omega), upd_ne _ _ (by omega), upd_ne _ _ (by omega), a]
    · rw [upd_ne _ _ (by omega), upd_ne _ _ (by omega), upd_ne _ _ (by omega), b]
    · rw [upd_ne _ _ (by omega), upd_ne _ _ (by omega), upd_ne _ _ (by omega), c]
theorem mr_head {d k c : Nat} (hc : c ≠ 44) (hr : r.head? ≠ some c) : (mrP sk wk pa d k ++ r).head? ≠ some c := by
  cases d with
  | zero => exact hr
  | succ d =>
    show some 44 ≠ some c
    intro q
    injection q with q
    exact hc q.symm
theorem thL_mr (hs : ∀ k, sk k < 5) (hw : ∀ k, 1 ≤ wk k ∧ wk k ≤ 9) (h44 : r.head? ≠ some 44) (h112 : r.head? ≠ some 112) : ∀ d cap p k (T : Nat → Int32), d ≤ cap → Suf ch L p (mrP sk wk pa d k ++ r) → okC sk wk pa T k → ∃ p' T', thL ch L cap p k T = (true, p', k + d, T') ∧ Suf ch L p' r ∧ okC sk wk pa T' (k + d)
  | 0, 0, p, k, T, _, h, o => ⟨p, T, rfl, h, o⟩
  | 0, cap + 1, p, k, T, _, h, o => by
    refine ⟨p, T, ?_, h, o⟩
    unfold thL
    have h : Suf ch L p r := h
    rw [h.no h44, if_neg (by decide)]
    rfl
  | d + 1, 0, p, k, T, hc, _, _ => by omega
  | d + 1, cap + 1, p, k, T, hc, h, o => by
    have h : Suf ch L p (44 :: ((stP (sk k) (wk k) (pa k) ++ mrP sk wk pa d (k + 1)) ++ r)) := h
    have d0 := Suf.is h
    obtain ⟨-, -, h⟩ := h
    rw [List.append_assoc] at h
    obtain ⟨e, h2⟩ := stR_stP h (hs k) (hw k).1 (hw k).2 (mr_head (by decide) h112)
    obtain ⟨p', T', r1, r2, r3⟩ := thL_mr hs hw h44 h112 d cap (p + 1 + lnP (pa k)) (k + 1) (setT T k (stR ch L (p + 1))) (by omega) h2 (by rw [e]; exact o.set)
    refine ⟨p', T', ?_, r2, ?_⟩
    · unfold thL
      rw [if_pos d0, if_pos (by rw [e]), show (stR ch L (p + 1)).2.1 = p + 1 + lnP (pa k) by rw [e], r1]
      rw [show k + 1 + d = k + (d + 1) by omega]
    · rw [show k + (d + 1) = k + 1 + d by omega]
      exact r3
/-- the weakness's text -/
def wkP (w : Nat) : List Nat := if 0 < w then [33, 48 + w] else []
theorem wkR_wk {w p k : Nat} {T : Nat → Int32} (hw : w ≤ 3) (h : Suf ch L p (wkP w)) : wkR ch L (true, p, k, T) = (true, L, k, nI w, T) := by
  unfold wkR wkP at *
  by_cases h0 : 0 < w
  · rw [if_pos h0] at h
    have d0 := Suf.is h
    obtain ⟨-, -, h⟩ := h
    have d1 := Suf.dg (lo := 0) (hi := 3) h (by omega) hw
    obtain ⟨c1, -, h⟩ := h
    have h : p + 2 = L := h
    simp only [if_true]
    rw [if_pos d0, if_pos d1, c1, Nat.add_sub_cancel_left, h]
  · rw [if_neg h0] at h
    have d0 := h.no (c := 33) (by intro q; cases q)
    have h : p = L := h
    obtain rfl : w = 0 := by omega
    simp only [if_true]
    rw [d0, if_neg (by decide), h]
theorem wk_head {w c : Nat} (hc : c ≠ 33) : (wkP w).head? ≠ some c := by
  unfold wkP
  split
  · show some 33 ≠ some c
    intro q
    injection q with q
    exact hc q.symm
  · intro q
    cases q
/-- the law's text -/
def txP (sk wk pa : Nat → Nat) : Nat → List Nat
  | 0 => []
  | k + 1 => txP sk wk pa k ++ ((if k = 0 then [] else [44]) ++ stP (sk k) (wk k) (pa k))
theorem tx_mr : ∀ d, txP sk wk pa (d + 1) = stP (sk 0) (wk 0) (pa 0) ++ mrP sk wk pa d 1 := by
  have mr : ∀ d k, mrP sk wk pa (d + 1) k = mrP sk wk pa d k ++ 44 :: stP (sk (k + d)) (wk (k + d)) (pa (k + d)) := by
    intro d
    induction d with
    | zero =>
      intro k
      show 44 :: (stP (sk k) (wk k) (pa k) ++ []) = _
      rw [List.append_nil]
      rfl
    | succ d ih =>
      intro k
      show 44 :: (stP (sk k) (wk k) (pa k) ++ mrP sk wk pa (d + 1) (k + 1)) = (44 :: (stP (sk k) (wk k) (pa k) ++ mrP sk wk pa d (k + 1))) ++ _
      rw [ih (k + 1), show k + 1 + d = k + (d + 1) by omega, List.cons_append, List.append_assoc]
  intro d
  induction d with
  | zero =>
    show [] ++ ([] ++ stP (sk 0) (wk 0) (pa 0)) = stP (sk 0) (wk 0) (pa 0) ++ []
    rw [List.append_nil]
    rfl
  | succ d ih =>
    show txP sk wk pa (d + 1) ++ ([44] ++ stP (sk (d + 1)) (wk (d + 1)) (pa (d + 1))) = _
    rw [ih, mr d 1, List.append_assoc, Nat.add_comm 1 d]
    rfl
theorem stP_len {s w q : Nat} : (stP s w q).length ≤ 4 := by
  unfold stP
  split
  · exact Nat.le_refl _
  · show 2 ≤ 4
    decide
theorem tx_len : ∀ k, (txP sk wk pa k).length ≤ 5 * k
  | 0 => Nat.le_refl _
  | k + 1 => by
    have ih := tx_len k
    have h := stP_len (s := sk k) (w := wk k) (q := pa k)
    show (txP sk wk pa k ++ ((if k = 0 then [] else [44]) ++ stP (sk k) (wk k) (pa k))).length ≤ _
    rw [List.length_append, List.length_append]
    have h2 : (if k = 0 then ([] : List Nat) else [44]).length ≤ 1 := by
      split
      · exact Nat.zero_le _
      · exact Nat.le_refl _
    omega
/-- how the law's text is read -/
theorem thR_tx (hs : ∀ k, sk k < 5) (hw : ∀ k, 1 ≤ wk k ∧ wk k ≤ 9) {n w : Nat} (h1 : 1 ≤ n) (h3 : n ≤ 3) (hw3 : w ≤ 3) (T : Nat → Int32) : ∃ T1, thR (chL (txP sk wk pa n ++ wkP w)) (txP sk wk pa n ++ wkP w).length 0 T = (true, (txP sk wk pa n ++ wkP w).length, n, nI w, T1) ∧ okC sk wk pa T1 n ∧ smN (chL (txP sk wk pa n ++ wkP w)) (txP sk wk pa n ++ wkP w).length = 0 := by
  obtain ⟨d, rfl⟩ : ∃ d, n = d + 1 := ⟨n - 1, by omega⟩
  have h0 := suf_chL (txP sk wk pa (d + 1) ++ wkP w) []
  have h0 : Suf (chL (txP sk wk pa (d + 1) ++ wkP w)) (txP sk wk pa (d + 1) ++ wkP w).length 0 (txP sk wk pa (d + 1) ++ wkP w) := h0
  generalize chL (txP sk wk pa (d + 1) ++ wkP w) = c at h0 ⊢
  generalize (txP sk wk pa (d + 1) ++ wkP w).length = l at h0 ⊢
  rw [tx_mr, List.append_assoc] at h0
  obtain ⟨e, h2⟩ := stR_stP h0 (hs 0) (hw 0).1 (hw 0).2 (mr_head (by decide) (wk_head (by decide)))
  obtain ⟨p', T', r1, r2, r3⟩ := thL_mr hs hw (wk_head (by decide)) (wk_head (by decide)) d 3 (0 + lnP (pa 0)) 1 (setT T 0 (stR c l 0)) (by omega) h2 (by
    rw [e]
    exact okC.set (fun i hi => absurd hi (Nat.not_lt_zero i)))
  have hr : thR c l 0 T = (true, l, d + 1, nI w, T') := by
    unfold thR
    rw [if_pos (by rw [e]), show (stR c l 0).2.1 = 0 + lnP (pa 0) by rw [e], r1, wkR_wk hw3 r2, Nat.add_comm 1 d]
  refine ⟨T', hr, by rw [Nat.add_comm d 1]; exact r3, ?_⟩
  have hn := thR_ns (ch := c) (L := l) (p := 0) (T := T)
  rw [hr] at hn
  exact hn
end TXU
theorem i2l_nI {c : Nat} (h : c < 128) : (nI c).toInt64 = uL c := by
  have : ∀ c : Fin 128, (nI c.1).toInt64 = uL c.1 := by decide +kernel
  exact this ⟨c, h⟩
theorem L44 : (44 : Int64) = uL 44 := by decide +kernel
theorem L112 : (112 : Int64) = uL 112 := by decide +kernel
theorem L33 : (33 : Int64) = uL 33 := by decide +kernel
