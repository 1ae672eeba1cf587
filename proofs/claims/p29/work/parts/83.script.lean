/-! the script stays as it is, and so do the kinds -/
def EQs (z : vZZ) (D : vDD) (mm : vMM) (D' : vDD) (mm' : vMM) : Prop := (∀ a, a < z.1 → (D' a).1 = (D a).1 ∧ (D' a).2.1 = (D a).2.1) ∧ mm' 0 = mm 0
theorem EQs.rf {z : vZZ} {D : vDD} {mm : vMM} : EQs z D mm D mm := ⟨fun _ _ => ⟨rfl, rfl⟩, rfl⟩
theorem EQs.tr {z z' : vZZ} {D D1 D2 : vDD} {m m1 m2 : vMM} (h : EQs z D m D1 m1) (h2 : EQs z' D1 m1 D2 m2) (hz : z.1 ≤ z'.1) : EQs z D m D2 m2 :=
  ⟨fun a ha => ⟨(h2.1 a (by omega)).1.trans (h.1 a ha).1, (h2.1 a (by omega)).2.trans (h.1 a ha).2⟩, h2.2.trans h.2⟩
def spS (D : vDD) (mm : vMM) (z : vZZ) : vST → Prop := fun q => match q with
  | .inl c => EQs z D mm c.2.2.2.1 c.2.2.2.2.1
  | .inr (.inl o) => EQs z D mm o.2.1 o.2.2.1
  | .inr (.inr q) => EQs z D mm q.2.1.2.2.2.1 q.2.1.2.2.2.2.1 ∧ ∀ o : vOU, (q.2.2 o).2.2.2.1 = o.2.1 ∧ (q.2.2 o).2.2.2.2.1 = o.2.2.1
def s0P (D : vDD) (mm : vMM) (z : vZZ) (r : Option vST) : Prop := ∀ q, r = some q → spS D mm z q
section S0
variable {D : vDD} {mm : vMM} {z : vZZ}
theorem s0_none : s0P D mm z none := fun _ h => by cases h
theorem s0_gO {pc : Nat} {L st : List Value} {D' : vDD} {mm' : vMM} {z' : vZZ} (h : EQs z D mm D' mm') : s0P D mm z (gO pc L st D' mm' z') := fun q hq => by
  cases hq
  exact h
theorem s0_gO' {pc : Nat} {L st : List Value} {z' : vZZ} : s0P D mm z (gO pc L st D mm z') := s0_gO EQs.rf
theorem s0_gJ {t : Option Nat} {L st : List Value} : s0P D mm z (gJ t L st D mm z) := by
  unfold gJ
  split
  · exact s0_gO'
  · exact s0_none
theorem s0_ite {c : Bool} {r : Option vST} (h : s0P D mm z r) : s0P D mm z (if c = true then r else none) := by
  split
  · exact h
  · exact s0_none
theorem s0_gC {y zm : vMD} {args rest : List Value} {pc : Nat} {L : List Value} : s0P D mm z (gC y zm args rest pc L D mm z) := by
  unfold gC
  refine s0_ite fun q hq => ?_
  cases hq
  exact ⟨EQs.rf, fun o => ⟨rfl, rfl⟩⟩
theorem s0_gV {y zm : vMD} {na pc : Nat} {L st : List Value} : s0P D mm z (gV y zm na pc L st D mm z) := by
  unfold gV
  split
  · exact s0_ite s0_gC
  · exact s0_none
theorem s0_gS {y zm : vMD} {na pc : Nat} {L st : List Value} : s0P D mm z (gS y zm na pc L st D mm z) := by
  unfold gS
  split
  · exact s0_gC
  · exact s0_none
theorem s0_gLd {L : List Value} {k pc : Nat} {st : List Value} : s0P D mm z (gLd L k pc st D mm z) ∧ s0P D mm z (gLdR L k pc st D mm z) ∧ s0P D mm z (gLdL L k pc st D mm z) := by
  refine ⟨?_, ?_, ?_⟩
  · unfold gLd; split
    · exact s0_gO'
    · exact s0_none
  · unfold gLdR; split
    · exact s0_gO'
    · exact s0_none
  · unfold gLdL; split
    · exact s0_gO'
    · exact s0_none
theorem s0_gSt {y : vMD} {L : List Value} {k pc : Nat} {st : List Value} : s0P D mm z (gSt y L k pc st D mm z) ∧ s0P D mm z (gStR y L k pc st D mm z) ∧ s0P D mm z (gStL y L k pc st D mm z) := by
  refine ⟨?_, ?_, ?_⟩
  · unfold gSt; split
    · exact s0_ite s0_gO'
    · exact s0_none
  · unfold gStR; split
    · exact s0_ite s0_gO'
    · exact s0_none
  · unfold gStL; split
    · exact s0_ite s0_gO'
    · exact s0_none
theorem s0_g2 {f : Int32 → Int32 → Int32} {f2 : Int64 → Int64 → Int64} {f3 : Int64 → Int32 → Int64} {pc : Nat} {L st : List Value} : s0P D mm z (gI2 f pc L st D mm z) ∧ s0P D mm z (gL2 f2 pc L st D mm z) ∧ s0P D mm z (gLS f3 pc L st D mm z) := by
  refine ⟨?_, ?_, ?_⟩
  · unfold gI2; split
    · exact s0_gO'
    · exact s0_none
  · unfold gL2; split
    · exact s0_gO'
    · exact s0_none
  · unfold gLS; split
    · exact s0_gO'
    · exact s0_none
theorem s0_gDv {f : Int32 → Int32 → Int32} {pc : Nat} {L st : List Value} : s0P D mm z (gDv f pc L st D mm z) := by
  unfold gDv
  split
  · exact s0_ite s0_gO'
  · exact s0_none
theorem eq_up {a k : Nat} {x : Int32} (h0 : (D 0).1 = 20) (h : (D a).1 ≠ 20) : EQs z D mm D (up2 mm a k x) :=
  ⟨fun _ _ => ⟨rfl, rfl⟩, up2_ne (fun e => by subst e; exact h h0)⟩
theorem eq_upR {a k : Nat} {r : Option Nat} : EQs z D mm (upR D a k r) mm := ⟨fun _ _ => ⟨upR_1, upR_2⟩, rfl⟩
theorem eq_nw {d : Nat × Nat × (Nat → Option Nat)} (hz : 1 ≤ z.1) : EQs z D mm (nwD D z.1 d) (nwM mm z.1) :=
  ⟨fun a ha => by rw [nwD_o (by omega)]; exact ⟨rfl, rfl⟩, nwM_o (by omega)⟩
theorem s0_gPut {y : vMD} {ci k pc : Nat} {L st : List Value} (h0 : (D 0).1 = 20) : s0P D mm z (gPut y ci k pc L st D mm z) := by
  unfold gPut
  refine s0_ite ?_
  split
  · rename_i x a st'
    split
    · rename_i h
      refine s0_gO (eq_up h0 (fun e => ?_))
      simp only [Bool.and_eq_true, beq_iff_eq] at h
      obtain ⟨h1, h2, -⟩ := h
      rw [e] at h1
      subst h1
      have : rT 20 k = true := rfl
      rw [this] at h2
      exact absurd h2 (by decide)
    · exact s0_none
  · split
    · exact s0_gO eq_upR
    · exact s0_none
  · exact s0_none
theorem s0_gGet {ci k pc : Nat} {L st : List Value} : s0P D mm z (gGet ci k pc L st D mm z) := by
  unfold gGet
  split
  · refine s0_ite ?_
    split
    · split
      · exact s0_gO'
      · exact s0_none
    · exact s0_gO'
  · exact s0_none
theorem s0_gRet {y : vMD} {st : List Value} : s0P D mm z (gRet y st D mm z) := by
  unfold gRet
  split
  · refine s0_ite fun q hq => ?_
    cases hq
    exact EQs.rf
  · exact s0_none
theorem k8 {n m : Nat} {b : Bool} (h : (n == m && b) = true) (hm : m ≠ 20) : n ≠ 20 := by
  simp only [Bool.and_eq_true, beq_iff_eq] at h
  rw [h.1]
  exact hm
theorem s0_nxi {y : vMD} {i : Jvm.ClassFile.Instr} {len pc : Nat} {L st : List Value} (h0 : (D 0).1 = 20) (hz : 1 ≤ z.1) : s0P D mm z (nxi y i len pc L st D mm z) := by
  unfold nxi
  split <;> (try exact s0_none) <;>
    repeat' (first
      | exact s0_none | exact s0_gO' | exact s0_gJ | exact s0_gV | exact s0_gS | exact s0_gLd.1 | exact s0_gLd.2.1 | exact s0_gLd.2.2 | exact s0_gSt.1 | exact s0_gSt.2.1 | exact s0_gSt.2.2
      | exact (s0_g2 (f2 := fun x _ => x) (f3 := fun x _ => x)).1 | exact (s0_g2 (f := fun x _ => x) (f3 := fun x _ => x)).2.1 | exact (s0_g2 (f := fun x _ => x) (f2 := fun x _ => x)).2.2
      | exact s0_gPut h0 | exact s0_gGet | exact s0_gRet | exact s0_gDv
      | exact s0_gO (eq_nw hz) | exact s0_gO eq_upR
      | exact s0_gO (eq_up h0 (k8 (by assumption) (by decide)))
      | (intro q hq; cases hq; exact EQs.rf)
      | split)
theorem s0_nxt {y : vMD} {c : vCF} {q : vST} (h : nxt y c = some q) (h0 : (c.2.2.2.1 0).1 = 20) (hz : 1 ≤ c.2.2.2.2.2.1) : spS c.2.2.2.1 c.2.2.2.2.1 c.2.2.2.2.2 q := by
  unfold nxt at h
  split at h
  · exact s0_nxi h0 hz q h
  · cases h
end S0
theorem run_0 : ∀ (f : Nat) (y : vMD) (c : vCF) (o : vOU), run f y c = some o → (c.2.2.2.1 0).1 = 20 → 1 ≤ c.2.2.2.2.2.1 → EQs c.2.2.2.2.2 c.2.2.2.1 c.2.2.2.2.1 o.2.1 o.2.2.1
  | 0, _, _, _, h, _, _ => by cases h
  | f + 1, y, c, o, h, h0, h1 => by
    simp only [run, bdy] at h
    cases hn : nxt y c with
    | none => rw [hn] at h; cases h
    | some q =>
      rw [hn] at h
      have hz := nz_nxt hn
      have hs := s0_nxt hn h0 h1
      rcases q with c' | o' | q
      · have h2 := run_0 f y c' o h ((hs.1 0 (by omega)).1.trans h0) (Nat.le_trans h1 hz.1)
        exact EQs.tr hs h2 hz.1
      · cases h
        exact hs
      · dsimp only at h
        cases hr : run f q.1 q.2.1 with
        | none => rw [hr] at h; cases h
        | some o2 =>
          rw [hr] at h
          have z1 := run_z f _ _ _ hr
          have z3 := hz.2 o2
          have e0 : (q.2.1.2.2.2.1 0).1 = 20 := (hs.1.1 0 (by omega)).1.trans h0
          have g1 : 1 ≤ q.2.1.2.2.2.2.2.1 := Nat.le_trans h1 hz.1.1
          have r1 := run_0 f _ _ _ hr e0 g1
          obtain ⟨k1, k2⟩ := hs.2 o2
          have e1 : (((q.2.2 o2).2.2.2.1) 0).1 = 20 := by
            rw [k1]
            exact (r1.1 0 (by omega)).1.trans e0
          have r2 := run_0 f _ _ _ h e1 (by have := z1.1; have := z3.1; omega)
          rw [k1, k2] at r2
          have a1 := hs.1.tr r1 hz.1.1
          refine a1.tr r2 ?_
          have := z1.1
          have := z3.1
          have := hz.1.1
          omega
/-- out of a run's equation -/
theorem eq_runs {y : vMD} {pc : Nat} {L st : List Value} {D D1 : vDD} {m m1 : vMM} {z z1 : vZZ} {V : Value} (h : ∀ Q, Runs y pc L st D m z Q = Q V D1 m1 z1) (h0 : (D 0).1 = 20) (hz : 1 ≤ z.1) : EQs z D m D1 m1 := by
  have h1 := h (fun _ b c _ => b = D1 ∧ c = m1)
  have h2 : Runs y pc L st D m z (fun _ b c _ => b = D1 ∧ c = m1) := by rw [h1]; exact ⟨rfl, rfl⟩
  obtain ⟨f, v, D', m', z', hr, rfl, rfl⟩ := h2
  exact run_0 f y _ _ hr h0 hz
