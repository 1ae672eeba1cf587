/-! the cells counted never fall -/
def zle (z : vZZ) : vST → Prop := fun q => match q with
  | .inl c => z.1 ≤ c.2.2.2.2.2.1 ∧ z.2 ≤ c.2.2.2.2.2.2
  | .inr (.inl o) => z.1 ≤ o.2.2.2.1 ∧ z.2 ≤ o.2.2.2.2
  | .inr (.inr q) => (z.1 ≤ q.2.1.2.2.2.2.2.1 ∧ z.2 ≤ q.2.1.2.2.2.2.2.2) ∧ ∀ o : vOU, o.2.2.2.1 ≤ (q.2.2 o).2.2.2.2.2.1 ∧ o.2.2.2.2 ≤ (q.2.2 o).2.2.2.2.2.2
def nzP (z : vZZ) (r : Option vST) : Prop := ∀ q, r = some q → zle z q
theorem nz_none {z : vZZ} : nzP z none := fun _ h => by cases h
theorem nz_gO {pc : Nat} {L st : List Value} {D : vDD} {mm : vMM} {z z' : vZZ} (h : z.1 ≤ z'.1 ∧ z.2 ≤ z'.2) : nzP z (gO pc L st D mm z') := fun q hq => by
  cases hq
  exact h
theorem nz_gJ {t : Option Nat} {L st : List Value} {D : vDD} {mm : vMM} {z : vZZ} : nzP z (gJ t L st D mm z) := by
  unfold gJ
  split
  · exact nz_gO ⟨Nat.le_refl _, Nat.le_refl _⟩
  · exact nz_none
theorem nz_ite {c : Bool} {z : vZZ} {r : Option vST} (h : nzP z r) : nzP z (if c = true then r else none) := by
  split
  · exact h
  · exact nz_none
theorem nz_gC {y zm : vMD} {args rest : List Value} {pc : Nat} {L : List Value} {D : vDD} {mm : vMM} {z : vZZ} : nzP z (gC y zm args rest pc L D mm z) := by
  unfold gC
  refine nz_ite fun q hq => ?_
  cases hq
  exact ⟨⟨Nat.le_refl _, Nat.le_refl _⟩, fun o => ⟨Nat.le_refl _, Nat.le_refl _⟩⟩
theorem nz_gO' {pc : Nat} {L st : List Value} {D : vDD} {mm : vMM} {z : vZZ} : nzP z (gO pc L st D mm z) := nz_gO ⟨Nat.le_refl _, Nat.le_refl _⟩
theorem nz_gV {y zm : vMD} {na pc : Nat} {L st : List Value} {D : vDD} {mm : vMM} {z : vZZ} : nzP z (gV y zm na pc L st D mm z) := by
  unfold gV
  split
  · exact nz_ite nz_gC
  · exact nz_none
theorem nz_gS {y zm : vMD} {na pc : Nat} {L st : List Value} {D : vDD} {mm : vMM} {z : vZZ} : nzP z (gS y zm na pc L st D mm z) := by
  unfold gS
  split
  · exact nz_gC
  · exact nz_none
theorem nz_gLd {L : List Value} {k pc : Nat} {st : List Value} {D : vDD} {mm : vMM} {z : vZZ} : nzP z (gLd L k pc st D mm z) ∧ nzP z (gLdR L k pc st D mm z) ∧ nzP z (gLdL L k pc st D mm z) := by
  refine ⟨?_, ?_, ?_⟩
  · unfold gLd; split
    · exact nz_gO'
    · exact nz_none
  · unfold gLdR; split
    · exact nz_gO'
    · exact nz_none
  · unfold gLdL; split
    · exact nz_gO'
    · exact nz_none
theorem nz_gSt {y : vMD} {L : List Value} {k pc : Nat} {st : List Value} {D : vDD} {mm : vMM} {z : vZZ} : nzP z (gSt y L k pc st D mm z) ∧ nzP z (gStR y L k pc st D mm z) ∧ nzP z (gStL y L k pc st D mm z) := by
  refine ⟨?_, ?_, ?_⟩
  · unfold gSt; split
    · exact nz_ite nz_gO'
    · exact nz_none
  · unfold gStR; split
    · exact nz_ite nz_gO'
    · exact nz_none
  · unfold gStL; split
    · exact nz_ite nz_gO'
    · exact nz_none
theorem nz_g2 {f : Int32 → Int32 → Int32} {f2 : Int64 → Int64 → Int64} {f3 : Int64 → Int32 → Int64} {pc : Nat} {L st : List Value} {D : vDD} {mm : vMM} {z : vZZ} : nzP z (gI2 f pc L st D mm z) ∧ nzP z (gL2 f2 pc L st D mm z) ∧ nzP z (gLS f3 pc L st D mm z) := by
  refine ⟨?_, ?_, ?_⟩
  · unfold gI2; split
    · exact nz_gO'
    · exact nz_none
  · unfold gL2; split
    · exact nz_gO'
    · exact nz_none
  · unfold gLS; split
    · exact nz_gO'
    · exact nz_none
theorem nz_gDv {f : Int32 → Int32 → Int32} {pc : Nat} {L st : List Value} {D : vDD} {mm : vMM} {z : vZZ} : nzP z (gDv f pc L st D mm z) := by
  unfold gDv
  split
  · exact nz_ite nz_gO'
  · exact nz_none
theorem nz_gPut {y : vMD} {ci k pc : Nat} {L st : List Value} {D : vDD} {mm : vMM} {z : vZZ} : nzP z (gPut y ci k pc L st D mm z) := by
  unfold gPut
  refine nz_ite ?_
  split
  · exact nz_ite nz_gO'
  · exact nz_ite nz_gO'
  · exact nz_none
theorem nz_gGet {ci k pc : Nat} {L st : List Value} {D : vDD} {mm : vMM} {z : vZZ} : nzP z (gGet ci k pc L st D mm z) := by
  unfold gGet
  split
  · refine nz_ite ?_
    split
    · split
      · exact nz_gO'
      · exact nz_none
    · exact nz_gO'
  · exact nz_none
theorem nz_gRet {y : vMD} {st : List Value} {D : vDD} {mm : vMM} {z : vZZ} : nzP z (gRet y st D mm z) := by
  unfold gRet
  split
  · refine nz_ite fun q hq => ?_
    cases hq
    exact ⟨Nat.le_refl _, Nat.le_refl _⟩
  · exact nz_none
theorem nz_mk {r : Option vST} {z : vZZ} (h : ∀ q, r = some q → zle z q) : nzP z r := h
theorem nz_nxi {y : vMD} {i : Jvm.ClassFile.Instr} {len pc : Nat} {L st : List Value} {D : vDD} {mm : vMM} {z : vZZ} : nzP z (nxi y i len pc L st D mm z) := by
  unfold nxi
  split <;> (try exact nz_none) <;>
    repeat' (first
      | exact nz_none | exact nz_gO' | exact nz_gJ | exact nz_gV | exact nz_gS | exact nz_gLd.1 | exact nz_gLd.2.1 | exact nz_gLd.2.2 | exact nz_gSt.1 | exact nz_gSt.2.1 | exact nz_gSt.2.2
      | exact (nz_g2 (f2 := fun x _ => x) (f3 := fun x _ => x)).1 | exact (nz_g2 (f := fun x _ => x) (f3 := fun x _ => x)).2.1 | exact (nz_g2 (f := fun x _ => x) (f2 := fun x _ => x)).2.2
      | exact nz_gPut | exact nz_gGet | exact nz_gRet | exact nz_gDv
      | exact nz_gO ⟨Nat.le_add_right _ _, Nat.le_add_right _ _⟩
      | (intro q hq; cases hq; exact ⟨Nat.le_refl _, Nat.le_refl _⟩)
      | split)
theorem nz_nxt {y : vMD} {c : vCF} {q : vST} (h : nxt y c = some q) : zle c.2.2.2.2.2 q := by
  unfold nxt at h
  split at h
  · exact nz_nxi q h
  · cases h
theorem run_z : ∀ (f : Nat) (y : vMD) (c : vCF) (o : vOU), run f y c = some o → c.2.2.2.2.2.1 ≤ o.2.2.2.1 ∧ c.2.2.2.2.2.2 ≤ o.2.2.2.2
  | 0, _, _, _, h => by cases h
  | f + 1, y, c, o, h => by
    simp only [run, bdy] at h
    cases hn : nxt y c with
    | none => rw [hn] at h; cases h
    | some q =>
      rw [hn] at h
      have hz := nz_nxt hn
      rcases q with c' | o' | q
      · have h2 := run_z f y c' o h
        exact ⟨Nat.le_trans hz.1 h2.1, Nat.le_trans hz.2 h2.2⟩
      · cases h
        exact hz
      · dsimp only at h
        cases hr : run f q.1 q.2.1 with
        | none => rw [hr] at h; cases h
        | some o2 =>
          rw [hr] at h
          have h1 := run_z f _ _ _ hr
          have h2 := run_z f _ _ _ h
          have h3 := hz.2 o2
          exact ⟨Nat.le_trans hz.1.1 (Nat.le_trans h1.1 (Nat.le_trans h3.1 h2.1)), Nat.le_trans hz.1.2 (Nat.le_trans h1.2 (Nat.le_trans h3.2 h2.2))⟩
