/-! one step that goes on -/
theorem ite_some {α : Type} {c : Bool} {r : Option α} {q : α} (h : (if c = true then r else none) = some q) : c = true ∧ r = some q := by
  cases c with
  | true => exact ⟨rfl, by simpa using h⟩
  | false => simp at h
theorem jmp_inv {pc t : Nat} {off : Int} (h : jmp pc off = some t) : (pc : Int) + off = (t : Int) := by
  unfold jmp at h
  split at h
  · cases h
    omega
  · cases h
section INV
variable {pc : Nat} {L st : List Value} {D : vDD} {mm : vMM} {z : vZZ} {q : vST} {y : vMD} {k : Nat}
theorem gLd_inv (h : gLd L k pc st D mm z = some q) : ∃ x, L[k]? = some (.int x) ∧ q = .inl (pc, L, .int x :: st, D, mm, z) := by
  unfold gLd at h
  split at h
  · cases h; exact ⟨_, by assumption, rfl⟩
  · cases h
theorem gLdR_inv (h : gLdR L k pc st D mm z = some q) : ∃ x, L[k]? = some (.ref x) ∧ q = .inl (pc, L, .ref x :: st, D, mm, z) := by
  unfold gLdR at h
  split at h
  · cases h; exact ⟨_, by assumption, rfl⟩
  · cases h
theorem gLdL_inv (h : gLdL L k pc st D mm z = some q) : ∃ x, L[k]? = some (.long x) ∧ q = .inl (pc, L, .long x :: st, D, mm, z) := by
  unfold gLdL at h
  split at h
  · cases h; exact ⟨_, by assumption, rfl⟩
  · cases h
theorem gSt_inv (h : gSt y L k pc st D mm z = some q) : ∃ x st', st = .int x :: st' ∧ okS y L k = true ∧ q = .inl (pc, L.set k (.int x), st', D, mm, z) := by
  unfold gSt at h
  split at h
  · obtain ⟨h1, h2⟩ := ite_some h
    cases h2; exact ⟨_, _, rfl, h1, rfl⟩
  · cases h
theorem gStR_inv (h : gStR y L k pc st D mm z = some q) : ∃ x st', st = .ref x :: st' ∧ okS y L k = true ∧ q = .inl (pc, L.set k (.ref x), st', D, mm, z) := by
  unfold gStR at h
  split at h
  · obtain ⟨h1, h2⟩ := ite_some h
    cases h2; exact ⟨_, _, rfl, h1, rfl⟩
  · cases h
theorem gStL_inv (h : gStL y L k pc st D mm z = some q) : ∃ x st', st = .long x :: st' ∧ okS2 y L k = true ∧ q = .inl (pc, (L.set k (.long x)).set (k + 1) vJ, st', D, mm, z) := by
  unfold gStL at h
  split at h
  · obtain ⟨h1, h2⟩ := ite_some h
    cases h2; exact ⟨_, _, rfl, h1, rfl⟩
  · cases h
theorem gI2_inv {f : Int32 → Int32 → Int32} (h : gI2 f pc L st D mm z = some q) : ∃ x v st', st = .int v :: .int x :: st' ∧ q = .inl (pc, L, .int (f x v) :: st', D, mm, z) := by
  unfold gI2 at h
  split at h
  · cases h; exact ⟨_, _, _, rfl, rfl⟩
  · cases h
theorem gDv_inv {f : Int32 → Int32 → Int32} (h : gDv f pc L st D mm z = some q) : ∃ x v st', st = .int v :: .int x :: st' ∧ ¬ v = 0 ∧ q = .inl (pc, L, .int (f x v) :: st', D, mm, z) := by
  unfold gDv at h
  split at h
  · obtain ⟨h1, h2⟩ := ite_some h
    simp only [Bool.not_eq_true', decide_eq_false_iff_not] at h1
    cases h2; exact ⟨_, _, _, rfl, h1, rfl⟩
  · cases h
theorem gL2_inv {f : Int64 → Int64 → Int64} (h : gL2 f pc L st D mm z = some q) : ∃ x v st', st = .long v :: .long x :: st' ∧ q = .inl (pc, L, .long (f x v) :: st', D, mm, z) := by
  unfold gL2 at h
  split at h
  · cases h; exact ⟨_, _, _, rfl, rfl⟩
  · cases h
theorem gLS_inv {f : Int64 → Int32 → Int64} (h : gLS f pc L st D mm z = some q) : ∃ x v st', st = .int v :: .long x :: st' ∧ q = .inl (pc, L, .long (f x v) :: st', D, mm, z) := by
  unfold gLS at h
  split at h
  · cases h; exact ⟨_, _, _, rfl, rfl⟩
  · cases h
theorem gJ_inv {t : Option Nat} (h : gJ t L st D mm z = some q) : ∃ u, t = some u ∧ q = .inl (u, L, st, D, mm, z) := by
  unfold gJ at h
  split at h
  · cases h; exact ⟨_, rfl, rfl⟩
  · cases h
theorem gGet_inv {ci j : Nat} (h : gGet ci j pc L st D mm z = some q) : ∃ a st', st = .ref a :: st' ∧ (D a).1 = ci ∧ ((rT ci j = true ∧ ∃ r, (D a).2.2 j = some r ∧ q = .inl (pc, L, .ref r :: st', D, mm, z)) ∨ (rT ci j = false ∧ q = .inl (pc, L, .int (mm a j) :: st', D, mm, z))) := by
  unfold gGet at h
  split at h
  · obtain ⟨h1, h2⟩ := ite_some h
    refine ⟨_, _, rfl, eq_of_beq h1, ?_⟩
    split at h2
    · rename_i hr
      split at h2
      · cases h2
        exact Or.inl ⟨hr, _, by assumption, rfl⟩
      · cases h2
    · rename_i hr
      cases h2
      exact Or.inr ⟨by simpa using hr, rfl⟩
  · cases h
theorem gPut_inv {ci j : Nat} (h : gPut y ci j pc L st D mm z = some q) : ((TN ci j).2.2.2 = false ∨ ((mym y).name = "<init>" ∧ (TN ci j).1 = RN (mow y))) ∧
    ((∃ x a st', st = .int x :: .ref a :: st' ∧ (D a).1 = ci ∧ rT ci j = false ∧ fits (tyN ci j) (.int x) = true ∧ narrow (tyN ci j) (.int x) = .int x ∧ q = .inl (pc, L, st', D, up2 mm a j x, z)) ∨
     (∃ r a st', st = .ref r :: .ref a :: st' ∧ (D a).1 = ci ∧ rT ci j = true ∧ q = .inl (pc, L, st', upR D a j (some r), mm, z))) := by
  unfold gPut at h
  obtain ⟨h0, h⟩ := ite_some h
  refine ⟨?_, ?_⟩
  · simp only [Bool.or_eq_true, Bool.not_eq_true', Bool.and_eq_true, beq_iff_eq] at h0
    exact h0
  · split at h
    · obtain ⟨h1, h2⟩ := ite_some h
      simp only [Bool.and_eq_true, beq_iff_eq, Bool.not_eq_true'] at h1
      cases h2
      exact Or.inl ⟨_, _, _, rfl, h1.1, h1.2.1, h1.2.2.1, h1.2.2.2, rfl⟩
    · obtain ⟨h1, h2⟩ := ite_some h
      simp only [Bool.and_eq_true, beq_iff_eq] at h1
      cases h2
      exact Or.inr ⟨_, _, _, rfl, h1.1, h1.2, rfl⟩
    · cases h
end INV
theorem sum_cat : ∀ (st : List Value), (st.map fun v => v.category).sum ≤ 2 * st.length
  | [] => Nat.le_refl _
  | v :: t => by
    have h1 := sum_cat t
    have h2 := lv_cat v
    simp only [List.map_cons, List.sum_cons, List.length_cons]
    omega
section STP
variable {p : Program} {l : Launch} {e : Env} {R : Room} {s : State} {m : MethodId} {args : Array Value} {below : List Frame} {meth : Method} {c : Code} {H : Heap} {locs : List Loc} {cells slots : Nat} {Q : State → Prop}
variable {b Lx B0 pc : Nat} {xs : Nat → Int32} {Dg : va_G} {cy : Nat → ClassId} {y : vMD} {D : vDD} {mm : vMM} {z : vZZ} {ls : Array Slot} {L st : List Value}
/-- what stands behind a step that goes on to c' -/
def KK (l : Launch) (b Lx B0 : Nat) (xs : Nat → Int32) (Dg : va_G) (cy : Nat → ClassId) (y : vMD) (p : Program) (e : Env) (R : Room) (s : State) (m : MethodId) (args : Array Value) (below : List Frame) (meth : Method) (c : Code) (cells slots : Nat) (Q : State → Prop) (z : vZZ) (c' : vCF) : Prop :=
  ∀ (H1 : Heap) (locs1 : List Loc) (ls1 : Array Slot) (k1 n1 : Nat), HR b B0 Lx xs Dg cy c'.2.2.2.1 c'.2.2.2.2.1 c'.2.2.2.2.2 H1 → LR b B0 y c'.2.1 ls1 → va_S (AA B0) s.heap H1 locs1 → k1 + z.1 = cells + c'.2.2.2.2.2.1 → n1 + z.2 = slots + c'.2.2.2.2.2.2 →
    W p l e R s m args below meth c H1 locs1 k1 n1 Q (F0 m c'.1 ls1 (c'.2.2.1.map (rvV b B0)))
theorem LR.int (h : LR b B0 y L ls) {k : Nat} {x : Int32} (hk : L[k]? = some (.int x)) : ls[k]? = some (.val (.int x)) := h.2.2.2.1 k _ hk (fun q => by cases q)
theorem LR.ref (h : LR b B0 y L ls) {k x : Nat} (hk : L[k]? = some (.ref x)) : ls[k]? = some (.val (.ref (ad b B0 x))) := h.2.2.2.1 k _ hk (fun q => by cases q)
theorem LR.long (h : LR b B0 y L ls) {k : Nat} {x : Int64} (hk : L[k]? = some (.long x)) : ls[k]? = some (.val (.long x)) := h.2.2.2.1 k _ hk (fun q => by cases q)
theorem okS_lt (h : LR b B0 y L ls) {k : Nat} (ho : okS y L k = true) : k < mnl y := by
  simp only [okS, Bool.and_eq_true, decide_eq_true_eq] at ho
  rw [← h.1]
  exact ho.1
theorem okS2_lt (h : LR b B0 y L ls) {k : Nat} (ho : okS2 y L k = true) : k + 1 < mnl y := by
  simp only [okS2, Bool.and_eq_true, decide_eq_true_eq] at ho
  rw [← h.1]
  exact ho.1
theorem lk_f {idx : Nat} {q : Nat × Nat} (h : lk (fL (mow y)) idx = some q) : fOK (mow y) (idx, q.1, q.2) := fL_ok _ _ (lk_mem _ h)
theorem lk_k {idx : Nat} {q : Nat} (h : lk (kL (mow y)) idx = some q) : kOK (mow y) (idx, q) := kL_ok _ _ (lk_mem _ h)
theorem lk_c {idx : Nat} {q : Int32} (h : lk (cL (mow y)) idx = some q) : Cond.constant (RN (mow y)) idx q ∈ BG := cL_ok _ _ (lk_mem _ h)
theorem lk_l {idx : Nat} {q : Int64} (h : lk (lL (mow y)) idx = some q) : Cond.constantLong (RN (mow y)) idx q ∈ BG := lL_ok _ _ (lk_mem _ h)
theorem lk_o {idx : Nat} {q : Unit} (h : lk (oL (mow y)) idx = some q) : Cond.methodLink (RN (mow y)) idx objectInit ∈ BG := oL_ok _ _ (lk_mem _ h)
theorem lk_p {idx : Nat} {q : Unit} (h : lk (pL (mow y)) idx = some q) : Cond.methodLink (RN (mow y)) idx Lib.Math.min.name ∈ BG := pL_ok _ _ (lk_mem _ h)
theorem lk_m {idx : Nat} {q : vMD × Nat × Nat} (h : lk (mL (mow y)) idx = some q) : mOK (mow y) (idx, q) := mL_ok _ _ (lk_mem _ h)
set_option maxHeartbeats 4000000 in
theorem step_go (C : CX b Lx xs Dg cy B0 y p R s m args meth c) (hH : HR b B0 Lx xs Dg cy D mm z H) (hL : LR b B0 y L ls) (hS : va_S (AA B0) s.heap H locs) {i : Jvm.ClassFile.Instr} {len : Nat} (hdg : decode (mbc y) pc = .ok (i, len)) {c' : vCF} (hq : nxi y i len pc L st D mm z = some (.inl c'))
    (hroom : cells + c'.2.2.2.2.2.1 ≤ R.cells + z.1 ∧ slots + c'.2.2.2.2.2.2 ≤ R.slots + z.2) (hkn : cells ≤ R.cells ∧ slots ≤ R.slots)
    (kk : KK l b Lx B0 xs Dg cy y p e R s m args below meth c cells slots Q z c') : W p l e R s m args below meth c H locs cells slots Q (F0 m pc ls (st.map (rvV b B0))) := by
  obtain ⟨⟨hx, hb, hr, hml⟩, ⟨hown, hts, hlocks, hini⟩, hKF, ⟨hfr, hlo⟩, -⟩ := id C
  have same : ∀ (pc' : Nat) (L' st' : List Value) (ls' : Array Slot), c' = (pc', L', st', D, mm, z) → LR b B0 y L' ls' → W p l e R s m args below meth c H locs cells slots Q (F0 m pc' ls' (st'.map (rvV b B0))) := by
    intro pc' L' st' ls' hc hl
    subst hc
    exact kk H locs ls' cells slots hH hl hS rfl rfl
  cases i <;> simp only [nxi] at hq <;> first
    | (cases hq; done)
    | skip
  case iconst n =>
    obtain ⟨h1, hq⟩ := ite_some hq
    rw [eq_of_beq h1] at hdg
    cases hq
    exact lv_iconst hx hb hdg rfl (same _ _ _ _ rfl hL)
  case bipush n =>
    obtain ⟨h1, hq⟩ := ite_some hq
    rw [eq_of_beq h1] at hdg
    cases hq
    exact lv_bipush hx hb hdg rfl (same _ _ _ _ rfl hL)
  case sipush n =>
    obtain ⟨h1, hq⟩ := ite_some hq
    rw [eq_of_beq h1] at hdg
    cases hq
    exact lv_sipush hx hb hdg rfl (same _ _ _ _ rfl hL)
  case lconst n =>
    obtain ⟨h1, hq⟩ := ite_some hq
    rw [eq_of_beq h1] at hdg
    cases hq
    exact lv_lconst hx hb hdg rfl (same _ _ _ _ rfl hL)
  case ldc idx =>
    obtain ⟨h1, hq⟩ := ite_some hq
    rw [eq_of_beq h1] at hdg
    split at hq
    · rename_i v hv
      cases hq
      exact lv_ldc hx hb hown (hts _ (lk_c hv)) hdg (same _ _ _ _ rfl hL)
    · cases hq
  case ldc_w idx =>
    obtain ⟨h1, hq⟩ := ite_some hq
    rw [eq_of_beq h1] at hdg
    split at hq
    · rename_i v hv
      cases hq
      exact lv_ldcw hx hb hown (hts _ (lk_c hv)) hdg (same _ _ _ _ rfl hL)
    · cases hq
  case ldc2_w idx =>
    obtain ⟨h1, hq⟩ := ite_some hq
    rw [eq_of_beq h1] at hdg
    split at hq
    · rename_i v hv
      cases hq
      exact lv_ldc2 hx hb hown (hts _ (lk_l hv)) hdg (same _ _ _ _ rfl hL)
    · cases hq
  case iload_n k =>
    obtain ⟨h1, hq⟩ := ite_some hq
    rw [eq_of_beq h1] at hdg
    obtain ⟨x, h2, h3⟩ := gLd_inv hq
    cases h3
    exact lv_iload_n hx hb hdg rfl (hL.int h2) (same _ _ _ _ rfl hL)
  case iload k =>
    obtain ⟨h1, hq⟩ := ite_some hq
    rw [eq_of_beq h1] at hdg
    obtain ⟨x, h2, h3⟩ := gLd_inv hq
    cases h3
    exact lv_iload hx hb hdg (hL.int h2) (same _ _ _ _ rfl hL)
  case aload_n k =>
    obtain ⟨h1, hq⟩ := ite_some hq
    rw [eq_of_beq h1] at hdg
    obtain ⟨x, h2, h3⟩ := gLdR_inv hq
    cases h3
    exact lv_aload_n hx hb hdg rfl (hL.ref h2) (same _ _ _ _ rfl hL)
  case aload k =>
    obtain ⟨h1, hq⟩ := ite_some hq
    rw [eq_of_beq h1] at hdg
    obtain ⟨x, h2, h3⟩ := gLdR_inv hq
    cases h3
    exact lv_aload hx hb hdg (hL.ref h2) (same _ _ _ _ rfl hL)
  case lload_n k =>
    obtain ⟨h1, hq⟩ := ite_some hq
    rw [eq_of_beq h1] at hdg
    obtain ⟨x, h2, h3⟩ := gLdL_inv hq
    cases h3
    exact lv_lload_n hx hb hdg rfl (hL.long h2) (same _ _ _ _ rfl hL)
  case lload k =>
    obtain ⟨h1, hq⟩ := ite_some hq
    rw [eq_of_beq h1] at hdg
    obtain ⟨x, h2, h3⟩ := gLdL_inv hq
    cases h3
    exact lv_lload hx hb hdg (hL.long h2) (same _ _ _ _ rfl hL)
  case istore_n k =>
    obtain ⟨h1, hq⟩ := ite_some hq
    rw [eq_of_beq h1] at hdg
    obtain ⟨x, st', rfl, ho, h3⟩ := gSt_inv hq
    cases h3
    exact lv_istore_n hx hb hdg rfl hL.has (okS_lt hL ho) rfl (fun ls' h' => same _ _ _ _ rfl (hL.set1 (v := .int x) ho rfl h'))
  case istore k =>
    obtain ⟨h1, hq⟩ := ite_some hq
    rw [eq_of_beq h1] at hdg
    obtain ⟨x, st', rfl, ho, h3⟩ := gSt_inv hq
    cases h3
    exact lv_istore hx hb hdg hL.has (okS_lt hL ho) rfl (fun ls' h' => same _ _ _ _ rfl (hL.set1 (v := .int x) ho rfl h'))
  case astore_n k =>
    obtain ⟨h1, hq⟩ := ite_some hq
    rw [eq_of_beq h1] at hdg
    obtain ⟨x, st', rfl, ho, h3⟩ := gStR_inv hq
    cases h3
    exact lv_astore_n hx hb hdg rfl hL.has (okS_lt hL ho) rfl (fun ls' h' => same _ _ _ _ rfl (hL.set1 (v := .ref x) ho rfl h'))
  case astore k =>
    obtain ⟨h1, hq⟩ := ite_some hq
    rw [eq_of_beq h1] at hdg
    obtain ⟨x, st', rfl, ho, h3⟩ := gStR_inv hq
    cases h3
    exact lv_astore hx hb hdg hL.has (okS_lt hL ho) rfl (fun ls' h' => same _ _ _ _ rfl (hL.set1 (v := .ref x) ho rfl h'))
  case lstore_n k =>
    obtain ⟨h1, hq⟩ := ite_some hq
    rw [eq_of_beq h1] at hdg
    obtain ⟨x, st', rfl, ho, h3⟩ := gStL_inv hq
    cases h3
    exact lv_lstore_n hx hb hdg rfl hL.has (okS2_lt hL ho) rfl (fun ls' h' => same _ _ _ _ rfl (hL.set2 (v := .long x) ho h'))
  case lstore k =>
    obtain ⟨h1, hq⟩ := ite_some hq
    rw [eq_of_beq h1] at hdg
    obtain ⟨x, st', rfl, ho, h3⟩ := gStL_inv hq
    cases h3
    exact lv_lstore hx hb hdg hL.has (okS2_lt hL ho) rfl (fun ls' h' => same _ _ _ _ rfl (hL.set2 (v := .long x) ho h'))
  case iinc k n =>
    obtain ⟨h1, hq⟩ := ite_some hq
    rw [eq_of_beq h1] at hdg
    split at hq
    · rename_i x hv
      obtain ⟨ho, hq⟩ := ite_some hq
      cases hq
      have hmem : (k, Value.int x) ∈ al b B0 L := al_of (b := b) (B0 := B0) hv (fun q => by cases q)
      obtain ⟨j, hj⟩ := List.getElem?_of_mem hmem
      exact lv_iinc hx hb hdg hL.has hj rfl (okS_lt hL ho) rfl (fun ls' h' => same _ _ _ _ rfl (hL.set1 (v := .int (x + Int32.ofInt n)) ho rfl h'))
    · cases hq
  case iadd =>
    obtain ⟨h1, hq⟩ := ite_some hq
    rw [eq_of_beq h1] at hdg
    obtain ⟨x, v, st', rfl, h3⟩ := gI2_inv hq
    cases h3
    exact lv_iadd hx hb hdg (same _ _ _ _ rfl hL)
  case isub =>
    obtain ⟨h1, hq⟩ := ite_some hq
    rw [eq_of_beq h1] at hdg
    obtain ⟨x, v, st', rfl, h3⟩ := gI2_inv hq
    cases h3
    exact lv_isub hx hb hdg (same _ _ _ _ rfl hL)
  case imul =>
    obtain ⟨h1, hq⟩ := ite_some hq
    rw [eq_of_beq h1] at hdg
    obtain ⟨x, v, st', rfl, h3⟩ := gI2_inv hq
    cases h3
    exact lv_imul hx hb hdg (same _ _ _ _ rfl hL)
  case idiv =>
    obtain ⟨h1, hq⟩ := ite_some hq
    rw [eq_of_beq h1] at hdg
    obtain ⟨x, v, st', rfl, h2, h3⟩ := gDv_inv hq
    cases h3
    exact lv_idiv hx hb hdg h2 (same _ _ _ _ rfl hL)
  case irem =>
    obtain ⟨h1, hq⟩ := ite_some hq
    rw [eq_of_beq h1] at hdg
    obtain ⟨x, v, st', rfl, h2, h3⟩ := gDv_inv hq
    cases h3
    exact lv_irem hx hb hdg h2 (same _ _ _ _ rfl hL)
  case dup_x2 =>
    obtain ⟨h1, hq⟩ := ite_some hq
    rw [eq_of_beq h1] at hdg
    split at hq
    · obtain ⟨h2, hq⟩ := ite_some hq
      simp only [Bool.and_eq_true] at h2
      cases hq
      exact lv_dup_x2 hx hb hdg (by rw [rvV_cat]; exact eq_of_beq h2.1) (by rw [rvV_cat]; exact eq_of_beq h2.2.1) (by rw [rvV_cat]; exact eq_of_beq h2.2.2) (same _ _ _ _ rfl hL)
    · cases hq
  case iand =>
    obtain ⟨h1, hq⟩ := ite_some hq
    rw [eq_of_beq h1] at hdg
    obtain ⟨x, v, st', rfl, h3⟩ := gI2_inv hq
    cases h3
    exact lv_iand hx hb hdg (same _ _ _ _ rfl hL)
  case ior =>
    obtain ⟨h1, hq⟩ := ite_some hq
    rw [eq_of_beq h1] at hdg
    obtain ⟨x, v, st', rfl, h3⟩ := gI2_inv hq
    cases h3
    exact lv_ior hx hb hdg (same _ _ _ _ rfl hL)
  case ixor =>
    obtain ⟨h1, hq⟩ := ite_some hq
    rw [eq_of_beq h1] at hdg
    obtain ⟨x, v, st', rfl, h3⟩ := gI2_inv hq
    cases h3
    exact lv_ixor hx hb hdg (same _ _ _ _ rfl hL)
  case ishl =>
    obtain ⟨h1, hq⟩ := ite_some hq
    rw [eq_of_beq h1] at hdg
    obtain ⟨x, v, st', rfl, h3⟩ := gI2_inv hq
    cases h3
    exact lv_ishl hx hb hdg (same _ _ _ _ rfl hL)
  case ishr =>
    obtain ⟨h1, hq⟩ := ite_some hq
    rw [eq_of_beq h1] at hdg
    obtain ⟨x, v, st', rfl, h3⟩ := gI2_inv hq
    cases h3
    exact lv_ishr hx hb hdg (same _ _ _ _ rfl hL)
  case iushr =>
    obtain ⟨h1, hq⟩ := ite_some hq
    rw [eq_of_beq h1] at hdg
    obtain ⟨x, v, st', rfl, h3⟩ := gI2_inv hq
    cases h3
    exact lv_iushr hx hb hdg rfl (same _ _ _ _ rfl hL)
  case land =>
    obtain ⟨h1, hq⟩ := ite_some hq
    rw [eq_of_beq h1] at hdg
    obtain ⟨x, v, st', rfl, h3⟩ := gL2_inv hq
    cases h3
    exact lv_land hx hb hdg (same _ _ _ _ rfl hL)
  case lor =>
    obtain ⟨h1, hq⟩ := ite_some hq
    rw [eq_of_beq h1] at hdg
    obtain ⟨x, v, st', rfl, h3⟩ := gL2_inv hq
    cases h3
    exact lv_lor hx hb hdg (same _ _ _ _ rfl hL)
  case lshl =>
    obtain ⟨h1, hq⟩ := ite_some hq
    rw [eq_of_beq h1] at hdg
    obtain ⟨x, v, st', rfl, h3⟩ := gLS_inv hq
    cases h3
    exact lv_lshl hx hb hdg rfl (same _ _ _ _ rfl hL)
  case lushr =>
    obtain ⟨h1, hq⟩ := ite_some hq
    rw [eq_of_beq h1] at hdg
    obtain ⟨x, v, st', rfl, h3⟩ := gLS_inv hq
    cases h3
    exact lv_lushr hx hb hdg rfl (same _ _ _ _ rfl hL)
  case i2l =>
    obtain ⟨h1, hq⟩ := ite_some hq
    rw [eq_of_beq h1] at hdg
    split at hq
    · cases hq
      exact lv_i2l hx hb hdg rfl (same _ _ _ _ rfl hL)
    · cases hq
  case l2i =>
    obtain ⟨h1, hq⟩ := ite_some hq
    rw [eq_of_beq h1] at hdg
    split at hq
    · cases hq
      exact lv_l2i hx hb hdg rfl (same _ _ _ _ rfl hL)
    · cases hq
  case lcmp =>
    obtain ⟨h1, hq⟩ := ite_some hq
    rw [eq_of_beq h1] at hdg
    split at hq
    · cases hq
      exact W.lcmp hx hb hdg (same _ _ _ _ rfl hL)
    · cases hq
  case dup =>
    obtain ⟨h1, hq⟩ := ite_some hq
    rw [eq_of_beq h1] at hdg
    split at hq
    · obtain ⟨h2, hq⟩ := ite_some hq
      cases hq
      exact lv_dup hx hb hdg (by rw [rvV_cat]; exact eq_of_beq h2) (same _ _ _ _ rfl hL)
    · cases hq
  case dup2 =>
    obtain ⟨h1, hq⟩ := ite_some hq
    rw [eq_of_beq h1] at hdg
    split at hq
    · obtain ⟨h2, hq⟩ := ite_some hq
      simp only [Bool.and_eq_true] at h2
      cases hq
      exact lv_dup2_11 hx hb hdg (by rw [rvV_cat]; exact eq_of_beq h2.1) (by rw [rvV_cat]; exact eq_of_beq h2.2) (same _ _ _ _ rfl hL)
    · cases hq
  case pop =>
    obtain ⟨h1, hq⟩ := ite_some hq
    rw [eq_of_beq h1] at hdg
    split at hq
    · obtain ⟨h2, hq⟩ := ite_some hq
      cases hq
      exact lv_pop hx hb hdg (by rw [rvV_cat]; exact eq_of_beq h2) (same _ _ _ _ rfl hL)
    · cases hq
  case ifCond op off =>
    obtain ⟨h1, hq⟩ := ite_some hq
    rw [eq_of_beq h1] at hdg
    split at hq
    · rename_i x st' _old
      split at hq
      · rename_i t ht
        have ht := jmp_inv ht
        cases hq
        have go := fun (t' : Nat) (h : (if cmpB op x 0 = true then t else pc + 3) = t') => same t' L st' ls (by rw [h]) hL
        cases op
        · exact lv_if_eq hx hb hdg ht (fun q => go _ (by simp [cmpB, q])) (fun q => go _ (by simp [cmpB, q]))
        · exact lv_if_ne hx hb hdg ht (fun q => go _ (by simp [cmpB, q])) (fun q => go _ (by simp [cmpB, q]))
        · exact lv_if_lt hx hb hdg ht (fun q => go _ (by simp only [cmpB, q, decide_true, if_true])) (fun q => go _ (by simp only [cmpB, q, decide_false]; rfl))
        · exact lv_if_ge hx hb hdg ht (fun q => go _ (by simp only [cmpB, q, decide_true, if_true])) (fun q => go _ (by simp only [cmpB, q, decide_false]; rfl))
        · exact lv_if_gt hx hb hdg ht (fun q => go _ (by simp only [cmpB, q, decide_true, if_true])) (fun q => go _ (by simp only [cmpB, q, decide_false]; rfl))
        · exact lv_if_le hx hb hdg ht (fun q => go _ (by simp only [cmpB, q, decide_true, if_true])) (fun q => go _ (by simp only [cmpB, q, decide_false]; rfl))
      · cases hq
    · cases hq
  case if_icmp op off =>
    obtain ⟨h1, hq⟩ := ite_some hq
    rw [eq_of_beq h1] at hdg
    split at hq
    · rename_i v x st' _old
      split at hq
      · rename_i t ht
        have ht := jmp_inv ht
        cases hq
        have go := fun (t' : Nat) (h : (if cmpB op x v = true then t else pc + 3) = t') => same t' L st' ls (by rw [h]) hL
        cases op
        · exact lv_icmp_eq hx hb hdg ht (fun q => go _ (by simp [cmpB, q])) (fun q => go _ (by simp [cmpB, q]))
        · exact lv_icmp_ne hx hb hdg ht (fun q => go _ (by simp [cmpB, q])) (fun q => go _ (by simp [cmpB, q]))
        · exact lv_icmp_lt hx hb hdg ht (fun q => go _ (by simp only [cmpB, q, decide_true, if_true])) (fun q => go _ (by simp only [cmpB, q, decide_false]; rfl))
        · exact lv_icmp_ge hx hb hdg ht (fun q => go _ (by simp only [cmpB, q, decide_true, if_true])) (fun q => go _ (by simp only [cmpB, q, decide_false]; rfl))
        · exact lv_icmp_gt hx hb hdg ht (fun q => go _ (by simp only [cmpB, q, decide_true, if_true])) (fun q => go _ (by simp only [cmpB, q, decide_false]; rfl))
        · exact lv_icmp_le hx hb hdg ht (fun q => go _ (by simp only [cmpB, q, decide_true, if_true])) (fun q => go _ (by simp only [cmpB, q, decide_false]; rfl))
      · cases hq
    · cases hq
  case goto off =>
    obtain ⟨h1, hq⟩ := ite_some hq
    rw [eq_of_beq h1] at hdg
    obtain ⟨t, ht, h3⟩ := gJ_inv hq
    cases h3
    exact lv_goto hx hb hdg (jmp_inv ht) (same _ _ _ _ rfl hL)
  case tableswitch dflt lo hi offs =>
    split at hq
    · rename_i x st'
      obtain ⟨t, ht, h3⟩ := gJ_inv hq
      cases h3
      by_cases hc : x.toInt < lo ∨ hi < x.toInt
      · rw [if_pos (by rcases hc with q | q <;> simp [q])] at ht
        exact lv_tableOut hx hb hdg hc (jmp_inv ht) (same _ _ _ _ rfl hL)
      · have h1 : ¬ x.toInt < lo := fun q => hc (Or.inl q)
        have h2 : ¬ hi < x.toInt := fun q => hc (Or.inr q)
        rw [if_neg (by simp [h1, h2])] at ht
        split at ht
        · rename_i off ho
          exact lv_tableIn hx hb hdg h1 h2 ho (jmp_inv ht) (same _ _ _ _ rfl hL)
        · cases ht
    · cases hq
  case lookupswitch dflt ps =>
    split at hq
    · rename_i x st'
      obtain ⟨h1, hq⟩ := ite_some hq
      obtain ⟨t, ht, h3⟩ := gJ_inv hq
      cases h3
      exact lv_lookup hx hb hdg h1 rfl (jmp_inv ht) (same _ _ _ _ rfl hL)
    · cases hq
  case getfield idx =>
    obtain ⟨h1, hq⟩ := ite_some hq
    rw [eq_of_beq h1] at hdg
    split at hq
    · rename_i q hv
      obtain ⟨a, st', rfl, h2, h3⟩ := gGet_inv hq
      rcases h3 with ⟨h4, r, h5, h6⟩ | ⟨h4, h6⟩
      · cases h6
        refine sd_get C hH h2 (lk_f hv) hdg ?_
        rw [vv_ref (by rw [h2]; exact h4) h5]
        exact same _ _ _ _ rfl hL
      · cases h6
        refine sd_get C hH h2 (lk_f hv) hdg ?_
        rw [vv_int (by rw [h2]; exact h4)]
        exact same _ _ _ _ rfl hL
    · cases hq
  case putfield idx =>
    obtain ⟨h1, hq⟩ := ite_some hq
    rw [eq_of_beq h1] at hdg
    split at hq
    · rename_i q hv
      obtain ⟨hfin, h3⟩ := gPut_inv hq
      rcases h3 with ⟨x, a, st', rfl, h2, h4, h5, h6, h7⟩ | ⟨r, a, st', rfl, h2, h4, h7⟩
      · cases h7
        refine sd_put C hH hS h2 (lk_f hv) hfin h6 h5 (Or.inl rfl) (fun _ _ => rfl) (fun q hq => up2_ne hq) (fun i => ?_) hdg (fun H1 locs1 e1 e2 => kk H1 locs1 ls cells slots e1 hL e2 rfl rfl)
        rw [up2_eq]
        exact vv_upd (by rw [h2]; exact h4) i
      · cases h7
        have hfit : fits (tyN q.1 q.2) (.ref (ad b B0 r)) = true := by
          have := lk_f hv
          obtain ⟨h8, -, -⟩ := this
          dsimp only at h8
          unfold rT at h4
          rw [if_pos (Nat.lt_succ_of_lt h8)] at h4
          cases ht : tyN q.1 q.2 <;> rw [ht] at h4 <;> first | rfl | cases h4
        have hnar : narrow (tyN q.1 q.2) (.ref (ad b B0 r)) = .ref (ad b B0 r) := by
          cases ht : tyN q.1 q.2 <;> rfl
        exact sd_put C hH hS h2 (lk_f hv) hfin hnar hfit (Or.inr (by rw [upR_eq])) (fun q hq => upR_ne hq) (fun _ _ => rfl) (fun i => vv_upR (by rw [h2]; exact h4) i) hdg (fun H1 locs1 e1 e2 => kk H1 locs1 ls cells slots e1 hL e2 rfl rfl)
    · cases hq
  case iaload =>
    obtain ⟨h1, hq⟩ := ite_some hq
    rw [eq_of_beq h1] at hdg
    split at hq
    · obtain ⟨h2, hq⟩ := ite_some hq
      simp only [Bool.and_eq_true, Bool.or_eq_true, beq_iff_eq] at h2
      cases hq
      exact sd_iald C hH hS h2.1 h2.2 hdg (same _ _ _ _ rfl hL)
    · cases hq
  case iastore =>
    obtain ⟨h1, hq⟩ := ite_some hq
    rw [eq_of_beq h1] at hdg
    split at hq
    · obtain ⟨h2, hq⟩ := ite_some hq
      simp only [Bool.and_eq_true, beq_iff_eq] at h2
      cases hq
      exact sd_iast C hH hS h2.1 h2.2 hdg (fun H1 locs1 e1 e2 => kk H1 locs1 ls cells slots e1 hL e2 rfl rfl)
    · cases hq
  case baload =>
    obtain ⟨h1, hq⟩ := ite_some hq
    rw [eq_of_beq h1] at hdg
    split at hq
    · obtain ⟨h2, hq⟩ := ite_some hq
      simp only [Bool.and_eq_true, beq_iff_eq] at h2
      cases hq
      exact sd_bald C hH h2.1 h2.2 hdg (same _ _ _ _ rfl hL)
    · cases hq
  case bastore =>
    obtain ⟨h1, hq⟩ := ite_some hq
    rw [eq_of_beq h1] at hdg
    split at hq
    · obtain ⟨h2, hq⟩ := ite_some hq
      simp only [Bool.and_eq_true, beq_iff_eq] at h2
      cases hq
      exact sd_bast C hH hS h2.1 h2.2.1 h2.2.2 hdg (fun H1 locs1 e1 e2 => kk H1 locs1 ls cells slots e1 hL e2 rfl rfl)
    · cases hq
  case aaload =>
    obtain ⟨h1, hq⟩ := ite_some hq
    rw [eq_of_beq h1] at hdg
    split at hq
    · obtain ⟨h2, hq⟩ := ite_some hq
      simp only [Bool.and_eq_true, decide_eq_true_eq] at h2
      split at hq
      · rename_i r hr
        cases hq
        exact sd_aald C hH h2.1.1 h2.1.2 h2.2 hr hdg (same _ _ _ _ rfl hL)
      · cases hq
    · cases hq
  case aastore =>
    obtain ⟨h1, hq⟩ := ite_some hq
    rw [eq_of_beq h1] at hdg
    split at hq
    · obtain ⟨h2, hq⟩ := ite_some hq
      simp only [Bool.and_eq_true, decide_eq_true_eq, beq_iff_eq] at h2
      cases hq
      exact sd_aast C hH hS h2.1.1.1 h2.1.1.2 h2.1.2 h2.2 hdg (fun H1 locs1 e1 e2 => kk H1 locs1 ls cells slots e1 hL e2 rfl rfl)
    · cases hq
  case arraylength =>
    obtain ⟨h1, hq⟩ := ite_some hq
    rw [eq_of_beq h1] at hdg
    split at hq
    · obtain ⟨h2, hq⟩ := ite_some hq
      cases hq
      exact sd_alen C hH hS (eq_of_beq h2) hdg (same _ _ _ _ rfl hL)
    · cases hq
  case new idx =>
    obtain ⟨h1, hq⟩ := ite_some hq
    rw [eq_of_beq h1] at hdg
    split at hq
    · rename_i k hv
      cases hq
      dsimp only at hroom
      exact sd_new C hH hS (lk_k hv) (by omega) (by omega) hdg (fun H1 e1 e2 => kk H1 locs ls (cells + 1) (slots + NN k) e1 hL e2 (by dsimp only; omega) (by dsimp only; omega))
    · cases hq
  case newarray t =>
    obtain ⟨h1, hq⟩ := ite_some hq
    rw [eq_of_beq h1] at hdg
    split at hq
    · obtain ⟨h2, hq⟩ := ite_some hq
      simp only [Bool.and_eq_true, decide_eq_true_eq, Bool.not_eq_true', decide_eq_false_iff_not] at h2
      split at hq
      · cases hq
        dsimp only at hroom
        exact sd_newa C hH hS (Or.inl ⟨rfl, rfl⟩) h2.1 h2.2 (by omega) (by omega) hdg (fun H1 e1 e2 => kk H1 locs ls _ _ e1 hL e2 (by dsimp only; omega) (by dsimp only; omega))
      · cases hq
        dsimp only at hroom
        exact sd_newa C hH hS (Or.inr ⟨rfl, rfl⟩) h2.1 h2.2 (by omega) (by omega) hdg (fun H1 e1 e2 => kk H1 locs ls _ _ e1 hL e2 (by dsimp only; omega) (by dsimp only; omega))
      · cases hq
    · cases hq
  case anewarray idx =>
    obtain ⟨h1, hq⟩ := ite_some hq
    rw [eq_of_beq h1] at hdg
    split at hq
    · obtain ⟨h2, hq⟩ := ite_some hq
      simp only [Bool.and_eq_true, decide_eq_true_eq, Bool.not_eq_true', decide_eq_false_iff_not] at h2
      split at hq
      · rename_i k hv
        obtain ⟨h3, hq⟩ := ite_some hq
        simp only [Bool.or_eq_true, beq_iff_eq] at h3
        cases hq
        dsimp only at hroom
        exact sd_anew C hH hS (lk_k hv) h3 h2.1 h2.2 (by omega) (by omega) hdg (fun H1 e1 e2 => kk H1 locs ls _ _ e1 hL e2 (by dsimp only; omega) (by dsimp only; omega))
      · cases hq
    · cases hq
  case invokestatic idx =>
    obtain ⟨h1, hq⟩ := ite_some hq
    rw [eq_of_beq h1] at hdg
    split at hq
    · rename_i u hv
      split at hq
      · rename_i v x st' _old
        obtain ⟨h2, hq⟩ := ite_some hq
        simp only [Bool.and_eq_true, decide_eq_true_eq] at h2
        cases hq
        have h3 := sum_cat (st'.map (rvV b B0))
        rw [List.length_map] at h3
        exact va_mmin hx hb (by rw [hml]; exact hL.2.1.symm) hown (hts _ (lk_p hv)) (hts _ nk_mi.1) (hts _ nk_mi.2.1) (hts _ nk_mi.2.2) (by omega) (by omega) hkn.1 hkn.2 hdg (same _ _ _ _ rfl hL)
      · cases hq
    · split at hq
      · obtain ⟨h2, hq⟩ := ite_some hq
        unfold gS at hq
        split at hq
        · unfold gC at hq
          obtain ⟨-, hq⟩ := ite_some hq
          cases hq
        · cases hq
      · cases hq
  case invokespecial idx =>
    obtain ⟨h1, hq⟩ := ite_some hq
    rw [eq_of_beq h1] at hdg
    split at hq
    · rename_i u hv
      split at hq
      · rename_i a st' _old
        obtain ⟨h2, hq⟩ := ite_some hq
        simp only [Bool.and_eq_true, decide_eq_true_eq] at h2
        cases hq
        have h3 := sum_cat (st'.map (rvV b B0))
        rw [List.length_map] at h3
        exact W.objInit (g := F0 m pc ls (.ref (ad b B0 a) :: st'.map (rvV b B0))) hx hb hown (hts _ (lk_o hv)) (hts _ nk_oi.1) (hts _ nk_oi.2) rfl (by rw [hml]; exact hL.2.1) rfl hdg (by omega) (by show 2 * 0 + _ + 12 ≤ _; omega) (same _ _ _ _ rfl hL)
      · cases hq
    · split at hq
      · obtain ⟨h2, hq⟩ := ite_some hq
        unfold gV at hq
        split at hq
        · obtain ⟨-, hq⟩ := ite_some hq
          unfold gC at hq
          obtain ⟨-, hq⟩ := ite_some hq
          cases hq
        · cases hq
      · cases hq
  case invokevirtual idx =>
    obtain ⟨h1, hq⟩ := ite_some hq
    rw [eq_of_beq h1] at hdg
    split at hq
    · obtain ⟨h2, hq⟩ := ite_some hq
      unfold gV at hq
      split at hq
      · obtain ⟨-, hq⟩ := ite_some hq
        unfold gC at hq
        obtain ⟨-, hq⟩ := ite_some hq
        cases hq
      · cases hq
    · cases hq
  case ireturn =>
    obtain ⟨h1, hq⟩ := ite_some hq
    unfold gRet at hq
    split at hq
    · obtain ⟨-, hq⟩ := ite_some hq
      cases hq
    · cases hq
  case return_ =>
    obtain ⟨h1, hq⟩ := ite_some hq
    split at hq
    · obtain ⟨-, hq⟩ := ite_some hq
      cases hq
    · cases hq
end STP
