/-! which instructions call -/
def ncP (r : Option vST) : Prop := ∀ q, r = some (.inr (.inr q)) → False
theorem nc_none : ncP none := fun _ h => by cases h
theorem nc_gO {pc : Nat} {L st : List Value} {D : vDD} {mm : vMM} {z : vZZ} : ncP (gO pc L st D mm z) := fun _ h => by cases h
theorem nc_ite {c : Bool} {r : Option vST} (h : ncP r) : ncP (if c = true then r else none) := by
  split
  · exact h
  · exact nc_none
theorem nc_gJ {t : Option Nat} {L st : List Value} {D : vDD} {mm : vMM} {z : vZZ} : ncP (gJ t L st D mm z) := by
  unfold gJ
  split
  · exact nc_gO
  · exact nc_none
theorem nc_gLd {L : List Value} {k pc : Nat} {st : List Value} {D : vDD} {mm : vMM} {z : vZZ} : ncP (gLd L k pc st D mm z) ∧ ncP (gLdR L k pc st D mm z) ∧ ncP (gLdL L k pc st D mm z) := by
  refine ⟨?_, ?_, ?_⟩
  · unfold gLd; split
    · exact nc_gO
    · exact nc_none
  · unfold gLdR; split
    · exact nc_gO
    · exact nc_none
  · unfold gLdL; split
    · exact nc_gO
    · exact nc_none
theorem nc_gSt {y : vMD} {L : List Value} {k pc : Nat} {st : List Value} {D : vDD} {mm : vMM} {z : vZZ} : ncP (gSt y L k pc st D mm z) ∧ ncP (gStR y L k pc st D mm z) ∧ ncP (gStL y L k pc st D mm z) := by
  refine ⟨?_, ?_, ?_⟩
  · unfold gSt; split
    · exact nc_ite nc_gO
    · exact nc_none
  · unfold gStR; split
    · exact nc_ite nc_gO
    · exact nc_none
  · unfold gStL; split
    · exact nc_ite nc_gO
    · exact nc_none
theorem nc_g2 {f : Int32 → Int32 → Int32} {f2 : Int64 → Int64 → Int64} {f3 : Int64 → Int32 → Int64} {pc : Nat} {L st : List Value} {D : vDD} {mm : vMM} {z : vZZ} : ncP (gI2 f pc L st D mm z) ∧ ncP (gL2 f2 pc L st D mm z) ∧ ncP (gLS f3 pc L st D mm z) := by
  refine ⟨?_, ?_, ?_⟩
  · unfold gI2; split
    · exact nc_gO
    · exact nc_none
  · unfold gL2; split
    · exact nc_gO
    · exact nc_none
  · unfold gLS; split
    · exact nc_gO
    · exact nc_none
theorem nc_gDv {f : Int32 → Int32 → Int32} {pc : Nat} {L st : List Value} {D : vDD} {mm : vMM} {z : vZZ} : ncP (gDv f pc L st D mm z) := by
  unfold gDv
  split
  · exact nc_ite nc_gO
  · exact nc_none
theorem nc_gPut {y : vMD} {ci k pc : Nat} {L st : List Value} {D : vDD} {mm : vMM} {z : vZZ} : ncP (gPut y ci k pc L st D mm z) := by
  unfold gPut
  refine nc_ite ?_
  split
  · exact nc_ite nc_gO
  · exact nc_ite nc_gO
  · exact nc_none
theorem nc_gGet {ci k pc : Nat} {L st : List Value} {D : vDD} {mm : vMM} {z : vZZ} : ncP (gGet ci k pc L st D mm z) := by
  unfold gGet
  split
  · refine nc_ite ?_
    split
    · split
      · exact nc_gO
      · exact nc_none
    · exact nc_gO
  · exact nc_none
theorem nc_gRet {y : vMD} {st : List Value} {D : vDD} {mm : vMM} {z : vZZ} : ncP (gRet y st D mm z) := by
  unfold gRet
  split
  · exact nc_ite (fun _ h => by cases h)
  · exact nc_none
def isInv : Jvm.ClassFile.Instr → Bool := fun i => match i with
  | .invokevirtual _ => true
  | .invokestatic _ => true
  | .invokespecial _ => true
  | _ => false
theorem nc_nxi {y : vMD} {i : Jvm.ClassFile.Instr} {len pc : Nat} {L st : List Value} {D : vDD} {mm : vMM} {z : vZZ} (h : isInv i = false) : ncP (nxi y i len pc L st D mm z) := by
  unfold nxi
  split <;> (try exact nc_none) <;> (try (cases h; done)) <;>
    repeat' (first
      | exact nc_none | exact nc_gO | exact nc_gJ | exact nc_gLd.1 | exact nc_gLd.2.1 | exact nc_gLd.2.2 | exact nc_gSt.1 | exact nc_gSt.2.1 | exact nc_gSt.2.2
      | exact (nc_g2 (f2 := fun x _ => x) (f3 := fun x _ => x)).1 | exact (nc_g2 (f := fun x _ => x) (f3 := fun x _ => x)).2.1 | exact (nc_g2 (f := fun x _ => x) (f2 := fun x _ => x)).2.2
      | exact nc_gPut | exact nc_gGet | exact nc_gRet | exact nc_gDv
      | (intro q hq; cases hq; done)
      | split)
/-! SOUNDNESS of runs, by induction on the fuel -/
def ovz (b B0 : Nat) (zm : vMD) (v : Value) : Option Value := if (mrt zm).isNone then none else some (rvV b B0 v)
def rst (v : Value) : List Value := match v with
  | .int x => [.int x]
  | _ => []
def RI (y : vMD) (pc : Nat) (v : Value) : Prop := (∃ x, v = .int x ∧ decode (mbc y) pc = .ok (.ireturn, 1) ∧ ∃ ty, mrt y = some ty ∧ narrow ty (.int x) = .int x) ∨ (v = vJ ∧ decode (mbc y) pc = .ok (.return_, 1) ∧ mrt y = none)
def SNDf (l : Launch) (b Lx : Nat) (xs : Nat → Int32) (Dg : va_G) (cy : Nat → ClassId) (B0 f : Nat) : Prop :=
  ∀ (y : vMD) (c0 : vCF) (o : vOU), run f y c0 = some o → ∀ (p : Program) (e : Env) (R : Room) (s : State) (m : MethodId) (args : Array Value) (below : List Frame) (meth : Method) (c : Code) (H : Heap) (locs : List Loc) (cells slots : Nat) (Q : State → Prop) (ls : Array Slot),
    CX b Lx xs Dg cy B0 y p R s m args meth c → HR b B0 Lx xs Dg cy c0.2.2.2.1 c0.2.2.2.2.1 c0.2.2.2.2.2 H → LR b B0 y c0.2.1 ls → va_S (AA B0) s.heap H locs → cells + o.2.2.2.1 ≤ R.cells + c0.2.2.2.2.2.1 ∧ slots + o.2.2.2.2 ≤ R.slots + c0.2.2.2.2.2.2 →
    (∀ (pc' : Nat) (ls' : Array Slot) (H' : Heap) (locs' : List Loc) (k1 n1 : Nat), HR b B0 Lx xs Dg cy o.2.1 o.2.2.1 o.2.2.2 H' → va_S (AA B0) s.heap H' locs' → k1 + c0.2.2.2.2.2.1 = cells + o.2.2.2.1 → n1 + c0.2.2.2.2.2.2 = slots + o.2.2.2.2 → RI y pc' o.1 →
      W p l e R s m args below meth c H' locs' k1 n1 Q (F0 m pc' ls' (rst o.1))) →
    W p l e R s m args below meth c H locs cells slots Q (F0 m c0.1 ls (c0.2.2.1.map (rvV b B0)))
section ALL
variable {l : Launch} {b Lx B0 f : Nat} {xs : Nat → Int32} {Dg : va_G} {cy : Nat → ClassId}
theorem yOK_pl {y : vMD} (h : yOK y) : plainName (mym y).cls = true := h.2.2.2.1
abbrev wsZ (zm : vMD) : List Cond := Cond.code (mym zm) (mbc zm) (mnl zm) (mrt zm) :: BG
abbrev rmZ (zm : vMD) (mc ms : Nat) : Room := { frames := mht zm, cells := mc, slots := ms, locals := 40 * mht zm }
abbrev pcZ (b Lx B0 : Nat) (xs : Nat → Int32) (Dg : va_G) (cy : Nat → ClassId) (vs : List Value) (D : vDD) (mm : vMM) (z : vZZ) : Array Value → State → Prop := va_Pc (vs.map (rvV b B0)) (fun U => HR b B0 Lx xs Dg cy D mm z U.heap ∧ KF b Lx xs Dg cy U ∧ (b ≤ B0 ∧ B0 + 1 ≤ U.heap.size))
abbrev qcZ (b Lx B0 : Nat) (xs : Nat → Int32) (Dg : va_G) (cy : Nat → ClassId) (zm : vMD) (o : vOU) : Array Value → State → Outcome → State → Prop := fun _ st oc t => (oc = .returned (ovz b B0 zm o.1) ∧ HR b B0 Lx xs Dg cy o.2.1 o.2.2.1 o.2.2.2 t.heap) ∧ va_F (AA B0) st t
theorem met_of (hSND : SNDf l b Lx xs Dg cy B0 f) {zm : vMD} (hy : yOK zm) {vs : List Value} (hent : entOK zm vs = true) {D : vDD} {mm : vMM} {z : vZZ} {o : vOU} (hrun : run f zm (0, entL (mnl zm) vs, [], D, mm, z) = some o) :
    Met l (mym zm) (wsZ zm) (rmZ zm (o.2.2.2.1 - z.1) (o.2.2.2.2 - z.2)) (pcZ b Lx B0 xs Dg cy vs D mm z) (qcZ b Lx B0 xs Dg cy zm o) (o.2.2.2.1 - z.1) (o.2.2.2.2 - z.2) (AA B0) := by
  have hz := run_z _ _ _ _ hrun
  dsimp only at hz
  refine Met.ofW (cc := mbc zm) (maxL := mnl zm) (ret := mrt zm) (yOK_pl hy) rfl ?_
  intro p e s m args below meth c s₁ B hml hv
  obtain ⟨rfl, hH, hKF, hbB, hsB⟩ := hv
  have hts := atoms_spec (ws := wsZ zm) B.pre
  have hown : s.vm.findClass (mym zm).cls = some m.cls := findClass_of_methodNamed B.named
  rw [hy.2.2.2.2.2] at hown
  have hnm : meth.name = (mym zm).name := (name_of_methodNamed B.named B.method).1
  have hC : CX b Lx xs Dg cy B0 zm p (headSpec (wsZ zm) (rmZ zm (o.2.2.2.1 - z.1) (o.2.2.2.2 - z.2))).room s m (List.map (rvV b B0) vs).toArray meth c :=
    ⟨⟨B.exec, B.bytes, B.returns, hml⟩, ⟨hown, fun w hw => hts w (List.mem_cons_of_mem _ hw), B.notSynchronized, fun h => hnm.trans h⟩, hKF, ⟨Nat.le_refl _, Nat.le_refl _⟩, hbB, hsB⟩
  have hlen : (lg_sl (vs.map (rvV b B0))).length ≤ mnl zm := by
    rw [lg_map, ← lay_len]
    simp only [entOK, Bool.and_eq_true, decide_eq_true_eq] at hent
    exact hent.1
  have hl := lv_entry (vs.map (rvV b B0)) (n := mnl zm) hlen
  rw [lg_entry_eq]
  refine hSND zm (0, entL (mnl zm) vs, [], D, mm, z) o hrun p e _ s m _ below meth c s.heap [] 0 0 _ _ hC hH (LR.entry hent hl) va_S.rf ⟨by show 0 + o.2.2.2.1 ≤ (o.2.2.2.1 - z.1) + z.1; omega, by show 0 + o.2.2.2.2 ≤ (o.2.2.2.2 - z.2) + z.2; omega⟩ ?_
  intro pc' ls' H' locs' k1 n1 hH' hS' hk hn hRI
  dsimp only at hk hn
  have hk : k1 = o.2.2.2.1 - z.1 := by omega
  have hn : n1 = o.2.2.2.2 - z.2 := by omega
  subst hk
  subst hn
  rcases hRI with ⟨x, hx, hdg, ty, hty, hnar⟩ | ⟨hx, hdg, hty⟩
  · rw [hx]
    refine W.zret (v := x) (ty := ty) B.exec B.bytes (by rw [B.returns]; exact hty) hnar (fun t ht hW => ⟨⟨?_, by rw [ht]; exact hH'⟩, hS'.F ht⟩) hS'.2.2 hdg B.notSynchronized
    simp only [ovz, hty, hx]
    rfl
  · rw [hx]
    refine W.vret B.exec B.bytes (by rw [B.returns]; exact hty) (fun t ht hW => ⟨⟨?_, by rw [ht]; exact hH'⟩, hS'.F ht⟩) hS'.2.2 hdg B.notSynchronized
    simp only [ovz, hty]
    rfl
variable {p : Program} {e : Env} {R : Room} {s : State} {m : MethodId} {args : Array Value} {below : List Frame} {meth : Method} {c : Code} {H : Heap} {locs : List Loc} {cells slots : Nat} {Q : State → Prop} {pc : Nat} {y : vMD} {D : vDD} {mm : vMM} {z : vZZ} {ls : Array Slot} {L st : List Value}
theorem call_go {zm : vMD} {o : vOU} {mc ms : Nat} {st0 rest : List Value} {a : Array Value}
    (hr : va_Run p l e R s m args below meth c H locs cells slots mc ms (F0 m pc ls st0) rest (qcZ b Lx B0 xs Dg cy zm o a) (AA B0)) (hS : va_S (AA B0) s.heap H locs)
    (kk : ∀ (H1 : Heap) (locs1 : List Loc), HR b B0 Lx xs Dg cy o.2.1 o.2.2.1 o.2.2.2 H1 → va_S (AA B0) s.heap H1 locs1 → W p l e R s m args below meth c H1 locs1 (cells + mc) (slots + ms) Q (F0 m (pc + 3) ls ((ovz b B0 zm o.1).toList ++ rest))) :
    W p l e R s m args below meth c H locs cells slots Q (F0 m pc ls st0) := by
  intro T hT X
  obtain ⟨v, st₀, t, T', L', h0, X', hL', e1, e2, ⟨⟨hv, hHt⟩, hz, hk⟩, stp⟩ := hr T hT X
  cases hv
  rw [h0] at hz hk
  obtain ⟨t2, a1, b1⟩ := kk T'.heap (locs ++ L') (by rw [e1]; exact hHt) ⟨Nat.le_trans hS.1 (by rw [e1]; exact hz), fun q h1 h2 => by rw [e1, hk q (Nat.lt_of_lt_of_le h1 hS.1) h2]; exact hS.2.1 q h1 h2, fun q hq => by
      rcases List.mem_append.mp hq with h | h
      · exact hS.2.2 q h
      · exact hL' q h⟩ T' rfl X'
  exact ⟨t2, stp t2 a1, b1⟩
theorem pc_blind {vs : List Value} : FrameBlind (pcZ b Lx B0 xs Dg cy vs D mm z) := fun a U g mk h => ⟨h.1, h.2.1, h.2.2.1.blind g mk a, h.2.2.2⟩
theorem pc_at (C : CX b Lx xs Dg cy B0 y p R s m args meth c) (hH : HR b B0 Lx xs Dg cy D mm z H) (hS : va_S (AA B0) s.heap H locs) (vs : List Value) : ∀ U : State, U.heap = H → s.WarmedH U.vm → pcZ b Lx B0 xs Dg cy vs D mm z (vs.map (rvV b B0)).toArray U := by
  intro U hU hW
  obtain ⟨-, -, hKF, -, hbB, hsB⟩ := C
  refine ⟨rfl, by rw [hU]; exact hH, hKF.moved hW ?_, hbB, ?_⟩
  · rw [hU]
    exact hS.2.1 b (by omega) (by show ¬ B0 + 1 ≤ b; omega)
  · rw [hU]
    exact Nat.le_trans hsB hS.1
theorem goodZ {zm : vMD} (hy : yOK zm) : GoodIn BG (wsZ zm) := by
  intro w hw
  rcases List.mem_cons.mp hw with h | h
  · subst h
    exact ⟨hy.1, good_of_word (bg_good hy.1)⟩
  · exact ⟨h, good_of_word (bg_good h)⟩
theorem lk_room {zm : vMD} (hy : yOK zm) (C : CX b Lx xs Dg cy B0 y p R s m args meth c) (h : mht zm < mht y) {mc ms : Nat} : (rmZ zm mc ms).frames + 1 ≤ R.frames ∧ 8 + (mnl zm + 11) + (rmZ zm mc ms).locals ≤ R.locals := by
  obtain ⟨-, -, -, ⟨hfr, hlo⟩, -⟩ := C
  have := hy.2.2.2.2.1
  constructor
  · show mht zm + 1 ≤ R.frames
    omega
  · show 8 + (mnl zm + 11) + 40 * mht zm ≤ R.locals
    omega
set_option maxHeartbeats 8000000 in
theorem step_key (hSND : SNDf l b Lx xs Dg cy B0 f) (C : CX b Lx xs Dg cy B0 y p R s m args meth c) (hH : HR b B0 Lx xs Dg cy D mm z H) (hL : LR b B0 y L ls) (hS : va_S (AA B0) s.heap H locs) {i : Jvm.ClassFile.Instr} {len : Nat} (hdg : decode (mbc y) pc = .ok (i, len)) {zm : vMD} {c0 : vCF} {kf : vOU → vCF}
    {o : vOU} (hrun : run f zm c0 = some o) (hroom : cells + o.2.2.2.1 ≤ R.cells + z.1 ∧ slots + o.2.2.2.2 ≤ R.slots + z.2)
    (kk : KK l b Lx B0 xs Dg cy y p e R s m args below meth c cells slots Q z (kf o)) : ∀ (idx kd na : Nat) (vs rest : List Value), mOK (mow y) (idx, zm, kd, na) → gC y zm vs rest pc L D mm z = some (.inr (.inr (zm, c0, kf))) →
      (entOK zm vs = true ∧ mht zm < mht y ∧ c0 = (0, entL (mnl zm) vs, [], D, mm, z) ∧ rest.length ≤ 4 ∧
       ∀ (a : Array Value) (st0 : List Value), va_Run p l e R s m args below meth c H locs cells slots (o.2.2.2.1 - z.1) (o.2.2.2.2 - z.2) (F0 m pc ls st0) (rest.map (rvV b B0)) (qcZ b Lx B0 xs Dg cy zm o a) (AA B0) → W p l e R s m args below meth c H locs cells slots Q (F0 m pc ls st0)) := by
  have hrz := run_z _ _ _ _ hrun
  obtain ⟨⟨hx, hb, hr, hml⟩, ⟨hown, hts, hlocks, hini⟩, hKF, ⟨hfr, hlo⟩, -⟩ := id C
  intro idx kd na vs rest hm hg
  unfold gC at hg
  obtain ⟨h1, h2⟩ := ite_some hg
  simp only [Bool.and_eq_true, decide_eq_true_eq] at h1
  cases h2
  refine ⟨h1.2.2, h1.1, rfl, h1.2.1, fun a st0 hrn => call_go hrn hS (fun H1 locs1 e1 e2 => ?_)⟩
  dsimp only at hrz
  have hk2 := kk H1 locs1 ls (cells + (o.2.2.2.1 - z.1)) (slots + (o.2.2.2.2 - z.2)) e1 hL e2 (by dsimp only; omega) (by dsimp only; omega)
  dsimp only at hk2
  unfold ovz
  by_cases hn : (mrt zm).isNone = true
  · rw [if_pos hn] at hk2 ⊢
    exact hk2
  · rw [if_neg hn] at hk2 ⊢
    exact hk2
set_option maxHeartbeats 8000000 in
theorem step_virt (hSND : SNDf l b Lx xs Dg cy B0 f) (C : CX b Lx xs Dg cy B0 y p R s m args meth c) (hH : HR b B0 Lx xs Dg cy D mm z H) (hL : LR b B0 y L ls) (hS : va_S (AA B0) s.heap H locs) {i : Jvm.ClassFile.Instr} {len : Nat} (hdg : decode (mbc y) pc = .ok (i, len)) {zm : vMD} {c0 : vCF} {kf : vOU → vCF}
    {o : vOU} (hrun : run f zm c0 = some o) (hroom : cells + o.2.2.2.1 ≤ R.cells + z.1 ∧ slots + o.2.2.2.2 ≤ R.slots + z.2)
    (kk : KK l b Lx B0 xs Dg cy y p e R s m args below meth c cells slots Q z (kf o)) : ∀ (idx kd na : Nat) (hm : mOK (mow y) (idx, zm, kd, na)), gV y zm na pc L st D mm z = some (.inr (.inr (zm, c0, kf))) → ((kd = 0 ∧ i = .invokevirtual idx) ∨ ((kd = 2 ∨ kd = 6) ∧ i = .invokespecial idx)) → len = 3 → W p l e R s m args below meth c H locs cells slots Q (F0 m pc ls (st.map (rvV b B0))) := by
  have hrz := run_z _ _ _ _ hrun
  obtain ⟨⟨hx, hb, hr, hml⟩, ⟨hown, hts, hlocks, hini⟩, hKF, ⟨hfr, hlo⟩, -⟩ := id C
  have key := step_key (e := e) (below := below) hSND C hH hL hS hdg hrun hroom kk
  intro idx kd na hm hg hi hlen
  unfold gV at hg
  split at hg
  · rename_i a rest hst
    obtain ⟨h1, h2⟩ := ite_some hg
    simp only [Bool.and_eq_true, beq_iff_eq, decide_eq_true_eq] at h1
    obtain ⟨hent, hht, hc0, hlen4, go⟩ := key idx kd na _ _ hm h2
    rw [hc0] at hrun
    obtain ⟨hy, hlink, hdesc, hkind⟩ := hm
    dsimp only at hy hlink hdesc hkind
    have hM := met_of hSND hy hent hrun
    have hstk : st.map (rvV b B0) = (((st.take na).reverse).map (rvV b B0)).reverse ++ .ref (ad b B0 a) :: rest.map (rvV b B0) := by
      rw [List.map_reverse, List.reverse_reverse]
      show st.map (rvV b B0) = (st.take na).map (rvV b B0) ++ ((.ref a :: rest : List Value).map (rvV b B0))
      rw [← hst, ← List.map_append, List.take_append_drop]
    have hna : (((st.take na).reverse).map (rvV b B0)).length = na := by
      rw [List.length_map, List.length_reverse, List.length_take]
      omega
    have hsum : ((rest.map (rvV b B0)).map fun v => v.category).sum ≤ 8 := by
      have h3 := sum_cat (rest.map (rvV b B0))
      rw [List.length_map] at h3
      omega
    rw [hstk]
    have hmow : mow zm < 7 := by rcases hkind with h | h | h <;> first | exact h.2.1 | (rcases hi with ⟨q, -⟩ | ⟨q, -⟩ <;> omega)
    have hin := hH.in (a := a) (by omega)
    obtain ⟨cell, q1, q2, q3, -⟩ : t_OB (B0 + a) (Dg.1 (mow zm)) (NN (mow zm)) (Dg.2 (mow zm)) H (vv b B0 (D a) (mm a)) := by
      rcases hH.2.2.2 a hin.1 hin.2.1 with ⟨-, h⟩ | ⟨h, -, -⟩
      · rw [h1.1] at h
        exact h
      · omega
    have hcell : ∃ cellB : Cell, H[ad b B0 a]? = some cellB ∧ cellB.vm.isStatics = false ∧ s.vm.findClass (mym zm).cls = some cellB.cls := ⟨cell, by rw [hin.2.2]; exact q1, by rw [q3]; rfl, by rw [q2, hy.2.2.2.2.2]; exact (hKF.1.1 _ _ (nk_cl _ hmow)).2.1⟩
    have hfit : cells + (o.2.2.2.1 - z.1) ≤ R.cells ∧ slots + (o.2.2.2.2 - z.2) ≤ R.slots := by
      rw [hc0] at hrz
      dsimp only at hrz
      omega
    have hPat := pc_at C hH hS (.ref a :: (st.take na).reverse)
    rcases hi with ⟨hkd, hi⟩ | ⟨hkd, hi⟩
    · subst hi
      subst hkd
      rw [if_pos (by omega)] at hlink
      rcases hkind with h | h | h
      · have cb := callB_of (R := R) (Ts := BG) (own := RN (mow y)) (index := idx) (rm := rmZ zm (o.2.2.2.1 - z.1) (o.2.2.2.2 - z.2)) na hts (goodZ hy) rfl rfl rfl (hts _ hy.2.1) (hts _ hlink) ⟨hy.2.2.1.1, hy.2.2.1.2, hdesc⟩ (lk_room hy C hht)
        exact go _ _ (va_runV (C := (mym zm).cls) ⟨hx, hb, hml, hown, hts⟩ hM ⟨cb, hts _ h.2.2.1, hts _ h.2.2.2⟩ ⟨pc_blind, hcell, hPat⟩ rfl hna hL.2.1 rfl (lv_room hsum) (by rw [hlen] at hdg; exact hdg) hfit)
      · exact absurd h.1 (by omega)
      · exact absurd h.1 (by omega)
    · subst hi
      rcases hkind with h | h | h
      · exact absurd h.1 (by omega)
      · exact absurd h.1 (by omega)
      · obtain ⟨h3, -, hret, hnm, hins⟩ := h
        rcases h3 with h3 | h3
        · subst h3
          rw [if_pos (by omega)] at hlink
          have cb := callB_of (R := R) (Ts := BG) (own := RN (mow y)) (index := idx) (rm := rmZ zm (o.2.2.2.1 - z.1) (o.2.2.2.2 - z.2)) na hts (goodZ hy) rfl rfl rfl (hts _ hy.2.1) (hts _ hlink) ⟨hy.2.2.1.1, hy.2.2.1.2, hdesc⟩ (lk_room hy C hht)
          rw [hret] at cb
          exact go _ _ (va_runI ⟨hx, hb, hml, hown, hts⟩ hM ⟨cb, hnm, hts _ hins⟩ ⟨pc_blind, hPat⟩ rfl hna hL.2.1 rfl (lv_room hsum) (by rw [hlen] at hdg; exact hdg) hfit)
        · subst h3
          rw [if_neg (by omega)] at hlink
          have cb := va_cnB (R := R) (own := RN (mow y)) (index := idx) (rm := rmZ zm (o.2.2.2.1 - z.1) (o.2.2.2.2 - z.2)) na hts (goodZ hy) rfl rfl rfl (hKF.2.2.1 _ hlink) (hts _ hy.2.1) ⟨hy.2.2.1.1, hy.2.2.1.2, hdesc⟩ (lk_room hy C hht)
          rw [hret] at cb
          exact go _ _ (va_runIN ⟨hx, hb, hml, hown, hts⟩ hM ⟨cb, hnm, hts _ hins⟩ ⟨pc_blind, hPat⟩ rfl hna hL.2.1 rfl (lv_room hsum) (by rw [hlen] at hdg; exact hdg) hfit)
  · cases hg
set_option maxHeartbeats 8000000 in
theorem step_stat (hSND : SNDf l b Lx xs Dg cy B0 f) (C : CX b Lx xs Dg cy B0 y p R s m args meth c) (hH : HR b B0 Lx xs Dg cy D mm z H) (hL : LR b B0 y L ls) (hS : va_S (AA B0) s.heap H locs) {i : Jvm.ClassFile.Instr} {len : Nat} (hdg : decode (mbc y) pc = .ok (i, len)) {zm : vMD} {c0 : vCF} {kf : vOU → vCF}
    {o : vOU} (hrun : run f zm c0 = some o) (hroom : cells + o.2.2.2.1 ≤ R.cells + z.1 ∧ slots + o.2.2.2.2 ≤ R.slots + z.2)
    (kk : KK l b Lx B0 xs Dg cy y p e R s m args below meth c cells slots Q z (kf o)) : ∀ (idx kd na : Nat) (hm : mOK (mow y) (idx, zm, kd, na)), gS y zm na pc L st D mm z = some (.inr (.inr (zm, c0, kf))) → (kd = 1 ∨ kd = 5) → i = .invokestatic idx → len = 3 → W p l e R s m args below meth c H locs cells slots Q (F0 m pc ls (st.map (rvV b B0))) := by
  have hrz := run_z _ _ _ _ hrun
  obtain ⟨⟨hx, hb, hr, hml⟩, ⟨hown, hts, hlocks, hini⟩, hKF, ⟨hfr, hlo⟩, -⟩ := id C
  have key := step_key (e := e) (below := below) hSND C hH hL hS hdg hrun hroom kk
  intro idx kd na hm hg hkd hi hlen
  subst hi
  unfold gS at hg
  split at hg
  · rename_i hle
    obtain ⟨hent, hht, hc0, hlen4, go⟩ := key idx kd na _ _ hm hg
    rw [hc0] at hrun
    obtain ⟨hy, hlink, hdesc, hkind⟩ := hm
    dsimp only at hy hlink hdesc hkind
    have hM := met_of hSND hy hent hrun
    have hstk : st.map (rvV b B0) = (((st.take na).reverse).map (rvV b B0)).reverse ++ (st.drop na).map (rvV b B0) := by
      rw [List.map_reverse, List.reverse_reverse, ← List.map_append, List.take_append_drop]
    have hna : (((st.take na).reverse).map (rvV b B0)).length = na := by
      rw [List.length_map, List.length_reverse, List.length_take]
      omega
    have hsum : (((st.drop na).map (rvV b B0)).map fun v => v.category).sum ≤ 8 := by
      have h3 := sum_cat ((st.drop na).map (rvV b B0))
      rw [List.length_map] at h3
      omega
    rw [hstk]
    have hfit : cells + (o.2.2.2.1 - z.1) ≤ R.cells ∧ slots + (o.2.2.2.2 - z.2) ≤ R.slots := by
      rw [hc0] at hrz
      dsimp only at hrz
      omega
    have hPat := pc_at C hH hS ((st.take na).reverse)
    rcases hkind with h | h | h
    · exact absurd h.1 (by omega)
    · rcases hkd with hkd | hkd
      · subst hkd
        rw [if_pos (by omega)] at hlink
        have cb := callB_of (R := R) (Ts := BG) (own := RN (mow y)) (index := idx) (rm := rmZ zm (o.2.2.2.1 - z.1) (o.2.2.2.2 - z.2)) na hts (goodZ hy) rfl rfl rfl (hts _ hy.2.1) (hts _ hlink) ⟨hy.2.2.1.1, hy.2.2.1.2, hdesc⟩ (lk_room hy C hht)
        exact go _ _ (va_runS ⟨hx, hb, hml, hown, hts⟩ hM ⟨cb, hts _ h.2⟩ ⟨pc_blind, hPat⟩ rfl hna hL.2.1 rfl (lv_room hsum) (by rw [hlen] at hdg; exact hdg) hfit)
      · subst hkd
        rw [if_neg (by omega)] at hlink
        have cb := va_cnB (R := R) (own := RN (mow y)) (index := idx) (rm := rmZ zm (o.2.2.2.1 - z.1) (o.2.2.2.2 - z.2)) na hts (goodZ hy) rfl rfl rfl (hKF.2.2.1 _ hlink) (hts _ hy.2.1) ⟨hy.2.2.1.1, hy.2.2.1.2, hdesc⟩ (lk_room hy C hht)
        exact go _ _ (va_runSN ⟨hx, hb, hml, hown, hts⟩ hM ⟨cb, hts _ h.2, trivial⟩ ⟨pc_blind, hPat⟩ rfl hna hL.2.1 rfl (lv_room hsum) (by rw [hlen] at hdg; exact hdg) hfit)
    · exact absurd h.1 (by omega)
  · cases hg
set_option maxHeartbeats 8000000 in
theorem step_call (hSND : SNDf l b Lx xs Dg cy B0 f) (C : CX b Lx xs Dg cy B0 y p R s m args meth c) (hH : HR b B0 Lx xs Dg cy D mm z H) (hL : LR b B0 y L ls) (hS : va_S (AA B0) s.heap H locs) {i : Jvm.ClassFile.Instr} {len : Nat} (hdg : decode (mbc y) pc = .ok (i, len)) {zm : vMD} {c0 : vCF} {kf : vOU → vCF} (hq : nxi y i len pc L st D mm z = some (.inr (.inr (zm, c0, kf))))
    {o : vOU} (hrun : run f zm c0 = some o) (hroom : cells + o.2.2.2.1 ≤ R.cells + z.1 ∧ slots + o.2.2.2.2 ≤ R.slots + z.2)
    (kk : KK l b Lx B0 xs Dg cy y p e R s m args below meth c cells slots Q z (kf o)) : W p l e R s m args below meth c H locs cells slots Q (F0 m pc ls (st.map (rvV b B0))) := by
  have virt := step_virt (st := st) (e := e) (below := below) hSND C hH hL hS hdg hrun hroom kk
  have stat := step_stat (st := st) (e := e) (below := below) hSND C hH hL hS hdg hrun hroom kk
  clear hSND C hH hL hS hdg hrun hroom kk
  by_cases hinv : isInv i = false
  · exact (nc_nxi hinv _ hq).elim
  cases i <;> first
    | exact absurd rfl hinv
    | simp only [nxi] at hq
  case invokevirtual idx =>
    obtain ⟨h1, hq⟩ := ite_some hq
    split at hq
    · rename_i q hv
      obtain ⟨h2, hq⟩ := ite_some hq
      have hzm : q.1 = zm := by
        unfold gV at hq
        split at hq
        · obtain ⟨-, hq⟩ := ite_some hq
          unfold gC at hq
          obtain ⟨-, hq⟩ := ite_some hq
          cases hq
          rfl
        · cases hq
      obtain ⟨q1, q2, q3⟩ := q
      dsimp only at hzm hq h2
      subst hzm
      exact virt idx q2 q3 (lk_m hv) hq (Or.inl ⟨eq_of_beq h2, rfl⟩) (eq_of_beq h1)
    · cases hq
  case invokestatic idx =>
    obtain ⟨h1, hq⟩ := ite_some hq
    split at hq
    · split at hq
      · obtain ⟨-, hq⟩ := ite_some hq
        cases hq
      · cases hq
    · split at hq
      · rename_i q hv
        obtain ⟨h2, hq⟩ := ite_some hq
        simp only [Bool.or_eq_true, beq_iff_eq] at h2
        have hzm : q.1 = zm := by
          unfold gS at hq
          split at hq
          · unfold gC at hq
            obtain ⟨-, hq⟩ := ite_some hq
            cases hq
            rfl
          · cases hq
        obtain ⟨q1, q2, q3⟩ := q
        dsimp only at hzm hq h2
        subst hzm
        exact stat idx q2 q3 (lk_m hv) hq h2 rfl (eq_of_beq h1)
      · cases hq
  case invokespecial idx =>
    obtain ⟨h1, hq⟩ := ite_some hq
    split at hq
    · split at hq
      · obtain ⟨-, hq⟩ := ite_some hq
        cases hq
      · cases hq
    · split at hq
      · rename_i q hv
        obtain ⟨h2, hq⟩ := ite_some hq
        simp only [Bool.or_eq_true, beq_iff_eq] at h2
        have hzm : q.1 = zm := by
          unfold gV at hq
          split at hq
          · obtain ⟨-, hq⟩ := ite_some hq
            unfold gC at hq
            obtain ⟨-, hq⟩ := ite_some hq
            cases hq
            rfl
          · cases hq
        obtain ⟨q1, q2, q3⟩ := q
        dsimp only at hzm hq h2
        subst hzm
        exact virt idx q2 q3 (lk_m hv) hq (Or.inr ⟨h2, rfl⟩) (eq_of_beq h1)
      · cases hq
end ALL
/-! which instructions end -/
theorem ret_inv {y : vMD} {i : Jvm.ClassFile.Instr} {len pc : Nat} {L st : List Value} {D : vDD} {mm : vMM} {z : vZZ} {o : vOU} (hdg : decode (mbc y) pc = .ok (i, len)) (hi : i = .ireturn ∨ i = .return_) (h : nxi y i len pc L st D mm z = some (.inr (.inl o))) :
    RI y pc o.1 ∧ o.2.1 = D ∧ o.2.2.1 = mm ∧ o.2.2.2 = z ∧ st.map (rvV 0 0) = rst o.1 ∧ ∀ b B0, st.map (rvV b B0) = rst o.1 := by
  rcases hi with rfl | rfl
  · simp only [nxi] at h
    obtain ⟨h1, h⟩ := ite_some h
    rw [eq_of_beq h1] at hdg
    unfold gRet at h
    split at h
    · rename_i v ty hty _old
      obtain ⟨h2, h⟩ := ite_some h
      cases h
      exact ⟨Or.inl ⟨_, rfl, hdg, _, hty, eq_of_beq h2⟩, rfl, rfl, rfl, rfl, fun _ _ => rfl⟩
    · cases h
  · simp only [nxi] at h
    obtain ⟨h1, h⟩ := ite_some h
    rw [eq_of_beq h1] at hdg
    split at h
    · obtain ⟨h2, h⟩ := ite_some h
      cases h
      exact ⟨Or.inr ⟨rfl, hdg, by simpa using h2⟩, rfl, rfl, rfl, rfl, fun _ _ => rfl⟩
    · cases h
def nrP (r : Option vST) : Prop := ∀ q, r = some (.inr (.inl q)) → False
theorem nr_none : nrP none := fun _ h => by cases h
theorem nr_gO {pc : Nat} {L st : List Value} {D : vDD} {mm : vMM} {z : vZZ} : nrP (gO pc L st D mm z) := fun _ h => by cases h
theorem nr_ite {c : Bool} {r : Option vST} (h : nrP r) : nrP (if c = true then r else none) := by
  split
  · exact h
  · exact nr_none
theorem nr_gJ {t : Option Nat} {L st : List Value} {D : vDD} {mm : vMM} {z : vZZ} : nrP (gJ t L st D mm z) := by
  unfold gJ
  split
  · exact nr_gO
  · exact nr_none
theorem nr_gLd {L : List Value} {k pc : Nat} {st : List Value} {D : vDD} {mm : vMM} {z : vZZ} : nrP (gLd L k pc st D mm z) ∧ nrP (gLdR L k pc st D mm z) ∧ nrP (gLdL L k pc st D mm z) := by
  refine ⟨?_, ?_, ?_⟩
  · unfold gLd; split
    · exact nr_gO
    · exact nr_none
  · unfold gLdR; split
    · exact nr_gO
    · exact nr_none
  · unfold gLdL; split
    · exact nr_gO
    · exact nr_none
theorem nr_gSt {y : vMD} {L : List Value} {k pc : Nat} {st : List Value} {D : vDD} {mm : vMM} {z : vZZ} : nrP (gSt y L k pc st D mm z) ∧ nrP (gStR y L k pc st D mm z) ∧ nrP (gStL y L k pc st D mm z) := by
  refine ⟨?_, ?_, ?_⟩
  · unfold gSt; split
    · exact nr_ite nr_gO
    · exact nr_none
  · unfold gStR; split
    · exact nr_ite nr_gO
    · exact nr_none
  · unfold gStL; split
    · exact nr_ite nr_gO
    · exact nr_none
theorem nr_g2 {f : Int32 → Int32 → Int32} {f2 : Int64 → Int64 → Int64} {f3 : Int64 → Int32 → Int64} {pc : Nat} {L st : List Value} {D : vDD} {mm : vMM} {z : vZZ} : nrP (gI2 f pc L st D mm z) ∧ nrP (gL2 f2 pc L st D mm z) ∧ nrP (gLS f3 pc L st D mm z) := by
  refine ⟨?_, ?_, ?_⟩
  · unfold gI2; split
    · exact nr_gO
    · exact nr_none
  · unfold gL2; split
    · exact nr_gO
    · exact nr_none
  · unfold gLS; split
    · exact nr_gO
    · exact nr_none
theorem nr_gDv {f : Int32 → Int32 → Int32} {pc : Nat} {L st : List Value} {D : vDD} {mm : vMM} {z : vZZ} : nrP (gDv f pc L st D mm z) := by
  unfold gDv
  split
  · exact nr_ite nr_gO
  · exact nr_none
theorem nr_gPut {y : vMD} {ci k pc : Nat} {L st : List Value} {D : vDD} {mm : vMM} {z : vZZ} : nrP (gPut y ci k pc L st D mm z) := by
  unfold gPut
  refine nr_ite ?_
  split
  · exact nr_ite nr_gO
  · exact nr_ite nr_gO
  · exact nr_none
theorem nr_gGet {ci k pc : Nat} {L st : List Value} {D : vDD} {mm : vMM} {z : vZZ} : nrP (gGet ci k pc L st D mm z) := by
  unfold gGet
  split
  · refine nr_ite ?_
    split
    · split
      · exact nr_gO
      · exact nr_none
    · exact nr_gO
  · exact nr_none
theorem nr_gC {y zm : vMD} {args rest : List Value} {pc : Nat} {L : List Value} {D : vDD} {mm : vMM} {z : vZZ} : nrP (gC y zm args rest pc L D mm z) := by
  unfold gC
  exact nr_ite (fun _ h => by cases h)
theorem nr_gV {y zm : vMD} {na pc : Nat} {L st : List Value} {D : vDD} {mm : vMM} {z : vZZ} : nrP (gV y zm na pc L st D mm z) := by
  unfold gV
  split
  · exact nr_ite nr_gC
  · exact nr_none
theorem nr_gS {y zm : vMD} {na pc : Nat} {L st : List Value} {D : vDD} {mm : vMM} {z : vZZ} : nrP (gS y zm na pc L st D mm z) := by
  unfold gS
  split
  · exact nr_gC
  · exact nr_none
theorem nr_nxi {y : vMD} {i : Jvm.ClassFile.Instr} {len pc : Nat} {L st : List Value} {D : vDD} {mm : vMM} {z : vZZ} (h : ¬ (i = .ireturn ∨ i = .return_)) : nrP (nxi y i len pc L st D mm z) := by
  unfold nxi
  split <;> (try exact nr_none) <;> (try (exact absurd (Or.inl rfl) h)) <;> (try (exact absurd (Or.inr rfl) h)) <;>
    repeat' (first
      | exact nr_none | exact nr_gO | exact nr_gJ | exact nr_gV | exact nr_gS | exact nr_gLd.1 | exact nr_gLd.2.1 | exact nr_gLd.2.2 | exact nr_gSt.1 | exact nr_gSt.2.1 | exact nr_gSt.2.2
      | exact (nr_g2 (f2 := fun x _ => x) (f3 := fun x _ => x)).1 | exact (nr_g2 (f := fun x _ => x) (f3 := fun x _ => x)).2.1 | exact (nr_g2 (f := fun x _ => x) (f2 := fun x _ => x)).2.2
      | exact nr_gPut | exact nr_gGet | exact nr_gDv
      | split)
theorem snd_all {l : Launch} {b Lx B0 : Nat} {xs : Nat → Int32} {Dg : va_G} {cy : Nat → ClassId} : ∀ f : Nat, SNDf l b Lx xs Dg cy B0 f
  | 0 => fun _ _ _ h => by cases h
  | f + 1 => by
    have ih := snd_all (l := l) (b := b) (Lx := Lx) (B0 := B0) (xs := xs) (Dg := Dg) (cy := cy) f
    intro y c0 o hrun p e R s m args below meth c H locs cells slots Q ls hC hH hL hS hroom K
    obtain ⟨pc, L, st, D, mm, z⟩ := c0
    dsimp only at hH hL hroom K ⊢
    have hr0 := hrun
    simp only [run, bdy] at hrun
    cases hn : nxt y (pc, L, st, D, mm, z) with
    | none => rw [hn] at hrun; cases hrun
    | some q =>
      rw [hn] at hrun
      have hzq := nz_nxt hn
      unfold nxt at hn
      dsimp only at hn
      cases hdec : decode (mbc y) pc with
      | error _ => rw [hdec] at hn; cases hn
      | ok r =>
        obtain ⟨i, len⟩ := r
        rw [hdec] at hn
        dsimp only at hn
        rcases q with c' | o' | q
        · dsimp only at hrun
          have h2 := run_z f y c' o hrun
          refine step_go hC hH hL hS hdec hn ⟨?_, ?_⟩ ⟨?_, ?_⟩ ?_
          · have := hzq.1; omega
          · have := hzq.2; omega
          · have h3 : z.1 ≤ c'.2.2.2.2.2.1 := hzq.1; omega
          · have h3 : z.2 ≤ c'.2.2.2.2.2.2 := hzq.2; omega
          · intro H1 locs1 ls1 k1 n1 hH1 hL1 hS1 hk hn1
            have h3 : z.1 ≤ c'.2.2.2.2.2.1 := hzq.1
            have h4 : z.2 ≤ c'.2.2.2.2.2.2 := hzq.2
            exact ih y c' o hrun p e R s m args below meth c H1 locs1 k1 n1 Q ls1 hC hH1 hL1 hS1 ⟨by omega, by omega⟩ (fun pc' ls' H' locs' k2 n2 a1 a2 a3 a4 a5 => K pc' ls' H' locs' k2 n2 a1 a2 (by omega) (by omega) a5)
        · dsimp only at hrun
          cases hrun
          by_cases hi : i = .ireturn ∨ i = .return_
          · obtain ⟨h1, h2, h3, h4, -, h6⟩ := ret_inv hdec hi hn
            rw [h6 b B0]
            exact K pc ls H locs cells slots (by rw [h2, h3, h4]; exact hH) hS (by rw [h4]) (by rw [h4]) h1
          · exact (nr_nxi hi _ hn).elim
        · obtain ⟨zm, c1, kf⟩ := q
          dsimp only at hrun
          cases hr : run f zm c1 with
          | none => rw [hr] at hrun; cases hrun
          | some o1 =>
            rw [hr] at hrun
            have h1 := run_z f _ _ _ hr
            have h2 := run_z f _ _ _ hrun
            have h3 := hzq.2 o1
            have h4 : z.1 ≤ c1.2.2.2.2.2.1 ∧ z.2 ≤ c1.2.2.2.2.2.2 := hzq.1
            dsimp only at h3
            refine step_call ih hC hH hL hS hdec hn hr ⟨by omega, by omega⟩ ?_
            intro H1 locs1 ls1 k1 n1 hH1 hL1 hS1 hk hn1
            exact ih y (kf o1) o hrun p e R s m args below meth c H1 locs1 k1 n1 Q ls1 hC hH1 hL1 hS1 ⟨by omega, by omega⟩ (fun pc' ls' H' locs' k2 n2 a1 a2 a3 a4 a5 => K pc' ls' H' locs' k2 n2 a1 a2 (by omega) (by omega) a5)
