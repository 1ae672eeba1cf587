/-! SOUNDNESS: what the abstract machine runs, the machine walks -/
def KF (b Lx : Nat) (xs : Nat → Int32) (Dg : va_G) (cy : Nat → ClassId) (U : State) : Prop :=
  va_K Dg vwCl [(cy 8, .int), (cy 9, .boolean), (cy 10, .object RX0), (cy 11, .object RX2), (cy 12, .object RX5)] U ∧ (va_AO RX0 U ∧ va_AO RX2 U ∧ va_AO RX5 U) ∧ (∀ q ∈ nestL, va_Nw (.methodLinkNest (RN q.1) q.2.1 q.2.2 "MendingMornings") U) ∧ va_X b Lx xs U U.heap
theorem KF.moved {b Lx : Nat} {xs : Nat → Int32} {Dg : va_G} {cy : Nat → ClassId} {u U : State} (h : KF b Lx xs Dg cy u) (hW : u.WarmedH U.vm) (hh : U.heap[b]? = u.heap[b]?) : KF b Lx xs Dg cy U :=
  ⟨h.1.moved hW.alike, ⟨h.2.1.1.moved hW.alike, h.2.1.2.1.moved hW.alike, h.2.1.2.2.moved hW.alike⟩, fun q hq => va_Nw.warmM hW (h.2.2.1 q hq), (h.2.2.2.moved hW.alike).kept hh⟩
theorem KF.blind {b Lx : Nat} {xs : Nat → Int32} {Dg : va_G} {cy : Nat → ClassId} {U : State} (h : KF b Lx xs Dg cy U) (g : JFrame) (mk : MethodId) (a : Array Value) : KF b Lx xs Dg cy (U.calling g mk a) :=
  ⟨va_K.moved (u := U) (U := U.calling g mk a) (Vm.Alike.refl U.vm) h.1, ⟨va_AO.moved (u := U) (U := U.calling g mk a) (Vm.Alike.refl U.vm) h.2.1.1, va_AO.moved (u := U) (U := U.calling g mk a) (Vm.Alike.refl U.vm) h.2.1.2.1, va_AO.moved (u := U) (U := U.calling g mk a) (Vm.Alike.refl U.vm) h.2.1.2.2⟩,
    fun q hq => va_Nw.same (u := U) (U := U.calling g mk a) rfl rfl (h.2.2.1 q hq), (va_X.moved (u := U) (U := U.calling g mk a) (Vm.Alike.refl U.vm) h.2.2.2).kept rfl⟩
def CX (b Lx : Nat) (xs : Nat → Int32) (Dg : va_G) (cy : Nat → ClassId) (B0 : Nat) (y : vMD) (p : Program) (R : Room) (s : State) (m : MethodId) (args : Array Value) (meth : Method) (c : Code) : Prop :=
  (p.tables.exec = Jvm.exec ∧ c.code = mbc y ∧ meth.sig.returnType = mrt y ∧ c.maxLocals = mnl y) ∧ (s.vm.findClass (RN (mow y)) = some m.cls ∧ (∀ w ∈ BG, w.before args s = true) ∧ meth.locks = false ∧ ((mym y).name = "<init>" → meth.name = "<init>")) ∧ KF b Lx xs Dg cy s ∧ (mht y ≤ R.frames ∧ 40 * mht y ≤ R.locals) ∧ b ≤ B0 ∧ B0 + 1 ≤ s.heap.size
abbrev AA (B0 : Nat) : Nat → Prop := fun q => B0 + 1 ≤ q
theorem BG_in {args : Array Value} {s : State} {C : String} {T : u_T} {N : Nat} (h : ∀ w ∈ BG, w.before args s = true) : ∀ w ∈ BG, w.before args s = true := h
section SND
variable {p : Program} {l : Launch} {e : Env} {R : Room} {s : State} {m : MethodId} {args : Array Value} {below : List Frame} {meth : Method} {c : Code} {H : Heap} {locs : List Loc} {cells slots : Nat} {Q : State → Prop}
variable {b Lx B0 pc : Nat} {xs : Nat → Int32} {Dg : va_G} {cy : Nat → ClassId} {y : vMD} {D : vDD} {mm : vMM} {z : vZZ} {ls : Array Slot} {L : List Value} {rest : List Value}
/-- getfield -/
theorem sd_get (C : CX b Lx xs Dg cy B0 y p R s m args meth c) (hH : HR b B0 Lx xs Dg cy D mm z H) {a ci j idx : Nat} (hk : (D a).1 = ci) (hf : fOK (mow y) (idx, ci, j)) (hdg : decode (mbc y) pc = .ok (.getfield idx, 3))
    (kk : W p l e R s m args below meth c H locs cells slots Q (F0 m (pc + 3) ls (vv b B0 (D a) (mm a) j :: rest))) : W p l e R s m args below meth c H locs cells slots Q (F0 m pc ls (.ref (ad b B0 a) :: rest)) := by
  obtain ⟨hci, hj, hw⟩ := hf
  dsimp only at hci hj hw
  have hin := hH.in (a := a) (by omega)
  rw [hin.2.2]
  rcases hH.2.2.2 a hin.1 hin.2.1 with ⟨-, hob⟩ | ⟨h8, -, -⟩
  · rw [hk] at hob
    obtain ⟨cell, q1, q2, q3, q4⟩ := hob
    obtain ⟨⟨hx, hb, -, -⟩, ⟨hown, hts, -, -⟩, hKF, -⟩ := C
    obtain ⟨hS, hfc, kC, hkC, hkind⟩ := hKF.1.1 ci _ (nk_cl ci hci)
    obtain ⟨cf, kf, fi, f, hi, hsl⟩ := hS j hj
    refine W.getf hx hb hown (hts _ hw) hi (u_facts hfc hkC (u_lays hts (nk_in ci hci) hj) hi).1 q1 (by rw [q3]; exact fun h => by cases h) (v := vv b B0 (D a) (mm a) j) ?_ rfl rfl hdg kk
    rw [hsl]
    exact q4 j hj
  · omega
theorem sd_ap (hts : ∀ w ∈ BG, w.before args s = true) (hK : KF b Lx xs Dg cy s) {ci : Nat} (hci : ci < 7) : ∀ x y, x < NN ci → y < NN ci → x ≠ y → (Dg.2 ci) x ≠ (Dg.2 ci) y :=
  va_apart (own := "") hts (nk_in ci hci) (tyN ci) (nk_ty ci hci) (nk_nm ci hci) hK.1 (nk_cl ci hci)
/-- putfield -/
theorem sd_put (C : CX b Lx xs Dg cy B0 y p R s m args meth c) (hH : HR b B0 Lx xs Dg cy D mm z H) (hS0 : va_S (AA B0) s.heap H locs) {a ci j idx : Nat} (hk : (D a).1 = ci) (hf : fOK (mow y) (idx, ci, j)) {v : Value} {D1 : vDD} {m1 : vMM}
    (hfin : (TN ci j).2.2.2 = false ∨ ((mym y).name = "<init>" ∧ (TN ci j).1 = RN (mow y))) (hn : narrow (tyN ci j) v = v) (hfit : fits (tyN ci j) v = true) (hDa : D1 a = D a ∨ ((D1 a).1 = (D a).1))
    (hD : ∀ q, q ≠ a → D1 q = D q) (hm : ∀ q, q ≠ a → m1 q = mm q) (hv : ∀ i, vv b B0 (D1 a) (m1 a) i = updV (vv b B0 (D a) (mm a)) j v i) (hdg : decode (mbc y) pc = .ok (.putfield idx, 3))
    (kk : ∀ (H1 : Heap) (locs1 : List Loc), HR b B0 Lx xs Dg cy D1 m1 z H1 → va_S (AA B0) s.heap H1 locs1 → W p l e R s m args below meth c H1 locs1 cells slots Q (F0 m (pc + 3) ls rest)) : W p l e R s m args below meth c H locs cells slots Q (F0 m pc ls (v :: .ref (ad b B0 a) :: rest)) := by
  obtain ⟨hci, hj, hw⟩ := hf
  dsimp only at hci hj hw
  have hin := hH.in (a := a) (by omega)
  rw [hin.2.2]
  have hk1 : (D1 a).1 = ci := by rcases hDa with q | q <;> rw [q] <;> exact hk
  rcases hH.2.2.2 a hin.1 hin.2.1 with ⟨-, hob⟩ | ⟨h8, -, -⟩
  · rw [hk] at hob
    obtain ⟨cell, q1, q2, q3, q4⟩ := hob
    obtain ⟨⟨hx, hb, -, -⟩, ⟨hown, hts, -, hini⟩, hKF, -⟩ := C
    have hap := sd_ap hts hKF hci
    obtain ⟨hS, hfc, kC, hkC, hkind⟩ := hKF.1.1 ci _ (nk_cl ci hci)
    obtain ⟨cf, kf, fi, f, hi, hsl⟩ := hS j hj
    have hlay := hts _ (nk_in ci hci _ (u_in_lay hj))
    have hst := (u_facts hfc hkC (u_lays hts (nk_in ci hci) hj) hi).1
    have hd := nk_ty ci hci j hj
    have go : ∀ H' : Heap, H'[B0 + a]? = some (cell.setSlot f.slot v) → H'.size = H.size → (∀ q, q ≠ B0 + a → H'[q]? = H[q]?) → W p l e R s m args below meth c H' (locs ++ [⟨B0 + a, f.slot⟩]) cells slots Q { F0 m pc ls (v :: .ref (B0 + a) :: rest) with pc := (F0 m pc ls (v :: .ref (B0 + a) :: rest)).pc + 3, stack := rest } := by
      intro H' e1 e2 e3
      rw [hsl] at e1 ⊢
      refine kk H' _ (hH.put hin.1 hin.2.1 e2 e3 hD hm (Or.inl ⟨by omega, ?_⟩)) (hS0.put e2 e3 (by show B0 + 1 ≤ B0 + a; omega))
      rw [hk1]
      exact t_OB.to (V := updV (vv b B0 (D a) (mm a)) j v) ⟨_, e1, q2, q3, t_set q4 hap hj v⟩ (fun i _ => (hv i).symm)
    by_cases hff : (TN ci j).2.2.2 = true
    · obtain ⟨hnm, hdecl⟩ := hfin.resolve_left (by rw [hff]; decide)
      unfold u_lay at hlay
      rw [if_pos hff] at hlay
      have hcf : m.cls = cf := by
        obtain ⟨_, _, c', _, _, _, -, -, hf', -, -, -, hown2, -⟩ := Cond.laysFinal_spec hlay
        have e1 : c' = cf := by have := hi.symm.trans hf'; simp at this; exact this.1.symm
        rw [hdecl] at hown2
        rw [← e1]; exact Option.some.inj (hown.symm.trans hown2)
      have h6 := u_fits hfc hkC hkind (Or.inr hlay) hi hd hn hfit
      exact W.putFinK hx hb hown (hts _ hw) hi hst hcf (hini hnm) (by rw [q2]; exact h6) q1 q3 (by rw [hsl]; exact k2_hasslot (q4 j hj)) rfl rfl hdg go
    · unfold u_lay at hlay
      rw [if_neg hff] at hlay
      have h6 := u_store hfc hkC hkind hlay hi hd hn hfit
      exact W.putK hx hb (f := f) ⟨hown, hts _ hw, ⟨_, _, _, hi⟩, hst⟩ (by rw [q2]; exact h6) q1 q3 (by rw [hsl]; exact k2_hasslot (q4 j hj)) rfl rfl hdg go
  · omega
theorem sd_arr (hH : HR b B0 Lx xs Dg cy D mm z H) {a : Nat} (h8 : 8 ≤ (D a).1) (h12 : (D a).1 ≤ 12) : 1 ≤ a ∧ a < z.1 ∧ ad b B0 a = B0 + a ∧ H[B0 + a]? = some (arrV (cy (D a).1) (D a).2.1 (vv b B0 (D a) (mm a))) := by
  have hin := hH.in (a := a) h12
  refine ⟨hin.1, hin.2.1, hin.2.2, ?_⟩
  rcases hH.2.2.2 a hin.1 hin.2.1 with ⟨h, -⟩ | ⟨-, -, h⟩
  · omega
  · exact h
theorem inB_spec {i : Int32} {n : Nat} (h : inB i n = true) : ¬ (i < 0 ∨ n ≤ i.toNatClampNeg) := by
  simp only [inB, Bool.not_eq_true', Bool.or_eq_false_iff, decide_eq_false_iff_not] at h
  intro q
  rcases q with q | q
  · exact h.1 q
  · exact h.2 q
theorem inB_arr {cA : ClassId} {f : Nat → Value} {i : Int32} {n : Nat} (h : inB i n = true) : ¬ (i < 0 ∨ (arrV cA n f).slots.size ≤ i.toNatClampNeg) := by
  rw [arrV_size]
  exact inB_spec h
theorem inB_lt {i : Int32} {n : Nat} (h : inB i n = true) : i.toNatClampNeg < n := Nat.not_le.mp fun q => inB_spec h (Or.inr q)
theorem vv_int {d : Nat × Nat × (Nat → Option Nat)} {g : Nat → Int32} {j : Nat} (h : rT d.1 j = false) : vv b B0 d g j = .int (g j) := by
  unfold vv
  rw [h]
  rfl
theorem vv_ref {d : Nat × Nat × (Nat → Option Nat)} {g : Nat → Int32} {j r : Nat} (h : rT d.1 j = true) (hr : d.2.2 j = some r) : vv b B0 d g j = .ref (ad b B0 r) := by
  unfold vv
  rw [h, hr]
  rfl
theorem rT_8 (j : Nat) : rT 8 j = false := rfl
theorem rT_9 (j : Nat) : rT 9 j = false := rfl
theorem rT_hi {k : Nat} (h : 10 ≤ k) (j : Nat) : rT k j = true := by
  unfold rT
  rw [if_neg (by omega), if_neg (by omega)]
theorem sd_iald (C : CX b Lx xs Dg cy B0 y p R s m args meth c) (hH : HR b B0 Lx xs Dg cy D mm z H) (hS0 : va_S (AA B0) s.heap H locs) {a : Nat} {i : Int32} (hk : (D a).1 = 8 ∨ (D a).1 = 20) (hi : inB i (D a).2.1 = true) (hdg : decode (mbc y) pc = .ok (.iaload, 1))
    (kk : W p l e R s m args below meth c H locs cells slots Q (F0 m (pc + 1) ls (.int (mm a i.toNatClampNeg) :: rest))) : W p l e R s m args below meth c H locs cells slots Q (F0 m pc ls (.int i :: .ref (ad b B0 a) :: rest)) := by
  obtain ⟨⟨hx, hb, -, -⟩, ⟨hown, hts, -, -⟩, hKF, -, hbB, hsB⟩ := C
  rcases hk with hk | hk
  · obtain ⟨-, -, e1, e2⟩ := sd_arr hH (a := a) (by omega) (by omega)
    rw [e1]
    refine W.iald (v := .int (mm a i.toNatClampNeg)) hx hb e2 (by rw [hk]; exact (hKF.1.2 0 _ rfl).1 _ _) (fun q => by cases q) (inB_arr hi) ?_ rfl rfl hdg kk
    rw [arrV_read _ _ (inB_lt hi), vv_int (by rw [hk]; exact rT_8 _)]
  · have ha : a = 0 := by
      rcases Nat.eq_zero_or_pos a with q | q
      · exact q
      · rcases Nat.lt_or_ge a z.1 with q2 | q2
        · rcases hH.2.2.2 a q q2 with ⟨h, -⟩ | ⟨-, h, -⟩ <;> omega
        · have := hH.2.2.1 a q2
          omega
    subst ha
    have e1 : ad b B0 0 = b := rfl
    rw [e1]
    obtain ⟨-, h2, h3⟩ := hH.2.1
    rw [h3] at kk
    exact va_sld hx hb hKF.2.2.2 (by omega) (by show ¬ B0 + 1 ≤ b; omega) hS0 (by rw [← h2]; exact inB_spec hi) hdg kk
theorem sd_alen (C : CX b Lx xs Dg cy B0 y p R s m args meth c) (hH : HR b B0 Lx xs Dg cy D mm z H) (hS0 : va_S (AA B0) s.heap H locs) {a : Nat} (hk : (D a).1 = 20) (hdg : decode (mbc y) pc = .ok (.arraylength, 1))
    (kk : W p l e R s m args below meth c H locs cells slots Q (F0 m (pc + 1) ls (.int (Int32.ofNat (D a).2.1) :: rest))) : W p l e R s m args below meth c H locs cells slots Q (F0 m pc ls (.ref (ad b B0 a) :: rest)) := by
  obtain ⟨⟨hx, hb, -, -⟩, ⟨hown, hts, -, -⟩, hKF, -, hbB, hsB⟩ := C
  have ha : a = 0 := by
    rcases Nat.eq_zero_or_pos a with q | q
    · exact q
    · rcases Nat.lt_or_ge a z.1 with q2 | q2
      · rcases hH.2.2.2 a q q2 with ⟨h, -⟩ | ⟨-, h, -⟩ <;> omega
      · have := hH.2.2.1 a q2
        omega
  subst ha
  have e1 : ad b B0 0 = b := rfl
  rw [e1]
  obtain ⟨-, h2, h3⟩ := hH.2.1
  rw [h2] at kk
  exact va_slen hx hb hKF.2.2.2 (by omega) (by show ¬ B0 + 1 ≤ b; omega) hS0 hdg kk
theorem sd_bald (C : CX b Lx xs Dg cy B0 y p R s m args meth c) (hH : HR b B0 Lx xs Dg cy D mm z H) {a : Nat} {i : Int32} (hk : (D a).1 = 9) (hi : inB i (D a).2.1 = true) (hdg : decode (mbc y) pc = .ok (.baload, 1))
    (kk : W p l e R s m args below meth c H locs cells slots Q (F0 m (pc + 1) ls (.int (mm a i.toNatClampNeg) :: rest))) : W p l e R s m args below meth c H locs cells slots Q (F0 m pc ls (.int i :: .ref (ad b B0 a) :: rest)) := by
  obtain ⟨⟨hx, hb, -, -⟩, ⟨hown, hts, -, -⟩, hKF, -⟩ := C
  obtain ⟨-, -, e1, e2⟩ := sd_arr hH (a := a) (by omega) (by omega)
  rw [e1]
  refine W.zald (v := .int (mm a i.toNatClampNeg)) hx hb e2 (by rw [hk]; exact (hKF.1.2 1 _ rfl).1 _ _) (fun q => by cases q) (inB_arr hi) ?_ rfl rfl hdg kk
  rw [arrV_read _ _ (inB_lt hi), vv_int (by rw [hk]; exact rT_9 _)]
theorem KF.ref (h : KF b Lx xs Dg cy s) {k : Nat} (h10 : 10 ≤ k) (h12 : k ≤ 12) : elK k < 7 ∧ ArrOfT s (cy k) (.object (RN (elK k))) ∧ va_RA s (cy k) (.object (RN (elK k))) := by
  rcases (by omega : k = 10 ∨ k = 11 ∨ k = 12) with rfl | rfl | rfl
  · exact ⟨by decide, h.1.2 2 _ rfl⟩
  · exact ⟨by decide, h.1.2 3 _ rfl⟩
  · exact ⟨by decide, h.1.2 4 _ rfl⟩
theorem sd_aald (C : CX b Lx xs Dg cy B0 y p R s m args meth c) (hH : HR b B0 Lx xs Dg cy D mm z H) {a r : Nat} {i : Int32} (h10 : 10 ≤ (D a).1) (h12 : (D a).1 ≤ 12) (hi : inB i (D a).2.1 = true) (hr : (D a).2.2 i.toNatClampNeg = some r) (hdg : decode (mbc y) pc = .ok (.aaload, 1))
    (kk : W p l e R s m args below meth c H locs cells slots Q (F0 m (pc + 1) ls (.ref (ad b B0 r) :: rest))) : W p l e R s m args below meth c H locs cells slots Q (F0 m pc ls (.int i :: .ref (ad b B0 a) :: rest)) := by
  obtain ⟨⟨hx, hb, -, -⟩, ⟨hown, hts, -, -⟩, hKF, -⟩ := C
  obtain ⟨-, -, e1, e2⟩ := sd_arr hH (a := a) (by omega) h12
  rw [e1]
  refine W.aald (v := .ref (ad b B0 r)) hx hb e2 ((hKF.ref h10 h12).2.1 _ _) rfl (fun q => by cases q) (inB_arr hi) ?_ rfl rfl hdg kk
  rw [arrV_read _ _ (inB_lt hi), vv_ref (rT_hi h10 _) hr]
theorem up2_ne {q a k : Nat} {x : Int32} (h : q ≠ a) : up2 mm a k x q = mm q := by unfold up2; rw [if_neg h]
theorem up2_eq {a k : Nat} {x : Int32} : up2 mm a k x a = upd (mm a) k x := by unfold up2; rw [if_pos rfl]
theorem upR_ne {q a k : Nat} {r : Option Nat} (h : q ≠ a) : upR D a k r q = D q := by unfold upR; rw [if_neg h]
theorem upR_eq {a k : Nat} {r : Option Nat} : upR D a k r a = ((D a).1, (D a).2.1, fun j => if j = k then r else (D a).2.2 j) := by unfold upR; rw [if_pos rfl]
theorem vv_upd {d : Nat × Nat × (Nat → Option Nat)} {g : Nat → Int32} {k : Nat} {x : Int32} (h : rT d.1 k = false) (i : Nat) : vv b B0 d (upd g k x) i = updV (vv b B0 d g) k (.int x) i := by
  unfold updV
  by_cases hi : i = k
  · subst hi
    rw [if_pos rfl, vv_int h]
    simp [upd]
  · rw [if_neg hi]
    unfold vv
    simp [upd, hi]
theorem vv_upR {g : Nat → Int32} {a k r : Nat} (h : rT (D a).1 k = true) (i : Nat) : vv b B0 (upR D a k (some r) a) g i = updV (vv b B0 (D a) g) k (.ref (ad b B0 r)) i := by
  rw [upR_eq]
  unfold updV
  by_cases hi : i = k
  · subst hi
    rw [if_pos rfl]
    exact vv_ref h (if_pos rfl)
  · rw [if_neg hi]
    unfold vv
    simp [hi]
theorem sd_iast (C : CX b Lx xs Dg cy B0 y p R s m args meth c) (hH : HR b B0 Lx xs Dg cy D mm z H) (hS0 : va_S (AA B0) s.heap H locs) {a : Nat} {i x : Int32} (hk : (D a).1 = 8) (hi : inB i (D a).2.1 = true) (hdg : decode (mbc y) pc = .ok (.iastore, 1))
    (kk : ∀ (H1 : Heap) (locs1 : List Loc), HR b B0 Lx xs Dg cy D (up2 mm a i.toNatClampNeg x) z H1 → va_S (AA B0) s.heap H1 locs1 → W p l e R s m args below meth c H1 locs1 cells slots Q (F0 m (pc + 1) ls rest)) : W p l e R s m args below meth c H locs cells slots Q (F0 m pc ls (.int x :: .int i :: .ref (ad b B0 a) :: rest)) := by
  obtain ⟨⟨hx, hb, -, -⟩, ⟨hown, hts, -, -⟩, hKF, -⟩ := C
  obtain ⟨g1, g2, e1, e2⟩ := sd_arr hH (a := a) (by omega) (by omega)
  rw [e1]
  refine W.iast hx hb e2 (by rw [hk]; exact (hKF.1.2 0 _ rfl).1 _ _) (fun q => by cases q) (inB_arr hi) rfl rfl hdg fun H1 f1 f2 f3 => ?_
  refine kk H1 _ (hH.put g1 g2 f2 f3 (fun _ _ => rfl) (fun q hq => up2_ne hq) (Or.inr ⟨by omega, by omega, ?_⟩)) (hS0.put f2 f3 (by show B0 + 1 ≤ B0 + a; omega))
  rw [f1, arrV_store, up2_eq]
  congr 2
  funext q
  exact (vv_upd (by rw [hk]; exact rT_8 _) q).symm
theorem sd_bast (C : CX b Lx xs Dg cy B0 y p R s m args meth c) (hH : HR b B0 Lx xs Dg cy D mm z H) (hS0 : va_S (AA B0) s.heap H locs) {a : Nat} {i x : Int32} (hk : (D a).1 = 9) (hi : inB i (D a).2.1 = true) (hfx : fits .boolean (.int x) = true) (hdg : decode (mbc y) pc = .ok (.bastore, 1))
    (kk : ∀ (H1 : Heap) (locs1 : List Loc), HR b B0 Lx xs Dg cy D (up2 mm a i.toNatClampNeg x) z H1 → va_S (AA B0) s.heap H1 locs1 → W p l e R s m args below meth c H1 locs1 cells slots Q (F0 m (pc + 1) ls rest)) : W p l e R s m args below meth c H locs cells slots Q (F0 m pc ls (.int x :: .int i :: .ref (ad b B0 a) :: rest)) := by
  obtain ⟨⟨hx, hb, -, -⟩, ⟨hown, hts, -, -⟩, hKF, -⟩ := C
  obtain ⟨g1, g2, e1, e2⟩ := sd_arr hH (a := a) (by omega) (by omega)
  rw [e1]
  have hn : narrow .boolean (.int x) = .int x := by
    simp only [fits, Bool.or_eq_true, beq_iff_eq] at hfx
    rcases hfx with rfl | rfl <;> rfl
  refine W.zast hx hb e2 (by rw [hk]; exact (hKF.1.2 1 _ rfl).1 _ _) (fun q => by cases q) (inB_arr hi) rfl rfl hdg fun H1 f1 f2 f3 => ?_
  refine kk H1 _ (hH.put g1 g2 f2 f3 (fun _ _ => rfl) (fun q hq => up2_ne hq) (Or.inr ⟨by omega, by omega, ?_⟩)) (hS0.put f2 f3 (by show B0 + 1 ≤ B0 + a; omega))
  rw [f1, hn, arrV_store, up2_eq]
  congr 2
  funext q
  exact (vv_upd (by rw [hk]; exact rT_9 _) q).symm
theorem sd_aast (C : CX b Lx xs Dg cy B0 y p R s m args meth c) (hH : HR b B0 Lx xs Dg cy D mm z H) (hS0 : va_S (AA B0) s.heap H locs) {a r : Nat} {i : Int32} (h10 : 10 ≤ (D a).1) (h12 : (D a).1 ≤ 12) (hi : inB i (D a).2.1 = true) (hr : (D r).1 = elK (D a).1) (hdg : decode (mbc y) pc = .ok (.aastore, 1))
    (kk : ∀ (H1 : Heap) (locs1 : List Loc), HR b B0 Lx xs Dg cy (upR D a i.toNatClampNeg (some r)) mm z H1 → va_S (AA B0) s.heap H1 locs1 → W p l e R s m args below meth c H1 locs1 cells slots Q (F0 m (pc + 1) ls rest)) : W p l e R s m args below meth c H locs cells slots Q (F0 m pc ls (.ref (ad b B0 r) :: .int i :: .ref (ad b B0 a) :: rest)) := by
  obtain ⟨⟨hx, hb, -, -⟩, ⟨hown, hts, -, -⟩, hKF, -⟩ := C
  obtain ⟨g1, g2, e1, e2⟩ := sd_arr hH (a := a) (by omega) h12
  obtain ⟨hel, hA1, hA2⟩ := hKF.ref h10 h12
  have hr8 : (D r).1 < 7 := by rw [hr]; exact hel
  have hin := hH.in (a := r) (by omega)
  rw [e1, hin.2.2]
  rcases hH.2.2.2 r hin.1 hin.2.1 with ⟨-, hob⟩ | ⟨h8, -, -⟩
  · obtain ⟨cellV, q1, q2, q3, -⟩ := hob
    rw [hr] at q2
    have hcls := (hKF.1.1 (elK (D a).1) _ (nk_cl _ hel)).2
    obtain ⟨kA, comp, k1, k2, k3, -⟩ := hA2
    have hcomp : comp = Dg.1 (elK (D a).1) := Option.some.inj (k3.symm.trans hcls.1)
    subst hcomp
    obtain ⟨kC, hkC, -⟩ := hcls.2
    refine W.aast hx hb e2 (fun q h => by cases h) (fun h => by cases h) k1 k2 rfl hkC ⟨fun q => inB_spec hi (Or.inl q), by rw [arrV_size]; exact inB_lt hi⟩ q1 (fun q h => by rw [q3] at h; cases h) (by rw [q2]; exact hkC) (by rw [q2]; exact va_assign hcls) rfl rfl hdg fun H1 f1 f2 f3 => ?_
    refine kk H1 _ (hH.put g1 g2 f2 f3 (fun q hq => upR_ne hq) (fun _ _ => rfl) (Or.inr ⟨by rw [upR_eq]; show 8 ≤ (D a).1; omega, by rw [upR_eq]; exact h12, ?_⟩)) (hS0.put f2 f3 (by show B0 + 1 ≤ B0 + a; omega))
    rw [f1, arrV_store]
    have e3 : upR D a i.toNatClampNeg (some r) a = ((D a).1, (D a).2.1, fun j => if j = i.toNatClampNeg then some r else (D a).2.2 j) := upR_eq
    have e4 : (updV (vv b B0 (D a) (mm a)) i.toNatClampNeg (.ref (ad b B0 r))) = vv b B0 (upR D a i.toNatClampNeg (some r) a) (mm a) := by
      funext q
      exact (vv_upR (rT_hi h10 _) q).symm
    rw [hin.2.2] at e4
    rw [e4, e3]
  · omega
theorem sd_new (C : CX b Lx xs Dg cy B0 y p R s m args meth c) (hH : HR b B0 Lx xs Dg cy D mm z H) (hS0 : va_S (AA B0) s.heap H locs) {idx k : Nat} (hk : kOK (mow y) (idx, k)) (hcells : cells + 1 ≤ R.cells) (hslots : slots + NN k ≤ R.slots) (hdg : decode (mbc y) pc = .ok (.new idx, 3))
    (kk : ∀ (H1 : Heap), HR b B0 Lx xs Dg cy (nwD D z.1 (k, 0, fun _ => none)) (nwM mm z.1) (z.1 + 1, z.2 + NN k) H1 → va_S (AA B0) s.heap H1 locs → W p l e R s m args below meth c H1 locs (cells + 1) (slots + NN k) Q (F0 m (pc + 3) ls (.ref (ad b B0 z.1) :: rest))) : W p l e R s m args below meth c H locs cells slots Q (F0 m pc ls rest) := by
  obtain ⟨⟨hx, hb, -, -⟩, ⟨hown, hts, -, -⟩, hKF, -⟩ := C
  obtain ⟨hk8, hw⟩ := hk
  dsimp only at hk8 hw
  have hKn := hKF.1.1 k _ (nk_cl k hk8)
  obtain ⟨⟨q1, q2, q3⟩, -⟩ := id hH
  refine W.newcK hx hb hown (hts _ hw) (hts _ (nk_mk k hk8).1) (hts _ (nk_mk k hk8).2) rfl hdg hcells hslots hKn.2.1 rfl fun H1 kC hkC e1 z1 o1 => ?_
  have hadz : ad b B0 z.1 = H.size := by rw [ad_pos q1, q2]
  rw [hadz] at kk
  refine kk H1 (hH.new z1 o1 (Or.inl ⟨hk8, ?_⟩) _) ⟨Nat.le_trans hS0.1 (by omega), fun x h1 h2 => (o1 x (Nat.lt_of_lt_of_le h1 hS0.1)).trans (hS0.2.1 x h1 h2), hS0.2.2⟩
  rw [← q2]
  refine (u_born (tyN k) hts (nk_in k hk8) hKn hkC e1 (nk_ty k hk8)).to (fun j hj => ?_)
  unfold vv
  show defaultValue (tyN k j) = if rT k j = true then va_rf (Option.map (ad b B0) none) else .int 0
  unfold rT
  rw [if_pos (Nat.lt_succ_of_lt hk8)]
  revert hj
  rcases (by omega : k = 0 ∨ k = 1 ∨ k = 2 ∨ k = 3 ∨ k = 4 ∨ k = 5 ∨ k = 6) with rfl | rfl | rfl | rfl | rfl | rfl | rfl <;> intro hj <;> simp only [NN] at hj
  · rcases (by omega : j = 0 ∨ j = 1 ∨ j = 2 ∨ j = 3 ∨ j = 4 ∨ j = 5) with rfl | rfl | rfl | rfl | rfl | rfl <;> rfl
  · rcases (by omega : j = 0 ∨ j = 1) with rfl | rfl <;> rfl
  · rcases (by omega : j = 0 ∨ j = 1 ∨ j = 2 ∨ j = 3 ∨ j = 4 ∨ j = 5 ∨ j = 6 ∨ j = 7 ∨ j = 8) with rfl | rfl | rfl | rfl | rfl | rfl | rfl | rfl | rfl <;> rfl
  · rcases (by omega : j = 0 ∨ j = 1 ∨ j = 2 ∨ j = 3 ∨ j = 4) with rfl | rfl | rfl | rfl | rfl <;> rfl
  · rcases (by omega : j = 0 ∨ j = 1 ∨ j = 2 ∨ j = 3) with rfl | rfl | rfl | rfl <;> rfl
  · rcases (by omega : j = 0 ∨ j = 1 ∨ j = 2 ∨ j = 3 ∨ j = 4 ∨ j = 5 ∨ j = 6 ∨ j = 7 ∨ j = 8) with rfl | rfl | rfl | rfl | rfl | rfl | rfl | rfl | rfl <;> rfl
  · rcases (by omega : j = 0 ∨ j = 1 ∨ j = 2 ∨ j = 3 ∨ j = 4 ∨ j = 5 ∨ j = 6) with rfl | rfl | rfl | rfl | rfl | rfl | rfl <;> rfl
theorem sd_newa (C : CX b Lx xs Dg cy B0 y p R s m args meth c) (hH : HR b B0 Lx xs Dg cy D mm z H) (hS0 : va_S (AA B0) s.heap H locs) {t : ArrayType} {k : Nat} (ht : (t = .int ∧ k = 8) ∨ (t = .boolean ∧ k = 9)) {n : Int32} (hn : ¬ n < 0) (hb4 : n.toNatClampNeg ≤ 4096) (hcells : cells + 1 ≤ R.cells) (hslots : slots + n.toNatClampNeg ≤ R.slots) (hdg : decode (mbc y) pc = .ok (.newarray t, 2))
    (kk : ∀ (H1 : Heap), HR b B0 Lx xs Dg cy (nwD D z.1 (k, n.toNatClampNeg, fun _ => none)) (nwM mm z.1) (z.1 + 1, z.2 + n.toNatClampNeg) H1 → va_S (AA B0) s.heap H1 locs → W p l e R s m args below meth c H1 locs (cells + 1) (slots + n.toNatClampNeg) Q (F0 m (pc + 2) ls (.ref (ad b B0 z.1) :: rest))) : W p l e R s m args below meth c H locs cells slots Q (F0 m pc ls (.int n :: rest)) := by
  obtain ⟨⟨hx, hb, -, -⟩, ⟨hown, hts, -, -⟩, hKF, -⟩ := C
  obtain ⟨⟨q1, q2, q3⟩, -⟩ := id hH
  have hadz : ad b B0 z.1 = H.size := by rw [ad_pos q1, q2]
  rw [hadz] at kk
  have go : ∀ (H' : Heap) (cA : ClassId), cA = cy k → (8 ≤ k ∧ k ≤ 9) → H'[H.size]? = some (arrV cA n.toNatClampNeg (fun _ => .int 0)) → H'.size = H.size + 1 → (∀ q, q < H.size → H'[q]? = H[q]?) → W p l e R s m args below meth c H' locs (cells + 1) (slots + n.toNatClampNeg) Q (F0 m (pc + 2) ls (.ref H.size :: rest)) := by
    intro H' cA hcA hk e1 z1 o1
    refine kk H' (hH.new z1 o1 (Or.inr ⟨by show 8 ≤ k; omega, by show k ≤ 12; omega, ?_⟩) _) ⟨Nat.le_trans hS0.1 (by omega), fun x h1 h2 => (o1 x (Nat.lt_of_lt_of_le h1 hS0.1)).trans (hS0.2.1 x h1 h2), hS0.2.2⟩
    rw [← q2, e1, hcA]
    congr 2
    funext j
    rcases (by omega : k = 8 ∨ k = 9) with rfl | rfl <;> rfl
  rcases ht with ⟨rfl, rfl⟩ | ⟨rfl, rfl⟩
  · refine va_newaK (atype := .int) hx hb (hts _ nk_ar.1) rfl hdg rfl hn rfl (by show _ * 4 ≤ _; omega) hcells hslots rfl fun H' cA e1 z1 o1 hAr hNm => ?_
    refine go H' cA (Option.some.inj (hNm.symm.trans (hKF.1.2 0 _ rfl).2)) ⟨by omega, by omega⟩ e1 z1 o1
  · refine va_newaK (atype := .boolean) hx hb (hts _ nk_ar.2) rfl hdg rfl hn rfl (by show _ * 1 ≤ _; omega) hcells hslots rfl fun H' cA e1 z1 o1 hAr hNm => ?_
    refine go H' cA (Option.some.inj (hNm.symm.trans (hKF.1.2 1 _ rfl).2)) ⟨by omega, by omega⟩ e1 z1 o1
theorem sd_anew (C : CX b Lx xs Dg cy B0 y p R s m args meth c) (hH : HR b B0 Lx xs Dg cy D mm z H) (hS0 : va_S (AA B0) s.heap H locs) {idx k : Nat} (hk : kOK (mow y) (idx, k)) (hk3 : k = 0 ∨ k = 2 ∨ k = 5) {n : Int32} (hn : ¬ n < 0) (hb4 : n.toNatClampNeg ≤ 4096) (hcells : cells + 1 ≤ R.cells) (hslots : slots + n.toNatClampNeg ≤ R.slots) (hdg : decode (mbc y) pc = .ok (.anewarray idx, 3))
    (kk : ∀ (H1 : Heap), HR b B0 Lx xs Dg cy (nwD D z.1 (arK k, n.toNatClampNeg, fun _ => none)) (nwM mm z.1) (z.1 + 1, z.2 + n.toNatClampNeg) H1 → va_S (AA B0) s.heap H1 locs → W p l e R s m args below meth c H1 locs (cells + 1) (slots + n.toNatClampNeg) Q (F0 m (pc + 3) ls (.ref (ad b B0 z.1) :: rest))) : W p l e R s m args below meth c H locs cells slots Q (F0 m pc ls (.int n :: rest)) := by
  obtain ⟨⟨hx, hb, -, -⟩, ⟨hown, hts, -, -⟩, hKF, -⟩ := C
  obtain ⟨hk8, hw⟩ := hk
  dsimp only at hk8 hw
  obtain ⟨⟨q1, q2, q3⟩, -⟩ := id hH
  have hadz : ad b B0 z.1 = H.size := by rw [ad_pos q1, q2]
  rw [hadz] at kk
  have hao : va_AO (RN k) s := by
    rcases hk3 with rfl | rfl | rfl
    · exact hKF.2.1.1
    · exact hKF.2.1.2.1
    · exact hKF.2.1.2.2
  have har : 10 ≤ arK k ∧ arK k ≤ 12 ∧ elK (arK k) = k := by rcases hk3 with rfl | rfl | rfl <;> decide
  refine W.anew hx hb hown (hts _ hw) (va_AO.use hao) rfl hdg rfl hn (by omega) hcells hslots fun cA kA comp f1 f2 f3 f4 => ?_
  have hcA : cA = cy (arK k) := by
    have h1 := (hKF.ref har.1 har.2.1).2.2
    rw [har.2.2] at h1
    obtain ⟨_, _, -, -, -, h2⟩ := h1
    exact Option.some.inj (f1.symm.trans h2)
  generalize hH1 : H.push ({ cls := cA, slots := Array.replicate n.toNatClampNeg .null, vm := .none } : Cell) = H1
  have z1 : H1.size = H.size + 1 := by rw [← hH1, Array.size_push]
  have e1 : H1[H.size]? = some (arrV cA n.toNatClampNeg (fun _ => .null)) := by rw [← hH1, Array.getElem?_push_size, ← arrV_new]
  have o1 : ∀ q : Nat, q < H.size → H1[q]? = H[q]? := fun q hq => by rw [← hH1, Array.getElem?_push, if_neg (Nat.ne_of_lt hq)]
  refine kk H1 (hH.new z1 o1 (Or.inr ⟨by show 8 ≤ arK k; omega, har.2.1, ?_⟩) _) ⟨Nat.le_trans hS0.1 (by omega), fun x h1 h2 => (o1 x (Nat.lt_of_lt_of_le h1 hS0.1)).trans (hS0.2.1 x h1 h2), hS0.2.2⟩
  rw [← q2, e1, hcA]
  congr 2
  funext j
  show Value.null = if rT (arK k) j = true then va_rf (Option.map (ad b B0) none) else .int 0
  rw [rT_hi har.1]
  rfl
end SND
