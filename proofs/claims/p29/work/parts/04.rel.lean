/-! the abstract machine's heap and locals, and the machine's -/
def ad (b B0 a : Nat) : Nat := if a = 0 then b else B0 + a
theorem ad_pos {b B0 a : Nat} (h : 1 ≤ a) : ad b B0 a = B0 + a := by
  unfold ad
  rw [if_neg (by omega)]
def rvV (b B0 : Nat) : Value → Value := fun v => match v with
  | .ref a => .ref (ad b B0 a)
  | v => v
theorem rvV_cat {b B0 : Nat} (v : Value) : (rvV b B0 v).category = v.category := by cases v <;> rfl
def vv (b B0 : Nat) (d : Nat × Nat × (Nat → Option Nat)) (g : Nat → Int32) (j : Nat) : Value := if rT d.1 j then va_rf ((d.2.2 j).map (ad b B0)) else .int (g j)
def CR (b B0 : Nat) (Dg : va_G) (cy : Nat → ClassId) (d : Nat × Nat × (Nat → Option Nat)) (g : Nat → Int32) (q : Nat) (H : Heap) : Prop :=
  (d.1 < 7 ∧ t_OB q (Dg.1 d.1) (NN d.1) (Dg.2 d.1) H (vv b B0 d g)) ∨ (8 ≤ d.1 ∧ d.1 ≤ 12 ∧ H[q]? = some (arrV (cy d.1) d.2.1 (vv b B0 d g)))
theorem CR.kept {b B0 : Nat} {Dg : va_G} {cy : Nat → ClassId} {d : Nat × Nat × (Nat → Option Nat)} {g : Nat → Int32} {q : Nat} {H H1 : Heap} (h : CR b B0 Dg cy d g q H) (hq : H1[q]? = H[q]?) : CR b B0 Dg cy d g q H1 := by
  rcases h with ⟨h1, h2⟩ | ⟨h1, h2, h3⟩
  · exact Or.inl ⟨h1, h2.kept hq⟩
  · exact Or.inr ⟨h1, h2, hq.trans h3⟩
/-- the heap: the script at b, below the law's own cells, which lie at B0 + 1 and on -/
def HR (b B0 Lx : Nat) (xs : Nat → Int32) (Dg : va_G) (cy : Nat → ClassId) (D : vDD) (mm : vMM) (z : vZZ) (H : Heap) : Prop :=
  (1 ≤ z.1 ∧ H.size = B0 + z.1 ∧ b ≤ B0) ∧ ((D 0).1 = 20 ∧ (D 0).2.1 = Lx ∧ mm 0 = xs) ∧ (∀ a, z.1 ≤ a → (D a).1 = 99) ∧ ∀ a, 1 ≤ a → a < z.1 → CR b B0 Dg cy (D a) (mm a) (B0 + a) H
section HRs
variable {b B0 Lx : Nat} {xs : Nat → Int32} {Dg : va_G} {cy : Nat → ClassId} {D D1 : vDD} {mm m1 : vMM} {z : vZZ} {H H1 : Heap}
theorem HR.in (h : HR b B0 Lx xs Dg cy D mm z H) {a : Nat} (ha : (D a).1 ≤ 12) : 1 ≤ a ∧ a < z.1 ∧ ad b B0 a = B0 + a := by
  obtain ⟨-, ⟨h0, -, -⟩, h9, -⟩ := h
  have h1 : 1 ≤ a := by
    rcases Nat.eq_zero_or_pos a with q | q
    · subst q
      omega
    · exact q
  refine ⟨h1, ?_, ad_pos h1⟩
  rcases Nat.lt_or_ge a z.1 with q | q
  · exact q
  · have := h9 a q
    omega
theorem HR.put (h : HR b B0 Lx xs Dg cy D mm z H) {a : Nat} (ha1 : 1 ≤ a) (ha2 : a < z.1) (hz : H1.size = H.size) (oq : ∀ q, q ≠ B0 + a → H1[q]? = H[q]?) (hD : ∀ q, q ≠ a → D1 q = D q) (hm : ∀ q, q ≠ a → m1 q = mm q) (hc : CR b B0 Dg cy (D1 a) (m1 a) (B0 + a) H1) : HR b B0 Lx xs Dg cy D1 m1 z H1 := by
  obtain ⟨⟨q1, q2, q3⟩, ⟨q4, q5, q6⟩, q7, q8⟩ := h
  refine ⟨⟨q1, by rw [hz]; exact q2, q3⟩, ?_, fun c hc => ?_, fun c h1 h2 => ?_⟩
  · rw [hD 0 (by omega), hm 0 (by omega)]
    exact ⟨q4, q5, q6⟩
  · rw [hD c (by omega)]
    exact q7 c hc
  · by_cases hca : c = a
    · subst hca
      exact hc
    · rw [hD c hca, hm c hca]
      exact (q8 c h1 h2).kept (oq _ (by omega))
theorem HR.new (h : HR b B0 Lx xs Dg cy D mm z H) {d : Nat × Nat × (Nat → Option Nat)} (hz : H1.size = H.size + 1) (oq : ∀ q, q < H.size → H1[q]? = H[q]?) (hc : CR b B0 Dg cy d (fun _ => 0) (B0 + z.1) H1) (k : Nat) : HR b B0 Lx xs Dg cy (nwD D z.1 d) (nwM mm z.1) (z.1 + 1, k) H1 := by
  obtain ⟨⟨q1, q2, q3⟩, ⟨q4, q5, q6⟩, q7, q8⟩ := h
  have e0 : nwD D z.1 d 0 = D 0 := by unfold nwD; rw [if_neg (by omega)]
  have m0 : nwM mm z.1 0 = mm 0 := by unfold nwM; rw [if_neg (by omega)]
  refine ⟨⟨by show 1 ≤ z.1 + 1; omega, by rw [hz, q2]; rfl, q3⟩, ?_, fun c hc => ?_, fun c h1 h2 => ?_⟩
  · rw [e0, m0]
    exact ⟨q4, q5, q6⟩
  · have hc2 : z.1 + 1 ≤ c := hc
    have : nwD D z.1 d c = D c := by unfold nwD; rw [if_neg (by omega)]
    rw [this]
    exact q7 c (by omega)
  · have h3 : c < z.1 + 1 := h2
    by_cases hcz : c = z.1
    · subst hcz
      have a1 : nwD D z.1 d z.1 = d := by unfold nwD; rw [if_pos rfl]
      have a2 : nwM mm z.1 z.1 = fun _ => 0 := by unfold nwM; rw [if_pos rfl]
      rw [a1, a2]
      exact hc
    · have a1 : nwD D z.1 d c = D c := by unfold nwD; rw [if_neg hcz]
      have a2 : nwM mm z.1 c = mm c := by unfold nwM; rw [if_neg hcz]
      rw [a1, a2]
      exact (q8 c h1 (by omega)).kept (oq _ (by omega))
end HRs
/-- the locals -/
def LR (b B0 : Nat) (y : vMD) (L : List Value) (ls : Array Slot) : Prop :=
  L.length = mnl y ∧ ls.size = mnl y ∧ lv_wf ls ∧ (∀ (k : Nat) (v : Value), L[k]? = some v → v ≠ vJ → ls[k]? = some (.val (rvV b B0 v))) ∧ ∀ (k : Nat) (v : Value), L[k]? = some v → v.category = 2 → k ∈ mll y
def al (b B0 : Nat) (L : List Value) : List (Nat × Value) := (List.range L.length).filterMap (fun k => match L[k]? with
  | some v => if v = vJ then none else some (k, rvV b B0 v)
  | none => none)
theorem al_of {b B0 : Nat} {L : List Value} {k : Nat} {v : Value} (h : L[k]? = some v) (hv : v ≠ vJ) : (k, rvV b B0 v) ∈ al b B0 L := by
  refine List.mem_filterMap.mpr ⟨k, List.mem_range.mpr (List.getElem?_eq_some_iff.mp h).1, ?_⟩
  rw [h]
  simp [hv]
theorem al_to {b B0 : Nat} {L : List Value} {q : Nat × Value} (h : q ∈ al b B0 L) : ∃ v, L[q.1]? = some v ∧ v ≠ vJ ∧ q.2 = rvV b B0 v := by
  obtain ⟨k, -, hk⟩ := List.mem_filterMap.mp h
  cases hL : L[k]? with
  | none => rw [hL] at hk; cases hk
  | some v =>
    rw [hL] at hk
    by_cases hv : v = vJ
    · simp [hv] at hk
    · simp only [if_neg hv] at hk
      cases hk
      exact ⟨v, hL, hv, rfl⟩
theorem LR.has {b B0 : Nat} {y : vMD} {L : List Value} {ls : Array Slot} (h : LR b B0 y L ls) : lv_has ls (mnl y) (al b B0 L) := by
  refine ⟨h.2.1, h.2.2.1, fun q hq => ?_⟩
  obtain ⟨v, h1, h2, h3⟩ := al_to hq
  rw [h3]
  exact h.2.2.2.1 _ _ h1 h2
theorem LR.set1 {b B0 : Nat} {y : vMD} {L : List Value} {ls ls' : Array Slot} {i : Nat} {v : Value} (h : LR b B0 y L ls) (ho : okS y L i = true) (hc : v.category = 1)
    (hh : lv_has ls' (mnl y) ((i, rvV b B0 v) :: (al b B0 L).filter (fun q => !(q.1 == i) && !(q.1 + 1 == i && q.2.category == 2)))) : LR b B0 y (L.set i v) ls' := by
  obtain ⟨a1, a2, a3, a4, a5⟩ := h
  obtain ⟨b1, b2, b3⟩ := hh
  simp only [okS, Bool.and_eq_true, decide_eq_true_eq, Bool.or_eq_true, beq_iff_eq, Bool.not_eq_true'] at ho
  have hlen : i < L.length := ho.1
  have hb : ∀ k, k + 1 = i → ¬ k ∈ mll y := by
    intro k hk hm
    rcases ho.2 with h0 | h0
    · omega
    · rw [show i - 1 = k by omega] at h0
      rw [List.contains_eq_mem] at h0
      simp [hm] at h0
  refine ⟨by rw [List.length_set]; exact a1, b1, b2, fun k w hk hw => ?_, fun k w hk hw => ?_⟩
  · by_cases hki : k = i
    · subst hki
      rw [List.getElem?_set_self hlen] at hk
      cases hk
      exact b3 _ List.mem_cons_self
    · rw [List.getElem?_set_ne (Ne.symm hki)] at hk
      refine b3 (k, rvV b B0 w) (List.mem_cons_of_mem _ (List.mem_filter.mpr ⟨al_of hk hw, ?_⟩))
      have h1 : (k == i) = false := by simp [hki]
      have h2 : (k + 1 == i && (rvV b B0 w).category == 2) = false := by
        rw [rvV_cat]
        by_cases hk2 : k + 1 = i
        · have : ¬ w.category = 2 := fun q => hb k hk2 (a5 k w hk q)
          simp [this]
        · simp [hk2]
      simp only [h1, h2]
      rfl
  · by_cases hki : k = i
    · subst hki
      rw [List.getElem?_set_self hlen] at hk
      cases hk
      omega
    · rw [List.getElem?_set_ne (Ne.symm hki)] at hk
      exact a5 k w hk hw
theorem LR.set2 {b B0 : Nat} {y : vMD} {L : List Value} {ls ls' : Array Slot} {i : Nat} {v : Value} (h : LR b B0 y L ls) (ho : okS2 y L i = true)
    (hh : lv_has ls' (mnl y) ((i, rvV b B0 v) :: (al b B0 L).filter (fun q => !(q.1 == i) && (!(q.1 == i + 1) && !(q.1 + 1 == i && q.2.category == 2))))) : LR b B0 y ((L.set i v).set (i + 1) vJ) ls' := by
  obtain ⟨a1, a2, a3, a4, a5⟩ := h
  obtain ⟨b1, b2, b3⟩ := hh
  simp only [okS2, Bool.and_eq_true, decide_eq_true_eq, Bool.or_eq_true, beq_iff_eq, Bool.not_eq_true'] at ho
  have hlen : i + 1 < L.length := ho.1
  have him : i ∈ mll y := by
    have := ho.2.2
    rw [List.contains_eq_mem] at this
    simpa using this
  have hb : ∀ k, k + 1 = i → ¬ k ∈ mll y := by
    intro k hk hm
    rcases ho.2.1 with h0 | h0
    · omega
    · rw [show i - 1 = k by omega] at h0
      rw [List.contains_eq_mem] at h0
      simp [hm] at h0
  have hget : ∀ k w, ((L.set i v).set (i + 1) vJ)[k]? = some w → (k = i + 1 ∧ w = vJ) ∨ (k = i ∧ w = v) ∨ (k ≠ i ∧ k ≠ i + 1 ∧ L[k]? = some w) := by
    intro k w hk
    by_cases h1 : k = i + 1
    · subst h1
      rw [List.getElem?_set_self (by rw [List.length_set]; exact hlen)] at hk
      cases hk
      exact Or.inl ⟨rfl, rfl⟩
    · rw [List.getElem?_set_ne (Ne.symm h1)] at hk
      by_cases h2 : k = i
      · subst h2
        rw [List.getElem?_set_self (by omega)] at hk
        cases hk
        exact Or.inr (Or.inl ⟨rfl, rfl⟩)
      · rw [List.getElem?_set_ne (Ne.symm h2)] at hk
        exact Or.inr (Or.inr ⟨h2, h1, hk⟩)
  refine ⟨by rw [List.length_set, List.length_set]; exact a1, b1, b2, fun k w hk hw => ?_, fun k w hk hw => ?_⟩
  · rcases hget k w hk with ⟨rfl, rfl⟩ | ⟨rfl, rfl⟩ | ⟨h2, h1, hk⟩
    · exact absurd rfl hw
    · exact b3 _ List.mem_cons_self
    · refine b3 (k, rvV b B0 w) (List.mem_cons_of_mem _ (List.mem_filter.mpr ⟨al_of hk hw, ?_⟩))
      have e1 : (k == i) = false := by simp [h2]
      have e2 : (k == i + 1) = false := by simp [h1]
      have e3 : (k + 1 == i && (rvV b B0 w).category == 2) = false := by
        rw [rvV_cat]
        by_cases hk2 : k + 1 = i
        · have : ¬ w.category = 2 := fun q => hb k hk2 (a5 k w hk q)
          simp [this]
        · simp [hk2]
      simp only [e1, e2, e3]
      rfl
  · rcases hget k w hk with ⟨rfl, rfl⟩ | ⟨rfl, rfl⟩ | ⟨h2, h1, hk⟩
    · cases hw
    · exact him
    · exact a5 k w hk hw
theorem lay_len : ∀ (vs : List Value), (lay vs).length = (lg_sl vs).length
  | [] => rfl
  | v :: t => by
    simp only [lay, lg_sl, List.flatMap_cons, List.length_append]
    have := lay_len t
    simp only [lg_sl] at this
    by_cases h : v.category = 2
    · simp only [if_pos h, List.length_cons, List.length_nil, this]
      omega
    · simp only [if_neg h, List.length_cons, List.length_nil, this]
      omega
theorem lg_map {b B0 : Nat} : ∀ (vs : List Value), (lg_sl (vs.map (rvV b B0))).length = (lg_sl vs).length
  | [] => rfl
  | v :: t => by
    have := lg_map (b := b) (B0 := B0) t
    simp only [lg_sl] at this
    simp only [lg_sl, List.map_cons, List.flatMap_cons, List.length_append, rvV_cat, this]
    by_cases h : v.category = 2
    · simp only [if_pos h, List.length_cons, List.length_nil]
    · simp only [if_neg h, List.length_cons, List.length_nil]
theorem lay_args {b B0 : Nat} : ∀ (vs : List Value) (n k : Nat) (v : Value), (lay vs)[k]? = some v → v ≠ vJ → (n + k, rvV b B0 v) ∈ lv_args n (vs.map (rvV b B0))
  | [], n, k, v, h, _ => by simp [lay] at h
  | w :: t, n, k, v, h, hv => by
    simp only [lay] at h
    simp only [List.map_cons, lv_args, rvV_cat]
    by_cases hc : w.category = 2
    · rw [if_pos hc] at h
      rw [if_pos hc]
      match k, h with
      | 0, h => cases h; exact List.mem_cons_self
      | 1, h => cases h; exact absurd rfl hv
      | k + 2, h =>
        have := lay_args (b := b) (B0 := B0) t (n + 2) k v (by simpa using h) hv
        rw [show n + (k + 2) = n + 2 + k by omega]
        exact List.mem_cons_of_mem _ this
    · rw [if_neg hc] at h
      rw [if_neg hc]
      match k, h with
      | 0, h => cases h; exact List.mem_cons_self
      | k + 1, h =>
        have := lay_args (b := b) (B0 := B0) t (n + 1) k v (by simpa using h) hv
        rw [show n + (k + 1) = n + 1 + k by omega]
        exact List.mem_cons_of_mem _ this
theorem noLg_spec {ll : List Nat} : ∀ (vs : List Value) (n : Nat), noLg ll n vs = true → ∀ (k : Nat) (v : Value), vs[k]? = some v → v.category = 2 → n + k ∈ ll
  | [], n, _, k, v, h, _ => by simp at h
  | w :: t, n, hn, k, v, h, hv => by
    simp only [noLg, Bool.and_eq_true, Bool.or_eq_true] at hn
    match k, h with
    | 0, h =>
      cases h
      rcases hn.1 with q | q
      · simp [hv] at q
      · rw [List.contains_eq_mem] at q
        simpa using q
    | k + 1, h =>
      have := noLg_spec t (n + 1) hn.2 k v (by simpa using h) hv
      rw [show n + (k + 1) = n + 1 + k by omega]
      exact this
theorem LR.entry {b B0 : Nat} {y : vMD} {vs : List Value} (h : entOK y vs = true) {ls : Array Slot}
    (hl : lv_has ls (mnl y) (lv_args 0 (vs.map (rvV b B0)))) : LR b B0 y (entL (mnl y) vs) ls := by
  simp only [entOK, Bool.and_eq_true, decide_eq_true_eq] at h
  obtain ⟨h1, h2⟩ := h
  refine ⟨by unfold entL; rw [List.length_append, List.length_replicate]; omega, hl.1, hl.2.1, fun k v hk hv => ?_, fun k v hk hv => ?_⟩
  · unfold entL at hk
    rcases Nat.lt_or_ge k (lay vs).length with q | q
    · rw [List.getElem?_append_left q] at hk
      have := lay_args (b := b) (B0 := B0) vs 0 k v hk hv
      rw [Nat.zero_add] at this
      exact hl.2.2 _ this
    · rw [List.getElem?_append_right q] at hk
      exact absurd (List.eq_of_mem_replicate (List.mem_of_getElem? hk)) hv
  · have := noLg_spec _ 0 h2 k v hk hv
    rwa [Nat.zero_add] at this
