/-! what the tables know at the law's entry -/
theorem tbT1 {w : Cond} (i : Nat) (h : tables_1_1[i]? = some w) : w ∈ lw_tbl := List.mem_append_right _ (List.mem_append_left _ (List.mem_of_getElem? h))
theorem tbT2 {w : Cond} (i : Nat) (h : tables_1_2[i]? = some w) : w ∈ lw_tbl := List.mem_append_right _ (List.mem_append_right _ (List.mem_append_left _ (List.mem_of_getElem? h)))
section KNOWN
variable {s : State} {args : Array Value}
theorem cls_known (hts : ∀ w ∈ lw_tbl, w.before args s = true) : ∃ (dC : Nat → ClassId) (dI : Nat → Nat → Nat), ∀ (k : Nat) (q : vw_C), vwCl[k]? = some q → u_Kn s q.1 q.2.1 q.2.2 (dC k) (dI k) := by
  have hkn : ∀ k, k < 7 → ∃ (cC : ClassId) (iS : Nat → Nat), u_Kn s (RN k) (TN k) (NN k) cC iS := fun k hk => u_known hts (fun w hw => bg_in (nk_in k hk w hw)) (hts _ (bg_in (nk_mk k hk).1))
  refine ⟨fun k => if h : k < 7 then (hkn k h).choose else (hkn 0 (by decide)).choose, fun k => if h : k < 7 then (hkn k h).choose_spec.choose else fun _ => 0, ?_⟩
  intro k q hq
  have hk : k < 7 := (List.getElem?_eq_some_iff.mp hq).1
  rw [nk_cl k hk] at hq
  cases hq
  simp only [dif_pos hk]
  exact (hkn k hk).choose_spec.choose_spec
theorem arr_p {ty : FieldType} (h : (Cond.arrayClass ty).before args s = true) : ∃ c, ArrOfT s c ty ∧ s.vm.findClass ("[" ++ ty.toString) = some c := by
  obtain ⟨c, k, comp, h1, h2, h3⟩ := Cond.arrayClass_spec h
  exact ⟨c, fun n z => ⟨fun k h => (by cases h), k, h2, comp, h3⟩, h1⟩
theorem arr_o {C : String} (h : (Cond.arrayOver (.object C)).before args s = true) : ∃ c, ArrOfT s c (.object C) ∧ va_RA s c (.object C) := by
  obtain ⟨comp, c, k, h1, h2, h3, h4, h5⟩ := Cond.arrayOver_spec h
  exact ⟨c, fun N z => ⟨fun k h => (by cases h), k, h3, comp, h4⟩, k, comp, h3, h4, h1, h5⟩
theorem arr_known (hts : ∀ w ∈ lw_tbl, w.before args s = true) : ∃ cy : Nat → ClassId, ∀ (k : Nat) (q : ClassId × FieldType), [(cy 8, FieldType.int), (cy 9, .boolean), (cy 10, .object RX0), (cy 11, .object RX2), (cy 12, .object RX5)][k]? = some q → ArrOfT s q.1 q.2 ∧ va_RA s q.1 q.2 := by
  obtain ⟨c8, a8, b8⟩ := arr_p (hts _ (bg_in nk_ar.1))
  obtain ⟨c9, a9, b9⟩ := arr_p (hts _ (bg_in nk_ar.2))
  obtain ⟨c10, a10, b10⟩ := arr_o (C := RX0) (hts _ (tbT1 25 rfl))
  obtain ⟨c11, a11, b11⟩ := arr_o (C := RX2) (hts _ (tbT1 151 rfl))
  obtain ⟨c12, a12, b12⟩ := arr_o (C := RX5) (hts _ (tbT1 27 rfl))
  refine ⟨fun k => if k = 8 then c8 else if k = 9 then c9 else if k = 10 then c10 else if k = 11 then c11 else c12, fun k q hq => ?_⟩
  match k, hq with
  | 0, hq => cases hq; exact ⟨a8, b8⟩
  | 1, hq => cases hq; exact ⟨a9, b9⟩
  | 2, hq => cases hq; exact ⟨a10, b10⟩
  | 3, hq => cases hq; exact ⟨a11, b11⟩
  | 4, hq => cases hq; exact ⟨a12, b12⟩
  | k + 5, hq => simp at hq
theorem nest_known (hts : ∀ w ∈ lw_tbl, w.before args s = true) : ∀ q ∈ nestL, va_Nw (.methodLinkNest (RN q.1) q.2.1 q.2.2 "MendingMornings") s := by
  have h1 : va_Nw (.methodLinkNest (RN 2) 34 yX0_init "MendingMornings") s := va_Nw.of rfl (hts _ (tbT1 29 rfl))
  have h2 : va_Nw (.methodLinkNest (RN 2) 35 yX5_init "MendingMornings") s := va_Nw.of rfl (hts _ (tbT1 67 rfl))
  have h3 : va_Nw (.methodLinkNest (RN 3) 21 yX5_init "MendingMornings") s := va_Nw.of rfl (hts _ (tbT1 176 rfl))
  have h4 : va_Nw (.methodLinkNest (RN 3) 28 yX6_isOutside "MendingMornings") s := va_Nw.of rfl (hts _ (tbT2 66 rfl))
  have h5 : va_Nw (.methodLinkNest (RN 6) 43 yX4_init "MendingMornings") s := va_Nw.of rfl (hts _ (tbT1 198 rfl))
  intro q hq
  simp only [nestL, List.mem_cons, List.mem_nil_iff, or_false] at hq
  rcases hq with rfl | rfl | rfl | rfl | rfl
  · exact h1
  · exact h2
  · exact h3
  · exact h4
  · exact h5
end KNOWN
