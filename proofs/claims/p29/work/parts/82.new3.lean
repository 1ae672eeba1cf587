/-! the model is made, the class's object is made -/
section NEW3
variable {D : vDD} {m : vMM} {z : vZZ} {n : Nat}
/-- the world but for the model -/
def Wd0 (D : vDD) : Prop := IsMM D ∧ (IsM D 2 ∧ IsM D 78 ∧ IsM D 155 ∧ IsM D 231 ∧ ∀ k, k < 6 → IsM D (310 + 76 * k)) ∧ IsPad D ∧ IsPl D ∧ IsHi D id
theorem x_newMM (h1 : (D 1).1 = 6) : ∃ D' m', Wd0 D' ∧ (∀ q, q < 1 ∨ 853 ≤ q → D' q = D q ∧ m' q = m q) ∧ INI m' 2 ∧ (m' 307 = fun _ => 0) ∧ (m' 308 = fun _ => 0) ∧ (m' 766 = fun _ => 0) ∧ ∀ Q, Runs MX6_init 0 [.ref 1, vJ] [] D m (2, n) Q = Q vJ D' m' (853, n + 5260) := by
  -- now
  obtain ⟨Da, ma, A1, A2, A3, Ay⟩ := x_newMorning (D := nwD D 2 (2, 0, fun _ => none)) (m := nwM m 2) (b := 2) (n := n + 9) (by rw [nwD_e]) nwM_e
  have a1 : Da 1 = D 1 := by rw [(A3 1 (by decide)).1, nwD_o (by decide)]
  have fa : ∀ q, q < 2 ∨ 78 ≤ q → Da q = D q ∧ ma q = m q := fun q hq => by rw [(A3 q hq).1, (A3 q hq).2, nwD_o (by omega), nwM_o (by omega)]; exact ⟨rfl, rfl⟩
  generalize hD1 : upR Da 1 0 (some 2) = D1
  have o1 : ∀ q, q ≠ 1 → D1 q = Da q := fun q hq => by rw [← hD1]; exact upR_q hq
  have b1 : (D1 1).1 = 6 ∧ (D1 1).2.2 0 = some 2 := by rw [← hD1, upR_1, upR_e, a1]; exact ⟨h1, rfl⟩
  -- trial
  obtain ⟨Db, mb, B1, B2, B3, By⟩ := x_newMorning (D := nwD D1 78 (2, 0, fun _ => none)) (m := nwM ma 78) (b := 78) (n := n + 421 + 9) (by rw [nwD_e]) nwM_e
  have fb : ∀ q, q < 78 ∨ 154 ≤ q → Db q = D1 q ∧ mb q = ma q := fun q hq => by rw [(B3 q hq).1, (B3 q hq).2, nwD_o (by omega), nwM_o (by omega)]; exact ⟨rfl, rfl⟩
  generalize hD2 : upR Db 1 1 (some 78) = D2
  have o2 : ∀ q, q ≠ 1 → D2 q = Db q := fun q hq => by rw [← hD2]; exact upR_q hq
  have b2 : (D2 1).1 = 6 ∧ (D2 1).2.2 0 = some 2 ∧ (D2 1).2.2 1 = some 78 := by
    rw [← hD2, upR_1, upR_e, upR_k (by decide), (fb 1 (by decide)).1]; exact ⟨b1.1, b1.2, rfl⟩
  -- saved
  generalize hD3 : upR (nwD D2 154 (11, 2, fun _ => none)) 1 2 (some 154) = D3
  have o3 : ∀ q, q ≠ 1 → q ≠ 154 → D3 q = D2 q := fun q hq h2 => by rw [← hD3, upR_q hq, nwD_o h2]
  have b3 : (D3 1).1 = 6 ∧ (D3 1).2.2 0 = some 2 ∧ (D3 1).2.2 1 = some 78 ∧ (D3 1).2.2 2 = some 154 := by
    rw [← hD3, upR_1, upR_e, upR_k (by decide), upR_k (by decide), nwD_o (by decide)]; exact ⟨b2.1, b2.2.1, b2.2.2, rfl⟩
  have s3 : (D3 154).1 = 11 ∧ (D3 154).2.1 = 2 := by rw [← hD3, upR_q (by decide), nwD_e]; exact ⟨rfl, rfl⟩
  obtain ⟨Dc, mc, C1, C2, C3, Cy⟩ := x_newMorning (D := nwD D3 155 (2, 0, fun _ => none)) (m := nwM (nwM mb 154) 155) (b := 155) (n := n + 844 + 9) (by rw [nwD_e]) nwM_e
  have fc : ∀ q, q < 155 ∨ 231 ≤ q → Dc q = D3 q ∧ mc q = nwM mb 154 q := fun q hq => by rw [(C3 q hq).1, (C3 q hq).2, nwD_o (by omega), nwM_o (by omega)]; exact ⟨rfl, rfl⟩
  generalize hD4 : upR Dc 154 0 (some 155) = D4
  have o4 : ∀ q, q ≠ 154 → D4 q = Dc q := fun q hq => by rw [← hD4]; exact upR_q hq
  have b4 : (D4 1).1 = 6 ∧ (D4 1).2.2 0 = some 2 ∧ (D4 1).2.2 1 = some 78 ∧ (D4 1).2.2 2 = some 154 := by rw [o4 1 (by decide), (fc 1 (by decide)).1]; exact b3
  have s4 : (D4 154).1 = 11 ∧ (D4 154).2.1 = 2 ∧ (D4 154).2.2 0 = some 155 := by rw [← hD4, upR_1, upR_2, upR_e, (fc 154 (by decide)).1]; exact ⟨s3.1, s3.2, rfl⟩
  obtain ⟨De, me, E1, E2, E3, Ey⟩ := x_newMorning (D := nwD D4 231 (2, 0, fun _ => none)) (m := nwM mc 231) (b := 231) (n := n + 1265 + 9) (by rw [nwD_e]) nwM_e
  have fe : ∀ q, q < 231 ∨ 307 ≤ q → De q = D4 q ∧ me q = mc q := fun q hq => by rw [(E3 q hq).1, (E3 q hq).2, nwD_o (by omega), nwM_o (by omega)]; exact ⟨rfl, rfl⟩
  generalize hD5 : upR De 154 1 (some 231) = D5
  have o5 : ∀ q, q ≠ 154 → D5 q = De q := fun q hq => by rw [← hD5]; exact upR_q hq
  have b5 : (D5 1).1 = 6 ∧ (D5 1).2.2 0 = some 2 ∧ (D5 1).2.2 1 = some 78 ∧ (D5 1).2.2 2 = some 154 := by rw [o5 1 (by decide), (fe 1 (by decide)).1]; exact b4
  have s5 : (D5 154).1 = 11 ∧ (D5 154).2.1 = 2 ∧ (D5 154).2.2 0 = some 155 ∧ (D5 154).2.2 1 = some 231 := by rw [← hD5, upR_1, upR_2, upR_e, upR_k (by decide), (fe 154 (by decide)).1]; exact ⟨s4.1, s4.2.1, s4.2.2, rfl⟩
  -- isSaved
  generalize hD6 : upR (nwD D5 307 (9, 2, fun _ => none)) 1 3 (some 307) = D6
  have o6 : ∀ q, q ≠ 1 → q ≠ 307 → D6 q = D5 q := fun q hq h2 => by rw [← hD6, upR_q hq, nwD_o h2]
  have b6 : (D6 1).1 = 6 ∧ (D6 1).2.2 0 = some 2 ∧ (D6 1).2.2 1 = some 78 ∧ (D6 1).2.2 2 = some 154 ∧ (D6 1).2.2 3 = some 307 := by
    rw [← hD6, upR_1, upR_e, upR_k (by decide), upR_k (by decide), upR_k (by decide), nwD_o (by decide)]; exact ⟨b5.1, b5.2.1, b5.2.2.1, b5.2.2.2, rfl⟩
  have t6 : (D6 307).1 = 9 ∧ (D6 307).2.1 = 2 := by rw [← hD6, upR_q (by decide), nwD_e]; exact ⟨rfl, rfl⟩
  -- history
  obtain ⟨Dg, mg, G1, G2, G3, Gy⟩ := x_newHistory (D := nwD D6 308 (1, 0, fun _ => none)) (m := nwM (nwM me 307) 308) (n := n + 1688 + 2) (by rw [nwD_e])
  have fg : ∀ q, q < 308 ∨ 766 ≤ q → Dg q = D6 q ∧ mg q = nwM me 307 q := fun q hq => by rw [(G2 q hq).1, (G2 q hq).2, nwD_o (by omega), nwM_o (by omega)]; exact ⟨rfl, rfl⟩
  generalize hD7 : upR Dg 1 4 (some 308) = D7
  have o7 : ∀ q, q ≠ 1 → D7 q = Dg q := fun q hq => by rw [← hD7]; exact upR_q hq
  have b7 : (D7 1).1 = 6 ∧ (D7 1).2.2 0 = some 2 ∧ (D7 1).2.2 1 = some 78 ∧ (D7 1).2.2 2 = some 154 ∧ (D7 1).2.2 3 = some 307 ∧ (D7 1).2.2 4 = some 308 := by
    rw [← hD7, upR_1, upR_e, upR_k (by decide), upR_k (by decide), upR_k (by decide), upR_k (by decide), (fg 1 (by decide)).1]; exact ⟨b6.1, b6.2.1, b6.2.2.1, b6.2.2.2.1, b6.2.2.2.2, rfl⟩
  -- pad
  obtain ⟨Dh, mh, H1, H2, H3, Hy⟩ := x_newPad (D := nwD D7 766 (3, 0, fun _ => none)) (m := nwM mg 766) (n := n + 4222 + 5) (by rw [nwD_e])
  have fh : ∀ q, q < 766 ∨ 849 ≤ q → Dh q = D7 q ∧ mh q = mg q := fun q hq => by rw [(H2 q hq).1, (H2 q hq).2, nwD_o (by omega), nwM_o (by omega)]; exact ⟨rfl, rfl⟩
  generalize hD8 : upR Dh 1 5 (some 766) = D8
  have o8 : ∀ q, q ≠ 1 → D8 q = Dh q := fun q hq => by rw [← hD8]; exact upR_q hq
  have b8 : (D8 1).1 = 6 ∧ (D8 1).2.2 0 = some 2 ∧ (D8 1).2.2 1 = some 78 ∧ (D8 1).2.2 2 = some 154 ∧ (D8 1).2.2 3 = some 307 ∧ (D8 1).2.2 4 = some 308 ∧ (D8 1).2.2 5 = some 766 := by
    rw [← hD8, upR_1, upR_e, upR_k (by decide), upR_k (by decide), upR_k (by decide), upR_k (by decide), upR_k (by decide), (fh 1 (by decide)).1]; exact ⟨b7.1, b7.2.1, b7.2.2.1, b7.2.2.2.1, b7.2.2.2.2.1, b7.2.2.2.2.2, rfl⟩
  -- planner
  obtain ⟨Di, mi, I1, I2, Iy⟩ := x_newPlanner (D := nwD D8 849 (4, 0, fun _ => none)) (m := nwM mh 849) (n := n + 4727 + 4) (by rw [nwD_e])
  have fi : ∀ q, q < 849 ∨ 853 ≤ q → Di q = D8 q ∧ mi q = mh q := fun q hq => by rw [(I2 q hq).1, (I2 q hq).2, nwD_o (by omega), nwM_o (by omega)]; exact ⟨rfl, rfl⟩
  generalize hD9 : upR Di 1 6 (some 849) = D9
  have o9 : ∀ q, q ≠ 1 → D9 q = Di q := fun q hq => by rw [← hD9]; exact upR_q hq
  have b9 : (D9 1).1 = 6 ∧ (D9 1).2.2 0 = some 2 ∧ (D9 1).2.2 1 = some 78 ∧ (D9 1).2.2 2 = some 154 ∧ (D9 1).2.2 3 = some 307 ∧ (D9 1).2.2 4 = some 308 ∧ (D9 1).2.2 5 = some 766 ∧ (D9 1).2.2 6 = some 849 := by
    rw [← hD9, upR_1, upR_e, upR_k (by decide), upR_k (by decide), upR_k (by decide), upR_k (by decide), upR_k (by decide), upR_k (by decide), (fi 1 (by decide)).1]; exact ⟨b8.1, b8.2.1, b8.2.2.1, b8.2.2.2.1, b8.2.2.2.2.1, b8.2.2.2.2.2.1, b8.2.2.2.2.2.2, rfl⟩
  -- backwards
  have w9 : ∀ q, q ≠ 1 → (q < 849 ∨ 853 ≤ q) → D9 q = D8 q := fun q h1 h2 => by rw [o9 q h1, (fi q h2).1]
  have w8 : ∀ q, q ≠ 1 → (q < 766 ∨ 853 ≤ q) → D9 q = D7 q := fun q h1 h2 => by rw [w9 q h1 (by omega), o8 q h1, (fh q (by omega)).1]
  have w7 : ∀ q, q ≠ 1 → (q < 308 ∨ 853 ≤ q) → D9 q = D6 q := fun q h1 h2 => by rw [w8 q h1 (by omega), o7 q h1, (fg q (by omega)).1]
  have w6 : ∀ q, q ≠ 1 → (q < 307 ∨ 853 ≤ q) → D9 q = D5 q := fun q h1 h2 => by rw [w7 q h1 (by omega), o6 q h1 (by omega)]
  have w5 : ∀ q, q ≠ 1 → q ≠ 154 → (q < 231 ∨ 853 ≤ q) → D9 q = D4 q := fun q h1 h3 h2 => by rw [w6 q h1 (by omega), o5 q h3, (fe q (by omega)).1]
  have w4 : ∀ q, q ≠ 1 → q ≠ 154 → (q < 155 ∨ 853 ≤ q) → D9 q = D3 q := fun q h1 h3 h2 => by rw [w5 q h1 h3 (by omega), o4 q h3, (fc q (by omega)).1]
  have w3 : ∀ q, q ≠ 1 → (q < 154 ∨ 853 ≤ q) → D9 q = D2 q := fun q h1 h2 => by rw [w4 q h1 (by omega) (by omega), o3 q h1 (by omega)]
  have w2 : ∀ q, q ≠ 1 → (q < 78 ∨ 853 ≤ q) → D9 q = D1 q := fun q h1 h2 => by rw [w3 q h1 (by omega), o2 q h1, (fb q (by omega)).1]
  have w1 : ∀ q, q ≠ 1 → (q < 2 ∨ 853 ≤ q) → D9 q = D q := fun q h1 h2 => by rw [w2 q h1 (by omega), o1 q h1, (fa q (by omega)).1]
  have v8 : ∀ q, (q < 766 ∨ 853 ≤ q) → mi q = mg q := fun q h2 => by rw [(fi q (by omega)).2, (fh q (by omega)).2]
  have v6 : ∀ q, q ≠ 307 → (q < 308 ∨ 853 ≤ q) → mi q = me q := fun q h3 h2 => by rw [v8 q (by omega), (fg q (by omega)).2, nwM_o h3]
  have v3 : ∀ q, q ≠ 154 → (q < 155 ∨ 853 ≤ q) → mi q = mb q := fun q h3 h2 => by rw [v6 q (by omega) (by omega), (fe q (by omega)).2, (fc q (by omega)).2, nwM_o h3]
  have v2 : ∀ q, (q < 78 ∨ 853 ≤ q) → mi q = ma q := fun q h2 => by rw [v3 q (by omega) (by omega), (fb q (by omega)).2]
  obtain ⟨⟨hi1, hi2⟩, ⟨hi3, hi4⟩, hi5⟩ := G1
  refine ⟨D9, mi, ⟨⟨b9, ?_, ?_, ?_⟩, ⟨?_, ?_, ?_, ?_, fun k hk => ?_⟩, ?_, ?_, ?_⟩, fun q hq => ⟨?_, ?_⟩, ?_, ?_, ?_, ?_, fun Q => ?_⟩
  · rw [w6 154 (by decide) (by decide)]; exact s5
  · rw [w7 307 (by decide) (by decide)]; exact t6
  · rw [w8 308 (by decide) (by decide), o7 308 (by decide)]; exact ⟨hi1, hi2⟩
  · exact A1.cong (fun q h1 h2 => by rw [w2 q (by omega) (by omega), o1 q (by omega)])
  · exact B1.cong (fun q h1 h2 => by rw [w3 q (by omega) (by omega), o2 q (by omega)])
  · exact C1.cong (fun q h1 h2 => by rw [w5 q (by omega) (by omega) (by omega), o4 q (by omega)])
  · exact E1.cong (fun q h1 h2 => by rw [w6 q (by omega) (by omega), o5 q (by omega)])
  · exact (hi5 k hk).2.cong (fun q h1 h2 => by rw [w8 q (by omega) (by omega), o7 q (by omega)])
  · have e : ∀ q, 766 ≤ q → q < 849 → D9 q = Dh q := fun q h1 h2 => by rw [w9 q (by omega) (by omega), o8 q (by omega)]
    unfold IsPad at H1 ⊢
    rw [e 766 (by decide) (by decide), e 767 (by decide) (by decide), e 768 (by decide) (by decide)]
    exact ⟨H1.1, H1.2.1, H1.2.2.1, fun j hj => (H1.2.2.2 j hj).cong (fun a h1 h2 => e a (by omega) (by omega))⟩
  · unfold IsPl at I1 ⊢
    rw [o9 849 (by decide), o9 850 (by decide), o9 851 (by decide), o9 852 (by decide)]
    exact I1
  · have e9 : D9 309 = Dg 309 := by rw [w8 309 (by decide) (by decide), o7 309 (by decide)]
    refine ⟨by rw [e9]; exact ⟨hi3, hi4⟩, fun k hk => by rw [e9]; exact (hi5 k hk).1, fun k hk => hk, fun j k _ _ e => e⟩
  · exact w1 q (by omega) (by omega)
  · rw [v2 q (by omega), (fa q (by omega)).2]
  · unfold INI at A2 ⊢
    rw [v2 2 (by decide), v2 5 (by decide)]
    exact A2
  · rw [v8 307 (by decide), (fg 307 (by decide)).2, nwM_e]
  · rw [v8 308 (by decide), G3, nwM_e]
  · rw [(fi 766 (by decide)).2, H3, nwM_e]
  · have en : n + 5260 = n + 4727 + 4 + 529 := by omega
    have e1 : n + 421 + 9 + 412 = n + 842 := by omega
    have e2 : n + 844 + 9 + 412 = n + 1265 := by omega
    have e3 : n + 1265 + 9 + 412 = n + 1686 := by omega
    have e4 : n + 1688 + 2 + 2532 = n + 4222 := by omega
    have e5 : n + 4222 + 5 + 500 = n + 4727 := by omega
    have e6 : n + 9 + 412 = n + 421 := by omega
    simp only [Nat.reduceAdd, e1, e2, e3, e4, e5, e6] at Ay By Cy Ey Gy Hy Iy
    have k2 := A1.1.1
    have kb := B1.1.1
    have kc := C1.1.1
    have ke := E1.1.1
    have kg : (Dg 308).1 = 1 := hi1
    have kh := H1.1.1
    have ki := I1.1.1
    have x1 : (Da 1).1 = 6 := by rw [a1]; exact h1
    have x2 : (Db 1).1 = 6 := by rw [(fb 1 (by decide)).1]; exact b1.1
    have x3 := b2.1
    have x4 := b3.1
    have x5 : (Dc 154).1 = 11 ∧ (Dc 154).2.1 = 2 := by rw [(fc 154 (by decide)).1]; exact s3
    have x6 : (De 154).1 = 11 ∧ (De 154).2.1 = 2 := by rw [(fe 154 (by decide)).1]; exact ⟨s4.1, s4.2.1⟩
    have x7 : (Dg 1).1 = 6 := by rw [(fg 1 (by decide)).1]; exact b6.1
    have x8 : (Dh 1).1 = 6 := by rw [(fh 1 (by decide)).1]; exact b7.1
    have x9 : (Di 1).1 = 6 := by rw [(fi 1 (by decide)).1]; exact b8.1
    have y1 := b3.2.2.2
    have y2 := b4.1
    have y3 := b4.2.2.2
    have y4 := b5.1
    have y5 := b6.1
    have y6 := b7.1
    have y7 := b8.1
    rw [en]
    simp (disch := omega) only [sX6_init_0, sX6_init_1, sX6_init_4, sX6_init_5, sX6_init_8, sX6_init_9, sX6_init_12, sX6_init_15, sX6_init_16, sX6_init_19, sX6_init_20, sX6_init_23, sX6_init_26, sX6_init_27, sX6_init_28, sX6_init_31, sX6_init_34, sX6_init_35, nwD_o, nwD_e, true_and, Nat.reduceAdd, Ay, x1, hD1, b1.1, By, x2, hD2, x3, hD3]
    rw [sX6_init_36]
    simp (disch := omega) only [sX6_init_37, sX6_init_38, sX6_init_41, sX6_init_42, sX6_init_45, sX6_init_46, sX6_init_49, sX6_init_50, sX6_init_53, sX6_init_54, sX6_init_57, true_and, and_true, true_or, or_true, eq_self, ↓reduceIte, if_true, if_false, nI_add, nI_mul, inB_nI, nI_clamp, Nat.add_zero, eqI, ltI, leI, m6_ne, ne_m6, Nat.reduceEqDiff, reduceCtorEq, Nat.reduceLT, Nat.reduceLeDiff, Nat.reduceAdd, Nat.reduceMul, Nat.zero_add, Nat.mul_zero, nar_0, nar_1, nar_b, bI_t, bI_f, bI_0, bI_1, Bool.true_eq_false, Bool.false_eq_true, Bool.and_self, Bool.and_false, Bool.false_and, Bool.true_and, Bool.and_true, and_self, nwD_o, nwD_e, x4, y1, s3, Cy, x5, kc, elK11, hD4, Nat.reduceLeDiff, Nat.le_refl]
    rw [sX6_init_36]
    simp (disch := omega) only [sX6_init_37, sX6_init_38, sX6_init_41, sX6_init_42, sX6_init_45, sX6_init_46, sX6_init_49, sX6_init_50, sX6_init_53, sX6_init_54, sX6_init_57, true_and, and_true, true_or, or_true, eq_self, ↓reduceIte, if_true, if_false, nI_add, nI_mul, inB_nI, nI_clamp, Nat.add_zero, eqI, ltI, leI, m6_ne, ne_m6, Nat.reduceEqDiff, reduceCtorEq, Nat.reduceLT, Nat.reduceLeDiff, Nat.reduceAdd, Nat.reduceMul, Nat.zero_add, Nat.mul_zero, nar_0, nar_1, nar_b, bI_t, bI_f, bI_0, bI_1, Bool.true_eq_false, Bool.false_eq_true, Bool.and_self, Bool.and_false, Bool.false_and, Bool.true_and, Bool.and_true, and_self, nwD_o, nwD_e, y2, y3, s4, Ey, x6, ke, elK11, hD5, Nat.reduceLeDiff, Nat.le_refl]
    rw [sX6_init_36]
    simp (disch := omega) only [sX6_init_37, sX6_init_38, sX6_init_41, sX6_init_42, sX6_init_45, sX6_init_46, sX6_init_49, sX6_init_50, sX6_init_53, sX6_init_54, sX6_init_57, true_and, and_true, true_or, or_true, eq_self, ↓reduceIte, if_true, if_false, nI_add, nI_mul, inB_nI, nI_clamp, Nat.add_zero, eqI, ltI, leI, m6_ne, ne_m6, Nat.reduceEqDiff, reduceCtorEq, Nat.reduceLT, Nat.reduceLeDiff, Nat.reduceAdd, Nat.reduceMul, Nat.zero_add, Nat.mul_zero, nar_0, nar_1, nar_b, bI_t, bI_f, bI_0, bI_1, Bool.true_eq_false, Bool.false_eq_true, Bool.and_self, Bool.and_false, Bool.false_and, Bool.true_and, Bool.and_true, and_self, Nat.le_refl]
    simp only [Nat.add_assoc, Nat.reduceAdd] at Gy Hy Iy ⊢
    simp (disch := omega) only [sX6_init_60, sX6_init_61, sX6_init_62, sX6_init_64, sX6_init_67, sX6_init_68, sX6_init_71, sX6_init_72, sX6_init_75, sX6_init_78, sX6_init_79, sX6_init_82, sX6_init_83, sX6_init_86, sX6_init_89, sX6_init_90, sX6_init_93, sX6_init_94, sX6_init_97, sX6_init_100, nwD_o, nwD_e, true_and, Nat.reduceAdd, Nat.add_assoc, y4, hD6, Gy, x7, hD7, y5, y6, y7, kg, Hy, x8, hD8, kh, Iy, x9, hD9, ki]
end NEW3
