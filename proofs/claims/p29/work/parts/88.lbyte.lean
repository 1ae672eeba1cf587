/-! bytes in a row of ints -/
theorem by_ext {x y : Int32} (h : ∀ i, i < 32 → x.toBitVec.getLsbD i = y.toBitVec.getLsbD i) : x = y := Int32.toBitVec_inj.mp (BitVec.eq_of_getLsbD_eq h)
theorem g_nI {n i : Nat} (hi : i < 32) : (nI n).toBitVec.getLsbD i = n.testBit i := by
  show (BitVec.ofNat 32 n).getLsbD i = _
  rw [BitVec.getLsbD_ofNat]
  simp [hi]
theorem g_shl {x : Int32} {c i : Nat} (hc : c < 32) (hi : i < 32) : (x <<< (nI c &&& 31)).toBitVec.getLsbD i = (!decide (i < c) && x.toBitVec.getLsbD (i - c)) := by
  rw [Int32.toBitVec_shiftLeft, sh32 ⟨c, hc⟩, BitVec.shiftLeft_eq', BitVec.toNat_ofNat, Nat.mod_eq_of_lt (by omega), BitVec.getLsbD_shiftLeft, decide_eq_true hi, Bool.true_and]
theorem g_shr {x : Int32} {c i : Nat} (hi : c + i < 32) : (x >>> (nI c &&& 31)).toBitVec.getLsbD i = x.toBitVec.getLsbD (c + i) := by
  rw [Int32.toBitVec_shiftRight, sh32 ⟨c, by omega⟩, BitVec.sshiftRight_eq', BitVec.toNat_ofNat, Nat.mod_eq_of_lt (by omega), BitVec.getLsbD_sshiftRight, if_pos hi, decide_eq_false (by omega : ¬ 32 ≤ i)]
  rfl
theorem g_m1 {i : Nat} (hi : i < 32) : m1.toBitVec.getLsbD i = true := by
  have h1 : m1.toBitVec = BitVec.allOnes 32 := by decide +kernel
  rw [h1, BitVec.getLsbD_allOnes, decide_eq_true hi]
theorem tb255 (i : Nat) : (255 : Nat).testBit i = decide (i < 8) := Nat.testBit_two_pow_sub_one 8 i
def pbW (X : Int32) (j w : Nat) : Int32 := (X &&& ((nI 255 <<< (nI (8 * j) &&& 31)) ^^^ m1)) ||| (nI w <<< (nI (8 * j) &&& 31))
def gbW (X : Int32) (j : Nat) : Int32 := (X >>> (nI (8 * j) &&& 31)) &&& nI 255
theorem g_pb {X : Int32} {j w i : Nat} (hj : j < 4) (hi : i < 32) : (pbW X j w).toBitVec.getLsbD i = ((X.toBitVec.getLsbD i && !(!decide (i < 8 * j) && decide (i - 8 * j < 8))) || (!decide (i < 8 * j) && w.testBit (i - 8 * j))) := by
  unfold pbW
  rw [Int32.toBitVec_or, BitVec.getLsbD_or, Int32.toBitVec_and, BitVec.getLsbD_and, Int32.toBitVec_xor, BitVec.getLsbD_xor, g_shl (by omega) hi, g_shl (by omega) hi, g_m1 hi, g_nI (by omega), g_nI (by omega), tb255, Bool.xor_true]
theorem g_gb {X : Int32} {j i : Nat} (hj : j < 4) (hi : i < 32) : (gbW X j).toBitVec.getLsbD i = (decide (i < 8) && X.toBitVec.getLsbD (8 * j + i)) := by
  unfold gbW
  rw [Int32.toBitVec_and, BitVec.getLsbD_and, g_nI hi, tb255]
  by_cases h : i < 8
  · rw [g_shr (by omega), Bool.and_comm]
  · rw [decide_eq_false h, Bool.and_false, Bool.false_and]
theorem gb_eq {X : Int32} {j w : Nat} (hj : j < 4) (hw : w ≤ 255) : gbW (pbW X j w) j = nI w := by
  refine by_ext fun i hi => ?_
  rw [g_gb hj hi, g_nI hi]
  by_cases h : i < 8
  · rw [decide_eq_true h, Bool.true_and, g_pb hj (by omega), decide_eq_false (by omega : ¬ 8 * j + i < 8 * j), (by omega : 8 * j + i - 8 * j = i), decide_eq_true h]
    simp
  · rw [decide_eq_false h, Bool.false_and, Nat.testBit_lt_two_pow (Nat.lt_of_lt_of_le (by omega : w < 2 ^ 8) (Nat.pow_le_pow_right (by decide) (by omega)))]
theorem gb_ne {X : Int32} {j k w : Nat} (hj : j < 4) (hk : k < 4) (hne : k ≠ j) (hw : w ≤ 255) : gbW (pbW X j w) k = gbW X k := by
  refine by_ext fun i hi => ?_
  rw [g_gb hk hi, g_gb hk hi]
  by_cases h : i < 8
  · rw [decide_eq_true h, Bool.true_and, Bool.true_and, g_pb hj (by omega)]
    by_cases h2 : 8 * k + i < 8 * j
    · rw [decide_eq_true h2]
      simp
    · rw [decide_eq_false h2, decide_eq_false (by omega : ¬ 8 * k + i - 8 * j < 8), Nat.testBit_lt_two_pow (Nat.lt_of_lt_of_le (by omega : w < 2 ^ 8) (Nat.pow_le_pow_right (by decide) (by omega)))]
      simp
  · rw [decide_eq_false h, Bool.false_and, Bool.false_and]
def atV (R : Nat → Int32) (s : Nat) : Int32 := gbW (R (s / 4)) (s % 4)
def ptR (R : Nat → Int32) (s w : Nat) : Nat → Int32 := upd R (s / 4) (pbW (R (s / 4)) (s % 4) w)
theorem at_put {R : Nat → Int32} {s s' w : Nat} (hw : w ≤ 255) : atV (ptR R s w) s' = if s' = s then nI w else atV R s' := by
  unfold atV ptR
  by_cases h : s' = s
  · subst h
    rw [if_pos rfl, upd_eq, gb_eq (Nat.mod_lt _ (by decide)) hw]
  · rw [if_neg h]
    by_cases h2 : s' / 4 = s / 4
    · rw [h2, upd_eq, gb_ne (Nat.mod_lt _ (by decide)) (Nat.mod_lt _ (by decide)) (by omega) hw]
    · rw [upd_ne _ _ h2]
section LBY
variable {D : vDD} {m : vMM} {f R : Nat → Int32} {z : vZZ} {Q : Value → vDD → vMM → vZZ → Prop} {a b s : Nat}
theorem l_sr (hb : b < a ∨ a + 3 ≤ b) : lM (setR m b R) a f b = R := by rw [l_o hb, setR_eq]
theorem w_sr (hb : b < a ∨ a + 3 ≤ b) {k : Nat} {x : Int32} : up2 (lM (setR m b R) a f) b k x = lM (setR m b (upd R k x)) a f := by rw [lw_o hb, up2_setR]
theorem Pk.sr {nT : Nat} (hP : Pk m (a + 2) f nT) (hb : b < a ∨ a + 3 ≤ b) : Pk (setR m b R) (a + 2) f nT := hP.cong (fun t s _ _ => by rw [setR_ne (by omega)])
theorem n4 : ¬ (4 : Nat) = 0 := by decide
theorem y_at (hb : b < a ∨ a + 3 ≤ b) (hB : (D b).1 = 8 ∧ (D b).2.1 = 32) (hs : s < 128) : Runs ML_at 0 [.ref b, .int (nI s)] [] D (lM (setR m b R) a f) z Q = Q (.int (atV R s - nI 1)) D (lM (setR m b R) a f) z := by
  have d4 := idivI s 4 (by omega) (by decide)
  have r4 : nI s - nI (s / 4 * 4) = nI (s % 4) := by
    rw [nI_sub _ _ (by omega)]
    congr 1
    omega
  unfold atV gbW
  simp (disch := omega) only [sL_at_0, sL_at_1, sL_at_2, sL_at_3, sL_at_4, sL_at_5, sL_at_7, sL_at_8, sL_at_9, sL_at_10, sL_at_11, sL_at_12, sL_at_15, sL_at_16, sL_at_17, sL_at_18, hB, true_and, and_true, true_or, or_true, eq_self, ↓reduceIte, if_true, if_false, nI_add, nI_mul, inB_nI, nI_clamp, Nat.add_zero, eqI, ltI, leI, m6_ne, ne_m6, Nat.reduceEqDiff, reduceCtorEq, Nat.reduceLT, Nat.reduceLeDiff, Nat.reduceAdd, Nat.reduceMul, Nat.zero_add, Nat.mul_zero, nar_0, nar_1, nar_b, bI_t, bI_f, bI_0, bI_1, Bool.true_eq_false, Bool.false_eq_true, Bool.and_self, Bool.and_false, Bool.false_and, Bool.true_and, Bool.and_true, and_self, d4, r4, n4, not_false_eq_true, l_sr hb]
theorem y_put (hb : b < a ∨ a + 3 ≤ b) (hB : (D b).1 = 8 ∧ (D b).2.1 = 32) (hs : s < 128) {v : Int32} {w : Nat} (hv : v + nI 1 = nI w) : Runs ML_put 0 [.ref b, .int (nI s), .int v, vJ] [] D (lM (setR m b R) a f) z Q = Q vJ D (lM (setR m b (ptR R s w)) a f) z := by
  have d4 := idivI s 4 (by omega) (by decide)
  have r4 : nI s - nI (s / 4 * 4) = nI (s % 4) := by
    rw [nI_sub _ _ (by omega)]
    congr 1
    omega
  unfold ptR pbW
  simp (disch := omega) only [sL_put_0, sL_put_2, sL_put_3, sL_put_4, sL_put_5, sL_put_6, sL_put_7, sL_put_8, sL_put_9, sL_put_10, sL_put_11, sL_put_12, sL_put_13, sL_put_14, sL_put_15, sL_put_16, sL_put_19, sL_put_20, sL_put_21, sL_put_22, sL_put_23, sL_put_24, sL_put_25, sL_put_26, sL_put_27, sL_put_28, sL_put_29, sL_put_30, sL_put_31, hB, true_and, and_true, true_or, or_true, eq_self, ↓reduceIte, if_true, if_false, nI_add, nI_mul, inB_nI, nI_clamp, Nat.add_zero, eqI, ltI, leI, m6_ne, ne_m6, Nat.reduceEqDiff, reduceCtorEq, Nat.reduceLT, Nat.reduceLeDiff, Nat.reduceAdd, Nat.reduceMul, Nat.zero_add, Nat.mul_zero, nar_0, nar_1, nar_b, bI_t, bI_f, bI_0, bI_1, Bool.true_eq_false, Bool.false_eq_true, Bool.and_self, Bool.and_false, Bool.false_and, Bool.true_and, Bool.and_true, and_self, d4, r4, n4, not_false_eq_true, l_sr hb, w_sr hb, hv]
end LBY
