/-! bits counted -/
theorem nI_and (a b : Nat) : nI a &&& nI b = nI (a &&& b) := by
  apply Int32.toBitVec_inj.mp
  rw [Int32.toBitVec_and]
  show BitVec.ofNat 32 a &&& BitVec.ofNat 32 b = BitVec.ofNat 32 (a &&& b)
  apply BitVec.eq_of_getLsbD_eq
  intro i hi
  rw [BitVec.getLsbD_and, BitVec.getLsbD_ofNat, BitVec.getLsbD_ofNat, BitVec.getLsbD_ofNat, Nat.testBit_and]
  simp [hi]
theorem nI_bv (x : Int32) : x = nI x.toBitVec.toNat := by
  apply Int32.toBitVec_inj.mp
  show x.toBitVec = BitVec.ofNat 32 x.toBitVec.toNat
  rw [BitVec.ofNat_toNat]
  simp
theorem u_shr {a : Nat} (h : a < 2 ^ 32) {k : Nat} (hk : k < 32) : ((nI a).toUInt32 >>> ((nI k).toUInt32 &&& Int32.toUInt32 31)).toInt32 = nI (a >>> k) := by
  have e1 : (nI k).toUInt32 &&& Int32.toUInt32 31 = UInt32.ofNat k := by
    have : ∀ k : Fin 32, (nI k.1).toUInt32 &&& Int32.toUInt32 31 = UInt32.ofNat k.1 := by decide +kernel
    exact this ⟨k, hk⟩
  rw [e1]
  apply Int32.toBitVec_inj.mp
  apply BitVec.eq_of_toNat_eq
  show ((nI a).toUInt32 >>> UInt32.ofNat k).toNat = (BitVec.ofNat 32 (a >>> k)).toNat
  have e2 : (nI a).toUInt32.toNat = a := by
    show (BitVec.ofNat 32 a).toNat = a
    rw [BitVec.toNat_ofNat, Nat.mod_eq_of_lt h]
  have h2 : a >>> k < 2 ^ 32 := by
    rw [Nat.shiftRight_eq_div_pow]
    exact Nat.lt_of_le_of_lt (Nat.div_le_self _ _) h
  rw [UInt32.toNat_shiftRight, e2, UInt32.toNat_ofNat_of_lt' (by show k < 2 ^ 32; omega), Nat.mod_eq_of_lt hk, BitVec.toNat_ofNat, Nat.mod_eq_of_lt h2]
def bc1 (n : Nat) : Nat := n - ((n >>> 1) &&& 1431655765)
def bc2 (n : Nat) : Nat := (n &&& 858993459) + ((n >>> 2) &&& 858993459)
def bc3 (n : Nat) : Nat := (n + (n >>> 4)) &&& 252645135
def bc4 (n : Nat) : Nat := n + (n >>> 8)
def bc5 (n : Nat) : Nat := n + (n >>> 16)
def bcN (n : Nat) : Nat := bc5 (bc4 (bc3 (bc2 (bc1 n)))) &&& 63
theorem bc_pair : ∀ a : Fin 256, ∀ b : Fin 256, bcN (256 * a.1 + b.1) = bcN a.1 + bcN b.1 := by decide +kernel
theorem shr_le (n k : Nat) : n >>> k ≤ n := by
  rw [Nat.shiftRight_eq_div_pow]
  exact Nat.div_le_self _ _
theorem bc1_le (n : Nat) : bc1 n ≤ n := Nat.sub_le _ _
theorem bc2_le (n : Nat) : bc2 n ≤ n + n := by
  have h1 := shr_le n 2
  have h2 : n &&& 858993459 ≤ n := Nat.and_le_left
  have h3 : (n >>> 2) &&& 858993459 ≤ n >>> 2 := Nat.and_le_left
  unfold bc2
  omega
theorem bc3_le (n : Nat) : bc3 n ≤ n + n := by
  have h1 := shr_le n 4
  have h2 : (n + (n >>> 4)) &&& 252645135 ≤ n + (n >>> 4) := Nat.and_le_left
  unfold bc3
  omega
theorem bc4_le (n : Nat) : bc4 n ≤ n + n := by
  have h1 := shr_le n 8
  unfold bc4
  omega
theorem bc5_le (n : Nat) : bc5 n ≤ n + n := by
  have h1 := shr_le n 16
  unfold bc5
  omega
theorem bc1_I {n : Nat} (h : n < 2 ^ 31) : nI n - nI ((n >>> 1) &&& 1431655765) = nI (bc1 n) := by
  have h1 := shr_le n 1
  have h3 : (n >>> 1) &&& 1431655765 ≤ n >>> 1 := Nat.and_le_left
  rw [nI_sub _ _ (by omega)]
  rfl
section BC
variable {D : vDD} {m : vMM} {z : vZZ} {Q : Value → vDD → vMM → vZZ → Prop}
theorem r_bc {n : Nat} (h : n < 65536) : Runs MJ6_bitCount_0f7a4 0 [.int (nI n)] [] D m z Q = Q (.int (nI (bcN n))) D m z := by
  have l1 := bc1_le n
  have l2 := bc2_le (bc1 n)
  have l3 := bc3_le (bc2 (bc1 n))
  have l4 := bc4_le (bc3 (bc2 (bc1 n)))
  have g1 := u_shr (a := n) (k := 1) (by omega) (by decide)
  have g2 := u_shr (a := bc1 n) (k := 2) (by omega) (by decide)
  have g3 := u_shr (a := bc2 (bc1 n)) (k := 4) (by omega) (by decide)
  have g4 := u_shr (a := bc3 (bc2 (bc1 n))) (k := 8) (by omega) (by decide)
  have g5 := u_shr (a := bc4 (bc3 (bc2 (bc1 n)))) (k := 16) (by omega) (by decide)
  have f1 := bc1_I (n := n) (by omega)
  have f2 : nI ((bc1 n) &&& 858993459) + nI (((bc1 n) >>> 2) &&& 858993459) = nI (bc2 (bc1 n)) := nI_add _ _
  have f3 : nI (bc2 (bc1 n) + (bc2 (bc1 n) >>> 4) &&& 252645135) = nI (bc3 (bc2 (bc1 n))) := rfl
  have f4 : nI (bc3 (bc2 (bc1 n))) + nI (bc3 (bc2 (bc1 n)) >>> 8) = nI (bc4 (bc3 (bc2 (bc1 n)))) := nI_add _ _
  have f5 : nI (bc4 (bc3 (bc2 (bc1 n)))) + nI (bc4 (bc3 (bc2 (bc1 n))) >>> 16) = nI (bc5 (bc4 (bc3 (bc2 (bc1 n))))) := nI_add _ _
  have f6 : nI (bc2 (bc1 n)) + nI (bc2 (bc1 n) >>> 4) = nI (bc2 (bc1 n) + (bc2 (bc1 n) >>> 4)) := nI_add _ _
  have f7 : nI (bc5 (bc4 (bc3 (bc2 (bc1 n)))) &&& 63) = nI (bcN n) := rfl
  simp only [sJ6_bitCount_0f7a4_0, sJ6_bitCount_0f7a4_1, sJ6_bitCount_0f7a4_2, sJ6_bitCount_0f7a4_3, sJ6_bitCount_0f7a4_4, sJ6_bitCount_0f7a4_7, sJ6_bitCount_0f7a4_8, sJ6_bitCount_0f7a4_9, sJ6_bitCount_0f7a4_10, sJ6_bitCount_0f7a4_11, sJ6_bitCount_0f7a4_14, sJ6_bitCount_0f7a4_15, sJ6_bitCount_0f7a4_16, sJ6_bitCount_0f7a4_17, sJ6_bitCount_0f7a4_18, sJ6_bitCount_0f7a4_21, sJ6_bitCount_0f7a4_22, sJ6_bitCount_0f7a4_23, sJ6_bitCount_0f7a4_24, sJ6_bitCount_0f7a4_25, sJ6_bitCount_0f7a4_26, sJ6_bitCount_0f7a4_27, sJ6_bitCount_0f7a4_28, sJ6_bitCount_0f7a4_29, sJ6_bitCount_0f7a4_32, sJ6_bitCount_0f7a4_33, sJ6_bitCount_0f7a4_34, sJ6_bitCount_0f7a4_35, sJ6_bitCount_0f7a4_36, sJ6_bitCount_0f7a4_38, sJ6_bitCount_0f7a4_39, sJ6_bitCount_0f7a4_40, sJ6_bitCount_0f7a4_41, sJ6_bitCount_0f7a4_42, sJ6_bitCount_0f7a4_43, sJ6_bitCount_0f7a4_45, sJ6_bitCount_0f7a4_46, sJ6_bitCount_0f7a4_47, sJ6_bitCount_0f7a4_48, sJ6_bitCount_0f7a4_49, sJ6_bitCount_0f7a4_51, sJ6_bitCount_0f7a4_52, g1, nI_and, f1, g2, f2, g3, f6, f3, g4, f4, g5, f5, f7]
/-- an int of 16 bits that are R -/
def SB (x : Int32) (R : Nat → Bool) : Prop := ∀ t, x.toBitVec.getLsbD t = (decide (t < 16) && R t)
theorem SB.ext {x : Int32} {R S : Nat → Bool} (h : SB x R) (e : ∀ t, t < 16 → R t = S t) : SB x S := by
  intro t
  rw [h t]
  by_cases ht : t < 16
  · rw [e t ht]
  · rw [decide_eq_false ht, Bool.false_and, Bool.false_and]
theorem SB.or {x y : Int32} {R S : Nat → Bool} (h : SB x R) (h2 : SB y S) : SB (x ||| y) (fun t => R t || S t) := by
  intro t
  rw [Int32.toBitVec_or, BitVec.getLsbD_or, h t, h2 t]
  cases decide (t < 16) <;> simp
theorem SB.sel {x : Int32} {R : Nat → Bool} (h : SB x R) {t : Nat} (ht : t < 16) : selB x t = R t := by
  rw [selB_bv (by omega), h t, decide_eq_true ht, Bool.true_and]
theorem SB.and {x y : Int32} {R S : Nat → Bool} (h : SB x R) (h2 : ∀ t, t < 16 → selB y t = S t) : SB (x &&& y) (fun t => R t && S t) := by
  intro t
  rw [Int32.toBitVec_and, BitVec.getLsbD_and, h t]
  by_cases ht : t < 16
  · rw [← selB_bv (by omega : t < 32), h2 t ht, decide_eq_true ht, Bool.true_and, Bool.true_and]
  · rw [decide_eq_false ht, Bool.false_and, Bool.false_and, Bool.false_and]
theorem SB.zero : SB (nI 0) (fun _ => false) := by
  intro t
  show (0#32).getLsbD t = _
  simp
theorem SB.bit {v : Nat} (hv : v < 16) : SB (nI 1 <<< (nI v &&& 31)) (fun t => t == v) := by
  intro t
  rw [bit1_bv (by omega), BitVec.getLsbD_twoPow, decide_eq_true (by omega : v < 32), Bool.true_and]
  by_cases e : v = t
  · subst e
    dsimp only
    rw [decide_eq_true rfl, decide_eq_true hv, beq_self_eq_true]; rfl
  · dsimp only
    rw [decide_eq_false e, beq_eq_false_iff_ne.mpr (Ne.symm e), Bool.and_false]
theorem SB.nat {x : Int32} {R : Nat → Bool} (h : SB x R) : ∃ n, n < 65536 ∧ x = nI n ∧ ∀ t, t < 16 → n.testBit t = R t := by
  refine ⟨x.toBitVec.toNat, ?_, nI_bv x, fun t ht => ?_⟩
  · have : x.toBitVec.toNat < 2 ^ 16 := by
      apply Nat.lt_pow_two_of_testBit
      intro i hi
      rw [BitVec.testBit_toNat, h i, decide_eq_false (by omega : ¬ i < 16), Bool.false_and]
    exact this
  · rw [BitVec.testBit_toNat, h t, decide_eq_true ht, Bool.true_and]
theorem SB.of {n : Nat} (h : n < 65536) : SB (nI n) (fun t => n.testBit t) := by
  intro t
  show (BitVec.ofNat 32 n).getLsbD t = _
  rw [BitVec.getLsbD_ofNat]
  by_cases ht : t < 16
  · rw [decide_eq_true ht, decide_eq_true (by omega : t < 32)]
  · have : n.testBit t = false := Nat.testBit_lt_two_pow (Nat.lt_of_lt_of_le (show n < 2 ^ 16 from h) (Nat.pow_le_pow_right (by decide) (by omega)))
    dsimp only
    rw [this, Bool.and_false, Bool.and_false]
theorem cntB_add (P : Nat → Bool) (a : Nat) : ∀ n, cntB P (a + n) = cntB P a + cntB (fun t => P (a + t)) n
  | 0 => rfl
  | n + 1 => by
    rw [← Nat.add_assoc, cntB_s, cntB_s, cntB_add P a n, Nat.add_assoc]
theorem bc_byte : ∀ a : Fin 256, bcN a.1 = cntB (fun t => a.1.testBit t) 8 := by decide +kernel
theorem bc_val {n : Nat} (h : n < 65536) : bcN n = cntB (fun t => n.testBit t) 16 := by
  have e : n = 256 * (n / 256) + n % 256 := by omega
  have h1 := bc_pair ⟨n / 256, by omega⟩ ⟨n % 256, by omega⟩
  have h2 := bc_byte ⟨n / 256, by omega⟩
  have h3 := bc_byte ⟨n % 256, by omega⟩
  simp only [] at h1 h2 h3
  have tb : ∀ j, n.testBit j = if j < 8 then (n % 256).testBit j else (n / 256).testBit (j - 8) := by
    intro j
    have := Nat.testBit_two_pow_mul_add (n / 256) (b := n % 256) (i := 8) (by omega) j
    rw [← this]
    congr 1
  rw [← e] at h1
  rw [h1, h2, h3, cntB_add _ 8 8, Nat.add_comm]
  congr 1
  · exact cntB_ext 8 (fun k hk => by rw [tb k, if_pos hk])
  · exact cntB_ext 8 (fun k hk => by rw [tb (8 + k), if_neg (by omega), (by omega : 8 + k - 8 = k)])
theorem c_bitCount {x : Int32} {R : Nat → Bool} (h : SB x R) : Runs MJ6_bitCount_0f7a4 0 [.int x] [] D m z Q = Q (.int (nI (cntB R 16))) D m z := by
  obtain ⟨n, hn, rfl, ht⟩ := h.nat
  rw [r_bc hn, bc_val hn, cntB_ext 16 ht]
theorem SB.bit0 {x : Int32} {R : Nat → Bool} (h : SB x R) {t : Nat} (ht : t < 16) : (x &&& (nI 1 <<< (nI t &&& 31)) = nI 0) = (R t = false) := by
  have hb := h.and (S := fun u => u == t) (fun u hu => (SB.bit ht).sel hu)
  apply propext
  constructor
  · intro e
    have h1 := hb t
    rw [e, SB.zero t, decide_eq_true ht] at h1
    dsimp only at h1
    rw [beq_self_eq_true, Bool.and_true, Bool.true_and, Bool.true_and] at h1
    exact h1.symm
  · intro e
    apply Int32.toBitVec_inj.mp
    apply BitVec.eq_of_getLsbD_eq
    intro i hi
    rw [hb i, SB.zero i]
    dsimp only
    by_cases e2 : i = t
    · subst e2
      rw [e]
      simp
    · rw [beq_eq_false_iff_ne.mpr e2]
      simp
end BC
/-- the things for skills, by bits -/
theorem tfF_SB {f : Nat → Int32} {sk : Int32} : ∀ n, n ≤ 16 → SB (tfF f sk n) (fun t => decide (t < n) && forF f sk t)
  | 0, _ => SB.zero.ext (fun t _ => by simp)
  | n + 1, h => by
    have ih := tfF_SB (f := f) (sk := sk) n (by omega)
    unfold tfF
    cases hf : forF f sk n
    · rw [if_neg (by decide)]
      refine ih.ext (fun t _ => ?_)
      by_cases e : t = n
      · subst e; rw [hf, Bool.and_false, Bool.and_false]
      · by_cases e2 : t < n
        · rw [decide_eq_true e2, decide_eq_true (by omega : t < n + 1)]
        · rw [decide_eq_false e2, decide_eq_false (by omega : ¬ t < n + 1)]
    · rw [if_pos rfl]
      refine (ih.or (SB.bit (by omega : n < 16))).ext (fun t _ => ?_)
      by_cases e : t = n
      · subst e; rw [hf, beq_self_eq_true, Bool.or_true, decide_eq_true (by omega : t < t + 1), Bool.and_true]
      · rw [beq_eq_false_iff_ne.mpr e, Bool.or_false]
        by_cases e2 : t < n
        · rw [decide_eq_true e2, decide_eq_true (by omega : t < n + 1)]
        · rw [decide_eq_false e2, decide_eq_false (by omega : ¬ t < n + 1)]
