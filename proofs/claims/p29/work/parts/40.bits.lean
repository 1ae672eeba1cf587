/-! bits -/
theorem and1_iff (y : Int32) : (y &&& nI 1 = nI 1) ↔ y.toBitVec.getLsbD 0 = true := by
  have h1 : (nI 1).toBitVec = 1#32 := by decide +kernel
  constructor
  · intro h
    have h2 := congrArg (fun x => x.toBitVec.getLsbD 0) h
    simp only [Int32.toBitVec_and, h1, BitVec.getLsbD_and] at h2
    revert h2
    cases y.toBitVec.getLsbD 0
    · decide
    · intro _; rfl
  · intro h
    apply Int32.toBitVec_inj.mp
    rw [Int32.toBitVec_and, h1]
    apply BitVec.eq_of_getLsbD_eq
    intro i hi
    rw [BitVec.getLsbD_and]
    by_cases e : i = 0
    · subst e; rw [h]; rfl
    · have : (1#32).getLsbD i = false := by
        rw [BitVec.getLsbD_one]
        simp [e]
      rw [this, Bool.and_false]
theorem sh32 : ∀ t : Fin 32, ((nI t.1 &&& 31).toBitVec.smod 32) = BitVec.ofNat 32 t.1 := by decide +kernel
theorem selB_bv {x : Int32} {t : Nat} (h : t < 32) : selB x t = x.toBitVec.getLsbD t := by
  unfold selB
  rw [Bool.eq_iff_iff, beq_iff_eq, and1_iff, Int32.toBitVec_shiftRight, sh32 ⟨t, h⟩, BitVec.sshiftRight_eq', BitVec.toNat_ofNat, Nat.mod_eq_of_lt (by omega), BitVec.getLsbD_sshiftRight]
  simp
  omega
theorem bit1_bv {v : Nat} (h : v < 32) : (nI 1 <<< (nI v &&& 31)).toBitVec = BitVec.twoPow 32 v := by
  rw [Int32.toBitVec_shiftLeft, sh32 ⟨v, h⟩, BitVec.shiftLeft_eq', BitVec.toNat_ofNat, Nat.mod_eq_of_lt (by omega)]
  have : (nI 1).toBitVec = 1#32 := by decide +kernel
  rw [this, BitVec.twoPow_eq]
theorem selB_out {x : Int32} {t v : Nat} (ht : t < 32) (hv : v < 32) : selB (x &&& ((nI 1 <<< (nI v &&& 31)) ^^^ m1)) t = (selB x t && !(t == v)) := by
  have h1 : m1.toBitVec = BitVec.allOnes 32 := by decide +kernel
  rw [selB_bv ht, selB_bv ht, Int32.toBitVec_and, Int32.toBitVec_xor, bit1_bv hv, h1, BitVec.getLsbD_and, BitVec.getLsbD_xor, BitVec.getLsbD_twoPow, BitVec.getLsbD_allOnes]
  have e1 : decide (v < 32) = true := decide_eq_true hv
  have e2 : decide (t < 32) = true := decide_eq_true ht
  rw [e1, e2, Bool.true_and, Bool.xor_true]
  congr 2
  rw [Bool.eq_iff_iff, decide_eq_true_eq, beq_iff_eq]
  exact eq_comm
theorem sel255 {g : Nat} (h : g < 9) : selB (nI 255) g = decide (g < 8) := by
  have : ∀ g : Fin 9, selB (nI 255) g.1 = decide (g.1 < 8) := by decide +kernel
  exact this ⟨g, h⟩
theorem sel511 {g : Nat} (h : g < 9) : selB (nI 511) g = true := by
  have : ∀ g : Fin 9, selB (nI 511) g.1 = true := by decide +kernel
  exact this ⟨g, h⟩
theorem sel65535 {g : Nat} (h : g < 16) : selB (nI 65535) g = true := by
  have : ∀ g : Fin 16, selB (nI 65535) g.1 = true := by decide +kernel
  exact this ⟨g, h⟩
theorem selAway {i g : Nat} (hi : i < 8) (h : g < 9) : selB (nI 255 &&& ((nI 1 <<< (nI i &&& 31)) ^^^ m1)) g = (decide (g < 8) && !(g == i)) := by
  rw [selB_out (by omega) (by omega), sel255 h]
theorem selBehind {f g : Nat} (hf : f < 8) (h : g < 9) : selB (nI 255 &&& (((nI 2 <<< (nI f &&& 31)) - nI 1) ^^^ m1)) g = (decide (g < 8) && decide (f < g)) := by
  have : ∀ f : Fin 8, ∀ g : Fin 9, selB (nI 255 &&& (((nI 2 <<< (nI f.1 &&& 31)) - nI 1) ^^^ m1)) g.1 = (decide (g.1 < 8) && decide (f.1 < g.1)) := by decide +kernel
  exact this ⟨f, hf⟩ ⟨g, h⟩
/-! what fixers can take; the plans as functions -/
def ableF (f : Nat → Int32) (nT : Nat) : Nat → Nat → Bool := fun g t => decide (t < nT) && canF f g t
def moreF (f : Nat → Int32) (nT s : Nat) : Nat → Bool := fun t => decide (t < nT) && (wwpF f t && (nsF f t 0 == nI s))
def svF (R : Nat → Nat → Bool) (n : Nat) : Nat := mnR R 16 n (fun _ => false)
/-- those from a fixer on, with things of a set -/
def behF (A : Nat → Nat → Bool) (n a : Nat) (S : Nat → Bool) : Nat := svF (fun i t => A (a + i) t && S t) (n - a)
def lowF (A : Nat → Nat → Bool) (n g : Nat) (S : Nat → Bool) (need : Int32) : Nat → Nat → Int32
  | 0, _ => m6
  | k + 1, t => if (A g t && (S t && (nI 1 + nI (behF A n (g + 1) (fun u => S u && !(u == t))) == need))) = true then nI t else lowF A n g S need k (t + 1)
def plS (A : Nat → Nat → Bool) (n : Nat) : Nat → (Nat → Bool) × Int32
  | 0 => (fun _ => true, nI (behF A n 0 (fun _ => true)))
  | g + 1 => if lowF A n g (plS A n g).1 (plS A n g).2 16 0 = m6 then plS A n g else (fun u => (plS A n g).1 u && !(u == (lowF A n g (plS A n g).1 (plS A n g).2 16 0).toNatClampNeg), (plS A n g).2 - nI 1)
def plV (A : Nat → Nat → Bool) (n g : Nat) : Int32 := lowF A n g (plS A n g).1 (plS A n g).2 16 0
def bsV (f : Nat → Int32) (nF nT s : Nat) : Nat := svF (fun g t => if g = nF then moreF f nT s t else ableF f nT g t) (nF + 1)
def bsF (f : Nat → Int32) (nF nT : Nat) : Nat → Int32 × Int32
  | 0 => (m6, m1)
  | s + 1 => if nI (bsV f nF nT s) ≤ (bsF f nF nT s).2 then bsF f nF nT s else (nI s, nI (bsV f nF nT s))
def goF (P : Nat → Int32) (f : Nat → Int32) : Nat → Nat × (Nat → Int32)
  | 0 => (0, f)
  | i + 1 => if P i = m6 then goF P f i else if inStF (goF P f i).2 (nsF (goF P f i).2 (P i).toNatClampNeg 2) = true then ((goF P f i).1 + 1, takesF (goF P f i).2 i (P i).toNatClampNeg) else goF P f i
theorem lowF_spec {A : Nat → Nat → Bool} {n g : Nat} {S : Nat → Bool} {need : Int32} : ∀ k t, lowF A n g S need k t = m6 ∨ ∃ u, t ≤ u ∧ u < t + k ∧ lowF A n g S need k t = nI u ∧ A g u = true ∧ S u = true
  | 0, t => Or.inl rfl
  | k + 1, t => by
    unfold lowF
    split
    · rename_i h
      simp only [Bool.and_eq_true] at h
      exact Or.inr ⟨t, by omega, by omega, rfl, h.1, h.2.1⟩
    · rcases lowF_spec (A := A) (n := n) (g := g) (S := S) (need := need) k (t + 1) with h | ⟨u, h1, h2, h3⟩
      · exact Or.inl h
      · exact Or.inr ⟨u, by omega, by omega, h3⟩
