/-! the flat row by fixers, things and the rest: reading and writing -/
def gG (f : Nat → Int32) (k : Nat) : Int32 := f k
def gF (f : Nat → Int32) (i k : Nat) : Int32 := f (10 + 6 * i + k)
def gT (f : Nat → Int32) (t k : Nat) : Int32 := f (58 + 18 * t + k)
def sG (f : Nat → Int32) (k : Nat) (v : Int32) : Nat → Int32 := upd f k v
def sF (f : Nat → Int32) (i k : Nat) (v : Int32) : Nat → Int32 := upd f (10 + 6 * i + k) v
def sT (f : Nat → Int32) (t k : Nat) (v : Int32) : Nat → Int32 := upd f (58 + 18 * t + k) v
section FLAT
variable {f : Nat → Int32} {i j t u k k' : Nat} {v : Int32}
theorem gF_sF : gF (sF f i k v) i k = v := upd_eq _ _ _
theorem gF_sFk (h : k' ≠ k) : gF (sF f i k v) i k' = gF f i k' := upd_ne _ _ (by omega)
theorem gF_sFi (h : j ≠ i) (h1 : k < 6) (h2 : k' < 6) : gF (sF f i k v) j k' = gF f j k' := upd_ne _ _ (by omega)
theorem gF_sT (h : i < 8) (h1 : k < 6) : gF (sT f t k' v) i k = gF f i k := upd_ne _ _ (by omega)
theorem gF_sG (h : k' < 10 ∨ 346 ≤ k') (h2 : i < 8) (h1 : k < 6) : gF (sG f k' v) i k = gF f i k := upd_ne _ _ (by omega)
theorem gT_sT : gT (sT f t k v) t k = v := upd_eq _ _ _
theorem gT_sTk (h : k' ≠ k) : gT (sT f t k v) t k' = gT f t k' := upd_ne _ _ (by omega)
theorem gT_sTt (h : u ≠ t) (h1 : k < 18) (h2 : k' < 18) : gT (sT f t k v) u k' = gT f u k' := upd_ne _ _ (by omega)
theorem gT_sF (h : i < 8) (h1 : k' < 6) : gT (sF f i k' v) t k = gT f t k := upd_ne _ _ (by omega)
theorem gT_sG (h : k' < 10 ∨ 346 ≤ k') (h2 : t < 16) (h1 : k < 18) : gT (sG f k' v) t k = gT f t k := upd_ne _ _ (by omega)
theorem gG_sG : gG (sG f k v) k = v := upd_eq _ _ _
theorem gG_sGk (h : k' ≠ k) : gG (sG f k v) k' = gG f k' := upd_ne _ _ h
theorem gG_sF (h : k' < 10 ∨ 346 ≤ k') (h2 : i < 8) (h1 : k < 6) : gG (sF f i k v) k' = gG f k' := upd_ne _ _ (by omega)
theorem gG_sT (h : k' < 10 ∨ 346 ≤ k') (h2 : t < 16) (h1 : k < 18) : gG (sT f t k v) k' = gG f k' := upd_ne _ _ (by omega)
variable {m : vMM} {x : Int32}
end FLAT
/-! what the model's slot does, as functions of the row -/
def testedF (f : Nat → Int32) (t : Nat) : Bool := gT f t 2 == gT f t 1
def nsF (f : Nat → Int32) (t w : Nat) : Int32 := if testedF f t = true then (if w = 0 then nI 5 else if w = 1 then gG f 1 else m6) else gT f t (6 + 3 * (gT f t 2).toNatClampNeg + w)
def inStF (f : Nat → Int32) (p : Int32) : Bool := p == m6 || decide (nI 0 < gG f (6 + p.toNatClampNeg))
def hasF (f : Nat → Int32) (i : Nat) (s : Int32) : Bool := ((gF f i 0 >>> (s &&& 31)) &&& nI 1) == nI 1
def freeF (f : Nat → Int32) (i : Nat) : Bool := gF f i 2 == nI 1 && gF f i 3 == m6
def wwpF (f : Nat → Int32) (t : Nat) : Bool := gT f t 0 == nI 0 && inStF f (nsF f t 2)
def canF (f : Nat → Int32) (i t : Nat) : Bool := freeF f i && (wwpF f t && hasF f i (nsF f t 0))
def cntS (f : Nat → Int32) (h : Int32) : Nat → Nat
  | 0 => 0
  | n + 1 => cntS f h n + (if gT f n 0 = h then 1 else 0)
def wA (f : Nat → Int32) (t : Nat) : Nat → Int32 := sT (sT f t 0 (nI 0)) t 3 (nI 0)
def outP (f : Nat → Int32) (p : Int32) : Nat → Int32 := if p = m6 then f else sG f (6 + p.toNatClampNeg) (gG f (6 + p.toNatClampNeg) - nI 1)
def takesF (f : Nat → Int32) (i t : Nat) : Nat → Int32 := sF (sF (sT (sT (outP f (nsF f t 2)) t 0 (nI 1)) t 3 (nI 0)) i 3 (nI t)) i 4 (nsF f t 1)
def endsTestF (f : Nat → Int32) (t : Nat) : Nat → Int32 := if gT f t 4 < gT f t 5 then wA (sT (sG (sG (sT f t 4 (gT f t 4 + nI 1)) 5 (gG f 5 + nI 1)) 348 (gG f 348 + nI 1)) t 2 (gT f t 1 - nI 1)) t else sG (sT f t 0 (nI 2)) 346 (gG f 346 + nI 1)
def offF (f : Nat → Int32) (i : Nat) : Nat → Int32 := sF (sF (sF f i 3 m6) i 4 (nI 0)) i 5 (gF f i 5 + nI 1)
def endsStepF (f : Nat → Int32) (i t : Nat) : Nat → Int32 := if testedF f t = true then endsTestF (offF f i) t else wA (sT (offF f i) t 2 (gT f t 2 + nI 1)) t
def workF (i : Nat) (f : Nat → Int32) : Nat → Int32 := if gF f i 3 = m6 then f else if gF f i 4 - gF f i 1 ≤ nI 0 then endsStepF (sF f i 4 (gF f i 4 - gF f i 1)) i (gF f i 3).toNatClampNeg else sF f i 4 (gF f i 4 - gF f i 1)
def lgF (f : Nat → Int32) (i : Nat) : Nat → Int32
  | 0 => m6
  | n + 1 => if (canF f i n && (lgF f i n == m6 || decide (gT f (lgF f i n).toNatClampNeg 3 < gT f n 3))) = true then nI n else lgF f i n
def takeF (n : Nat) (i : Nat) (f : Nat → Int32) : Nat → Int32 := if freeF f i = true then (if lgF f i n = m6 then f else takesF f i (lgF f i n).toNatClampNeg) else f
def waitF (t : Nat) (f : Nat → Int32) : Nat → Int32 := if gT f t 0 = nI 0 then (if gG f 0 < gT f t 3 + nI 1 then sG (sT (sT f t 3 (gT f t 3 + nI 1)) t 0 (nI 3)) 347 (gG f 347 + nI 1) else sT f t 3 (gT f t 3 + nI 1)) else f
def nFf (f : Nat → Int32) : Nat := (gG f 2).toNatClampNeg
def nTf (f : Nat → Int32) : Nat := (gG f 3).toNatClampNeg
def worksF (f : Nat → Int32) : Nat → Int32 := lpF workF (nFf f) f
def takeAllF (f : Nat → Int32) : Nat → Int32 := lpF (takeF (nTf f)) (nFf f) f
def waitOnF (f : Nat → Int32) : Nat → Int32 := lpF waitF (nTf f) f
def slotF (f : Nat → Int32) : Nat → Int32 := sG (waitOnF (takeAllF (worksF f))) 4 (gG (waitOnF (takeAllF (worksF f))) 4 + nI 1)
def zeroF (f : Nat → Int32) : Nat → Int32 := sG (sG (sG f 346 (nI 0)) 347 (nI 0)) 348 (nI 0)
def slotsF (n : Nat) (f : Nat → Int32) : Nat → Int32 := lpF (fun _ => slotF) n f
def passesF (n : Nat) (f : Nat → Int32) : Nat → Int32 := slotsF n (zeroF f)
/-! a state that makes sense -/
def WT (f : Nat → Int32) (t : Nat) : Prop := ∃ n s : Nat, (gT f t 2 = nI n ∧ gT f t 1 = nI s ∧ n ≤ s ∧ 1 ≤ s ∧ s ≤ 4) ∧
  (∀ k, k < s → (∃ q, q < 5 ∧ gT f t (6 + 3 * k + 0) = nI q) ∧ (gT f t (6 + 3 * k + 2) = m6 ∨ ∃ p, p < 4 ∧ gT f t (6 + 3 * k + 2) = nI p)) ∧
  (∃ q, q < 4 ∧ gT f t 0 = nI q) ∧ (gT f t 0 = nI 0 → ∃ w, w ≤ 50 ∧ gT f t 3 = nI w)
def WX (f : Nat → Int32) (nT i : Nat) : Prop := (gF f i 3 = m6 ∨ ∃ t, t < nT ∧ gF f i 3 = nI t ∧ gT f t 0 = nI 1) ∧ (gF f i 2 = nI 0 ∨ gF f i 2 = nI 1)
def WF (f : Nat → Int32) (nF nT : Nat) : Prop := (gG f 2 = nI nF ∧ nF ≤ 8 ∧ gG f 3 = nI nT ∧ nT ≤ 16) ∧ (∃ p, 1 ≤ p ∧ p ≤ 50 ∧ gG f 0 = nI p) ∧ (∀ t, t < nT → WT f t) ∧ (∀ i, i < nF → WX f nT i) ∧ ∀ i j, i < nF → j < nF → i ≠ j → gF f i 3 = gF f j 3 → gF f i 3 = m6
