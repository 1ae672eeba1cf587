/-! rows: an instruction, an equation of runs -/
def m1 : Int32 := -1
def m2 : Int32 := -2
def m3 : Int32 := -3
def m4 : Int32 := -4
def m5 : Int32 := -5
def m6 : Int32 := -6
section ROWS
variable {y zm : vMD} {pc : Nat} {L L' st rest : List Value} {D : vDD} {mm : vMM} {z : vZZ} {Q : Value → vDD → vMM → vZZ → Prop}
theorem R_mk {i : Jvm.ClassFile.Instr} {len pc' : Nat} {L' st' : List Value} {D' : vDD} {m' : vMM} {z' : vZZ} (hd : decode (mbc y) pc = .ok (i, len)) (h : nxi y i len pc L st D mm z = gO pc' L' st' D' m' z') : Runs y pc L st D mm z Q = Runs y pc' L' st' D' m' z' Q :=
  Runs_go (by unfold nxt; dsimp only; rw [hd]; exact h)
theorem R_if {i : Jvm.ClassFile.Instr} {len : Nat} {pc' : Nat} {L' st' : List Value} {D' : vDD} {m' : vMM} {z' : vZZ} {c : Bool} {P : Prop} (hP : c = true ↔ P) (hd : decode (mbc y) pc = .ok (i, len)) (h : nxi y i len pc L st D mm z = if c = true then gO pc' L' st' D' m' z' else none) : Runs y pc L st D mm z Q = (P ∧ Runs y pc' L' st' D' m' z' Q) := by
  by_cases hc : c = true
  · rw [if_pos hc] at h
    rw [R_mk hd h]
    exact propext ⟨fun h => ⟨hP.mp hc, h⟩, fun h => h.2⟩
  · rw [if_neg hc] at h
    rw [Runs_no (by unfold nxt; dsimp only; rw [hd]; exact h)]
    exact propext ⟨False.elim, fun h => hc (hP.mpr h.1)⟩
theorem R_iconst {n : Int} {v : Int32} (hd : decode (mbc y) pc = .ok (.iconst n, 1)) (hv : Int32.ofInt n = v) : Runs y pc L st D mm z Q = Runs y (pc + 1) L (.int v :: st) D mm z Q := R_mk hd (by rw [← hv]; rfl)
theorem R_bipush {n : Int} {v : Int32} (hd : decode (mbc y) pc = .ok (.bipush n, 2)) (hv : (Int8.ofInt n).toInt32 = v) : Runs y pc L st D mm z Q = Runs y (pc + 2) L (.int v :: st) D mm z Q := R_mk hd (by rw [← hv]; rfl)
theorem R_sipush {n : Int} {v : Int32} (hd : decode (mbc y) pc = .ok (.sipush n, 3)) (hv : (Int16.ofInt n).toInt32 = v) : Runs y pc L st D mm z Q = Runs y (pc + 3) L (.int v :: st) D mm z Q := R_mk hd (by rw [← hv]; rfl)
theorem R_lconst {n : Fin 2} {v : Int64} (hd : decode (mbc y) pc = .ok (.lconst n, 1)) (hv : Int64.ofNat (n : Nat) = v) : Runs y pc L st D mm z Q = Runs y (pc + 1) L (.long v :: st) D mm z Q := R_mk hd (by rw [← hv]; rfl)
theorem R_ldc {idx : Nat} {v : Int32} (hd : decode (mbc y) pc = .ok (.ldc idx, 2)) (hv : lk (cL (mow y)) idx = some v) : Runs y pc L st D mm z Q = Runs y (pc + 2) L (.int v :: st) D mm z Q := R_mk hd (by simp only [nxi, hv]; rfl)
theorem R_ldcw {idx : Nat} {v : Int32} (hd : decode (mbc y) pc = .ok (.ldc_w idx, 3)) (hv : lk (cL (mow y)) idx = some v) : Runs y pc L st D mm z Q = Runs y (pc + 3) L (.int v :: st) D mm z Q := R_mk hd (by simp only [nxi, hv]; rfl)
theorem R_ldc2 {idx : Nat} {v : Int64} (hd : decode (mbc y) pc = .ok (.ldc2_w idx, 3)) (hv : lk (lL (mow y)) idx = some v) : Runs y pc L st D mm z Q = Runs y (pc + 3) L (.long v :: st) D mm z Q := R_mk hd (by simp only [nxi, hv]; rfl)
theorem R_iload_n {k : Fin 4} {x : Int32} (hd : decode (mbc y) pc = .ok (.iload_n k, 1)) (h : L[(k : Nat)]? = some (.int x)) : Runs y pc L st D mm z Q = Runs y (pc + 1) L (.int x :: st) D mm z Q := R_mk hd (by simp only [nxi, gLd, h]; rfl)
theorem R_iload {k : Nat} {x : Int32} (hd : decode (mbc y) pc = .ok (.iload k, 2)) (h : L[k]? = some (.int x)) : Runs y pc L st D mm z Q = Runs y (pc + 2) L (.int x :: st) D mm z Q := R_mk hd (by simp only [nxi, gLd, h]; rfl)
theorem R_aload_n {k : Fin 4} {x : Nat} (hd : decode (mbc y) pc = .ok (.aload_n k, 1)) (h : L[(k : Nat)]? = some (.ref x)) : Runs y pc L st D mm z Q = Runs y (pc + 1) L (.ref x :: st) D mm z Q := R_mk hd (by simp only [nxi, gLdR, h]; rfl)
theorem R_aload {k x : Nat} (hd : decode (mbc y) pc = .ok (.aload k, 2)) (h : L[k]? = some (.ref x)) : Runs y pc L st D mm z Q = Runs y (pc + 2) L (.ref x :: st) D mm z Q := R_mk hd (by simp only [nxi, gLdR, h]; rfl)
theorem R_lload_n {k : Fin 4} {x : Int64} (hd : decode (mbc y) pc = .ok (.lload_n k, 1)) (h : L[(k : Nat)]? = some (.long x)) : Runs y pc L st D mm z Q = Runs y (pc + 1) L (.long x :: st) D mm z Q := R_mk hd (by simp only [nxi, gLdL, h]; rfl)
theorem R_lload {k : Nat} {x : Int64} (hd : decode (mbc y) pc = .ok (.lload k, 2)) (h : L[k]? = some (.long x)) : Runs y pc L st D mm z Q = Runs y (pc + 2) L (.long x :: st) D mm z Q := R_mk hd (by simp only [nxi, gLdL, h]; rfl)
theorem R_istore_n {k : Fin 4} {x : Int32} (hd : decode (mbc y) pc = .ok (.istore_n k, 1)) (ho : okS y L k = true) (h : L.set k (.int x) = L') : Runs y pc L (.int x :: st) D mm z Q = Runs y (pc + 1) L' st D mm z Q := R_mk hd (by simp only [nxi, gSt, ho, ← h]; rfl)
theorem R_istore {k : Nat} {x : Int32} (hd : decode (mbc y) pc = .ok (.istore k, 2)) (ho : okS y L k = true) (h : L.set k (.int x) = L') : Runs y pc L (.int x :: st) D mm z Q = Runs y (pc + 2) L' st D mm z Q := R_mk hd (by simp only [nxi, gSt, ho, ← h]; rfl)
theorem R_astore_n {k : Fin 4} {x : Nat} (hd : decode (mbc y) pc = .ok (.astore_n k, 1)) (ho : okS y L k = true) (h : L.set k (.ref x) = L') : Runs y pc L (.ref x :: st) D mm z Q = Runs y (pc + 1) L' st D mm z Q := R_mk hd (by simp only [nxi, gStR, ho, ← h]; rfl)
theorem R_astore {k x : Nat} (hd : decode (mbc y) pc = .ok (.astore k, 2)) (ho : okS y L k = true) (h : L.set k (.ref x) = L') : Runs y pc L (.ref x :: st) D mm z Q = Runs y (pc + 2) L' st D mm z Q := R_mk hd (by simp only [nxi, gStR, ho, ← h]; rfl)
theorem R_lstore_n {k : Fin 4} {x : Int64} (hd : decode (mbc y) pc = .ok (.lstore_n k, 1)) (ho : okS2 y L k = true) (h : (L.set k (.long x)).set (k + 1) vJ = L') : Runs y pc L (.long x :: st) D mm z Q = Runs y (pc + 1) L' st D mm z Q := R_mk hd (by simp only [nxi, gStL, ho, ← h]; rfl)
theorem R_lstore {k : Nat} {x : Int64} (hd : decode (mbc y) pc = .ok (.lstore k, 2)) (ho : okS2 y L k = true) (h : (L.set k (.long x)).set (k + 1) vJ = L') : Runs y pc L (.long x :: st) D mm z Q = Runs y (pc + 2) L' st D mm z Q := R_mk hd (by simp only [nxi, gStL, ho, ← h]; rfl)
theorem R_iinc {k : Nat} {n : Int} {x v : Int32} (hd : decode (mbc y) pc = .ok (.iinc k n, 3)) (hx : L[k]? = some (.int x)) (ho : okS y L k = true) (hv : Int32.ofInt n = v) (h : L.set k (.int (x + v)) = L') : Runs y pc L st D mm z Q = Runs y (pc + 3) L' st D mm z Q := R_mk hd (by simp only [nxi, hx, ho, ← h, ← hv]; rfl)
theorem R_iadd {x v : Int32} (hd : decode (mbc y) pc = .ok (.iadd, 1)) : Runs y pc L (.int v :: .int x :: st) D mm z Q = Runs y (pc + 1) L (.int (x + v) :: st) D mm z Q := R_mk hd rfl
theorem R_isub {x v : Int32} (hd : decode (mbc y) pc = .ok (.isub, 1)) : Runs y pc L (.int v :: .int x :: st) D mm z Q = Runs y (pc + 1) L (.int (x - v) :: st) D mm z Q := R_mk hd rfl
theorem R_imul {x v : Int32} (hd : decode (mbc y) pc = .ok (.imul, 1)) : Runs y pc L (.int v :: .int x :: st) D mm z Q = Runs y (pc + 1) L (.int (x * v) :: st) D mm z Q := R_mk hd rfl
theorem R_idiv {x v : Int32} (hd : decode (mbc y) pc = .ok (.idiv, 1)) : Runs y pc L (.int v :: .int x :: st) D mm z Q = (¬ v = 0 ∧ Runs y (pc + 1) L (.int (x / v) :: st) D mm z Q) := R_if (c := !decide (v = 0)) (by simp) hd rfl
theorem R_irem {x v : Int32} (hd : decode (mbc y) pc = .ok (.irem, 1)) : Runs y pc L (.int v :: .int x :: st) D mm z Q = (¬ v = 0 ∧ Runs y (pc + 1) L (.int (x - x / v * v) :: st) D mm z Q) := R_if (c := !decide (v = 0)) (by simp) hd rfl
theorem R_dupx2 {x i : Int32} {a : Nat} (hd : decode (mbc y) pc = .ok (.dup_x2, 1)) : Runs y pc L (.int x :: .int i :: .ref a :: st) D mm z Q = Runs y (pc + 1) L (.int x :: .int i :: .ref a :: .int x :: st) D mm z Q := R_mk hd rfl
theorem R_iand {x v : Int32} (hd : decode (mbc y) pc = .ok (.iand, 1)) : Runs y pc L (.int v :: .int x :: st) D mm z Q = Runs y (pc + 1) L (.int (x &&& v) :: st) D mm z Q := R_mk hd rfl
theorem R_ior {x v : Int32} (hd : decode (mbc y) pc = .ok (.ior, 1)) : Runs y pc L (.int v :: .int x :: st) D mm z Q = Runs y (pc + 1) L (.int (x ||| v) :: st) D mm z Q := R_mk hd rfl
theorem R_ixor {x v : Int32} (hd : decode (mbc y) pc = .ok (.ixor, 1)) : Runs y pc L (.int v :: .int x :: st) D mm z Q = Runs y (pc + 1) L (.int (x ^^^ v) :: st) D mm z Q := R_mk hd rfl
theorem R_ishl {x v : Int32} (hd : decode (mbc y) pc = .ok (.ishl, 1)) : Runs y pc L (.int v :: .int x :: st) D mm z Q = Runs y (pc + 1) L (.int (x <<< (v &&& 31)) :: st) D mm z Q := R_mk hd rfl
theorem R_ishr {x v : Int32} (hd : decode (mbc y) pc = .ok (.ishr, 1)) : Runs y pc L (.int v :: .int x :: st) D mm z Q = Runs y (pc + 1) L (.int (x >>> (v &&& 31)) :: st) D mm z Q := R_mk hd rfl
theorem R_iushr {x v : Int32} (hd : decode (mbc y) pc = .ok (.iushr, 1)) : Runs y pc L (.int v :: .int x :: st) D mm z Q = Runs y (pc + 1) L (.int (x.toUInt32 >>> (v.toUInt32 &&& Int32.toUInt32 31)).toInt32 :: st) D mm z Q := R_mk hd rfl
theorem R_land {x v : Int64} (hd : decode (mbc y) pc = .ok (.land, 1)) : Runs y pc L (.long v :: .long x :: st) D mm z Q = Runs y (pc + 1) L (.long (x &&& v) :: st) D mm z Q := R_mk hd rfl
theorem R_lor {x v : Int64} (hd : decode (mbc y) pc = .ok (.lor, 1)) : Runs y pc L (.long v :: .long x :: st) D mm z Q = Runs y (pc + 1) L (.long (x ||| v) :: st) D mm z Q := R_mk hd rfl
theorem R_lshl {x : Int64} {v : Int32} (hd : decode (mbc y) pc = .ok (.lshl, 1)) : Runs y pc L (.int v :: .long x :: st) D mm z Q = Runs y (pc + 1) L (.long (x <<< (v.toInt64 &&& 63)) :: st) D mm z Q := R_mk hd rfl
theorem R_lushr {x : Int64} {v : Int32} (hd : decode (mbc y) pc = .ok (.lushr, 1)) : Runs y pc L (.int v :: .long x :: st) D mm z Q = Runs y (pc + 1) L (.long (x.toUInt64 >>> (v.toInt64.toUInt64 &&& Int64.toUInt64 63)).toInt64 :: st) D mm z Q := R_mk hd rfl
theorem R_i2l {x : Int32} (hd : decode (mbc y) pc = .ok (.i2l, 1)) : Runs y pc L (.int x :: st) D mm z Q = Runs y (pc + 1) L (.long x.toInt64 :: st) D mm z Q := R_mk hd rfl
theorem R_l2i {x : Int64} (hd : decode (mbc y) pc = .ok (.l2i, 1)) : Runs y pc L (.long x :: st) D mm z Q = Runs y (pc + 1) L (.int x.toInt32 :: st) D mm z Q := R_mk hd rfl
theorem R_lcmp {x v : Int64} (hd : decode (mbc y) pc = .ok (.lcmp, 1)) : Runs y pc L (.long v :: .long x :: st) D mm z Q = Runs y (pc + 1) L (.int (lg_cmp x v) :: st) D mm z Q := R_mk hd rfl
theorem R_dupI {x : Int32} (hd : decode (mbc y) pc = .ok (.dup, 1)) : Runs y pc L (.int x :: st) D mm z Q = Runs y (pc + 1) L (.int x :: .int x :: st) D mm z Q := R_mk hd rfl
theorem R_dupR {x : Nat} (hd : decode (mbc y) pc = .ok (.dup, 1)) : Runs y pc L (.ref x :: st) D mm z Q = Runs y (pc + 1) L (.ref x :: .ref x :: st) D mm z Q := R_mk hd rfl
theorem R_dup2 {x : Int32} {a : Nat} (hd : decode (mbc y) pc = .ok (.dup2, 1)) : Runs y pc L (.int x :: .ref a :: st) D mm z Q = Runs y (pc + 1) L (.int x :: .ref a :: .int x :: .ref a :: st) D mm z Q := R_mk hd rfl
theorem R_popI {x : Int32} (hd : decode (mbc y) pc = .ok (.pop, 1)) : Runs y pc L (.int x :: st) D mm z Q = Runs y (pc + 1) L st D mm z Q := R_mk hd rfl
theorem R_popR {x : Nat} (hd : decode (mbc y) pc = .ok (.pop, 1)) : Runs y pc L (.ref x :: st) D mm z Q = Runs y (pc + 1) L st D mm z Q := R_mk hd rfl
theorem R_goto {off : Int} {t : Nat} (hd : decode (mbc y) pc = .ok (.goto off, 3)) (ht : jmp pc off = some t) : Runs y pc L st D mm z Q = Runs y t L st D mm z Q := R_mk hd (by simp only [nxi, ht]; rfl)
theorem cmpB_ne {P : Prop} {b : Bool} (h : b = true ↔ P) {A B : Prop} [Decidable P] : (if b = true then A else B) = (if P then A else B) := by
  by_cases hp : P
  · rw [if_pos hp, if_pos (h.mpr hp)]
  · rw [if_neg hp, if_neg (fun q => hp (h.mp q))]
theorem R_br {i : Jvm.ClassFile.Instr} {c : Bool} {t : Nat} {P : Prop} [Decidable P] (hP : c = true ↔ P) (hd : decode (mbc y) pc = .ok (i, 3)) (h : nxi y i 3 pc L rest D mm z = gO (if c = true then t else pc + 3) L st D mm z) : Runs y pc L rest D mm z Q = (if P then Runs y t L st D mm z Q else Runs y (pc + 3) L st D mm z Q) := by
  rw [R_mk hd h, ← cmpB_ne hP]
  split <;> rfl
theorem R_ifeq {off : Int} {t : Nat} {x : Int32} (hd : decode (mbc y) pc = .ok (.ifCond .eq off, 3)) (ht : jmp pc off = some t) : Runs y pc L (.int x :: st) D mm z Q = (if x = 0 then Runs y t L st D mm z Q else Runs y (pc + 3) L st D mm z Q) := R_br (c := cmpB .eq x 0) (by simp [cmpB]) hd (by simp only [nxi, ht]; rfl)
theorem R_ifne {off : Int} {t : Nat} {x : Int32} (hd : decode (mbc y) pc = .ok (.ifCond .ne off, 3)) (ht : jmp pc off = some t) : Runs y pc L (.int x :: st) D mm z Q = (if x = 0 then Runs y (pc + 3) L st D mm z Q else Runs y t L st D mm z Q) := by
  rw [R_br (c := cmpB .ne x 0) (P := ¬ x = 0) (t := t) (by simp [cmpB]) hd (by simp only [nxi, ht]; rfl)]
  by_cases h : x = 0 <;> simp [h]
theorem R_iflt {off : Int} {t : Nat} {x : Int32} (hd : decode (mbc y) pc = .ok (.ifCond .lt off, 3)) (ht : jmp pc off = some t) : Runs y pc L (.int x :: st) D mm z Q = (if x < 0 then Runs y t L st D mm z Q else Runs y (pc + 3) L st D mm z Q) := R_br (c := cmpB .lt x 0) (by simp only [cmpB, decide_eq_true_eq]) hd (by simp only [nxi, ht]; rfl)
theorem R_ifge {off : Int} {t : Nat} {x : Int32} (hd : decode (mbc y) pc = .ok (.ifCond .ge off, 3)) (ht : jmp pc off = some t) : Runs y pc L (.int x :: st) D mm z Q = (if 0 ≤ x then Runs y t L st D mm z Q else Runs y (pc + 3) L st D mm z Q) := R_br (c := cmpB .ge x 0) (by simp only [cmpB, decide_eq_true_eq]) hd (by simp only [nxi, ht]; rfl)
theorem R_ifgt {off : Int} {t : Nat} {x : Int32} (hd : decode (mbc y) pc = .ok (.ifCond .gt off, 3)) (ht : jmp pc off = some t) : Runs y pc L (.int x :: st) D mm z Q = (if 0 < x then Runs y t L st D mm z Q else Runs y (pc + 3) L st D mm z Q) := R_br (c := cmpB .gt x 0) (by simp only [cmpB, decide_eq_true_eq]) hd (by simp only [nxi, ht]; rfl)
theorem R_ifle {off : Int} {t : Nat} {x : Int32} (hd : decode (mbc y) pc = .ok (.ifCond .le off, 3)) (ht : jmp pc off = some t) : Runs y pc L (.int x :: st) D mm z Q = (if x ≤ 0 then Runs y t L st D mm z Q else Runs y (pc + 3) L st D mm z Q) := R_br (c := cmpB .le x 0) (by simp only [cmpB, decide_eq_true_eq]) hd (by simp only [nxi, ht]; rfl)
theorem R_iceq {off : Int} {t : Nat} {x v : Int32} (hd : decode (mbc y) pc = .ok (.if_icmp .eq off, 3)) (ht : jmp pc off = some t) : Runs y pc L (.int v :: .int x :: st) D mm z Q = (if x = v then Runs y t L st D mm z Q else Runs y (pc + 3) L st D mm z Q) := R_br (c := cmpB .eq x v) (by simp [cmpB]) hd (by simp only [nxi, ht]; rfl)
theorem R_icne {off : Int} {t : Nat} {x v : Int32} (hd : decode (mbc y) pc = .ok (.if_icmp .ne off, 3)) (ht : jmp pc off = some t) : Runs y pc L (.int v :: .int x :: st) D mm z Q = (if x = v then Runs y (pc + 3) L st D mm z Q else Runs y t L st D mm z Q) := by
  rw [R_br (c := cmpB .ne x v) (P := ¬ x = v) (t := t) (by simp [cmpB]) hd (by simp only [nxi, ht]; rfl)]
  by_cases h : x = v <;> simp [h]
theorem R_iclt {off : Int} {t : Nat} {x v : Int32} (hd : decode (mbc y) pc = .ok (.if_icmp .lt off, 3)) (ht : jmp pc off = some t) : Runs y pc L (.int v :: .int x :: st) D mm z Q = (if x < v then Runs y t L st D mm z Q else Runs y (pc + 3) L st D mm z Q) := R_br (c := cmpB .lt x v) (by simp only [cmpB, decide_eq_true_eq]) hd (by simp only [nxi, ht]; rfl)
theorem R_icge {off : Int} {t : Nat} {x v : Int32} (hd : decode (mbc y) pc = .ok (.if_icmp .ge off, 3)) (ht : jmp pc off = some t) : Runs y pc L (.int v :: .int x :: st) D mm z Q = (if v ≤ x then Runs y t L st D mm z Q else Runs y (pc + 3) L st D mm z Q) := R_br (c := cmpB .ge x v) (by simp only [cmpB, decide_eq_true_eq]) hd (by simp only [nxi, ht]; rfl)
theorem R_icgt {off : Int} {t : Nat} {x v : Int32} (hd : decode (mbc y) pc = .ok (.if_icmp .gt off, 3)) (ht : jmp pc off = some t) : Runs y pc L (.int v :: .int x :: st) D mm z Q = (if v < x then Runs y t L st D mm z Q else Runs y (pc + 3) L st D mm z Q) := R_br (c := cmpB .gt x v) (by simp only [cmpB, decide_eq_true_eq]) hd (by simp only [nxi, ht]; rfl)
theorem R_icle {off : Int} {t : Nat} {x v : Int32} (hd : decode (mbc y) pc = .ok (.if_icmp .le off, 3)) (ht : jmp pc off = some t) : Runs y pc L (.int v :: .int x :: st) D mm z Q = (if x ≤ v then Runs y t L st D mm z Q else Runs y (pc + 3) L st D mm z Q) := R_br (c := cmpB .le x v) (by simp only [cmpB, decide_eq_true_eq]) hd (by simp only [nxi, ht]; rfl)
theorem R_getI {idx a ci j : Nat} (hd : decode (mbc y) pc = .ok (.getfield idx, 3)) (hf : lk (fL (mow y)) idx = some (ci, j)) (hr : rT ci j = false) : Runs y pc L (.ref a :: st) D mm z Q = ((D a).1 = ci ∧ Runs y (pc + 3) L (.int (mm a j) :: st) D mm z Q) := R_if (c := (D a).1 == ci) (by simp) hd (by simp only [nxi, hf, gGet, hr]; rfl)
theorem R_getR {idx a ci j : Nat} (hd : decode (mbc y) pc = .ok (.getfield idx, 3)) (hf : lk (fL (mow y)) idx = some (ci, j)) (hr : rT ci j = true) : Runs y pc L (.ref a :: st) D mm z Q = ((D a).1 = ci ∧ match (D a).2.2 j with
    | some r => Runs y (pc + 3) L (.ref r :: st) D mm z Q
    | none => False) := by
  cases h : (D a).2.2 j with
  | some r => exact R_if (c := (D a).1 == ci) (by simp) hd (by simp only [nxi, hf, gGet, hr, h]; rfl)
  | none =>
    rw [Runs_no (by unfold nxt; dsimp only; rw [hd]; simp only [nxi, hf, gGet, hr, h]; split <;> first | rfl | (split <;> rfl))]
    simp
theorem R_putI {idx a ci j : Nat} {x : Int32} (hd : decode (mbc y) pc = .ok (.putfield idx, 3)) (hf : lk (fL (mow y)) idx = some (ci, j)) (hr : rT ci j = false) (ht : tyN ci j = .int) (hfin : (!(TN ci j).2.2.2 || ((mym y).name == "<init>" && (TN ci j).1 == RN (mow y))) = true) : Runs y pc L (.int x :: .ref a :: st) D mm z Q = ((D a).1 = ci ∧ Runs y (pc + 3) L st D (up2 mm a j x) z Q) := R_if (c := (D a).1 == ci && (!rT ci j && (fits (tyN ci j) (.int x) && narrow (tyN ci j) (.int x) == .int x))) (by rw [hr, ht]; simp [fits, narrow]) hd (by simp only [nxi, hf, gPut, hfin]; rfl)
theorem R_putZ {idx a ci j : Nat} {x : Int32} (hd : decode (mbc y) pc = .ok (.putfield idx, 3)) (hf : lk (fL (mow y)) idx = some (ci, j)) (hr : rT ci j = false) (ht : tyN ci j = .boolean) (hfin : (!(TN ci j).2.2.2 || ((mym y).name == "<init>" && (TN ci j).1 == RN (mow y))) = true) : Runs y pc L (.int x :: .ref a :: st) D mm z Q = (((D a).1 = ci ∧ (x = 0 ∨ x = 1)) ∧ Runs y (pc + 3) L st D (up2 mm a j x) z Q) := R_if (c := (D a).1 == ci && (!rT ci j && (fits (tyN ci j) (.int x) && narrow (tyN ci j) (.int x) == .int x))) (by
    rw [hr, ht]
    simp only [fits, Bool.and_eq_true, beq_iff_eq, Bool.not_false, Bool.or_eq_true, true_and]
    constructor
    · exact fun h => ⟨h.1, h.2.1⟩
    · intro h
      refine ⟨h.1, h.2, ?_⟩
      rcases h.2 with rfl | rfl <;> rfl) hd (by simp only [nxi, hf, gPut, hfin]; rfl)
theorem R_putR {idx a r ci j : Nat} (hd : decode (mbc y) pc = .ok (.putfield idx, 3)) (hf : lk (fL (mow y)) idx = some (ci, j)) (hr : rT ci j = true) (hfin : (!(TN ci j).2.2.2 || ((mym y).name == "<init>" && (TN ci j).1 == RN (mow y))) = true) : Runs y pc L (.ref r :: .ref a :: st) D mm z Q = ((D a).1 = ci ∧ Runs y (pc + 3) L st (upR D a j (some r)) mm z Q) := R_if (c := (D a).1 == ci && rT ci j) (by rw [hr]; simp) hd (by simp only [nxi, hf, gPut, hfin]; rfl)
theorem R_iald {a : Nat} {i : Int32} (hd : decode (mbc y) pc = .ok (.iaload, 1)) : Runs y pc L (.int i :: .ref a :: st) D mm z Q = ((((D a).1 = 8 ∨ (D a).1 = 20) ∧ inB i (D a).2.1 = true) ∧ Runs y (pc + 1) L (.int (mm a i.toNatClampNeg) :: st) D mm z Q) := R_if (c := ((D a).1 == 8 || (D a).1 == 20) && inB i (D a).2.1) (by simp) hd rfl
theorem R_iast {a : Nat} {i x : Int32} (hd : decode (mbc y) pc = .ok (.iastore, 1)) : Runs y pc L (.int x :: .int i :: .ref a :: st) D mm z Q = (((D a).1 = 8 ∧ inB i (D a).2.1 = true) ∧ Runs y (pc + 1) L st D (up2 mm a i.toNatClampNeg x) z Q) := R_if (c := (D a).1 == 8 && inB i (D a).2.1) (by simp) hd rfl
theorem R_bald {a : Nat} {i : Int32} (hd : decode (mbc y) pc = .ok (.baload, 1)) : Runs y pc L (.int i :: .ref a :: st) D mm z Q = (((D a).1 = 9 ∧ inB i (D a).2.1 = true) ∧ Runs y (pc + 1) L (.int (mm a i.toNatClampNeg) :: st) D mm z Q) := R_if (c := (D a).1 == 9 && inB i (D a).2.1) (by simp) hd rfl
theorem R_bast {a : Nat} {i x : Int32} (hd : decode (mbc y) pc = .ok (.bastore, 1)) : Runs y pc L (.int x :: .int i :: .ref a :: st) D mm z Q = (((D a).1 = 9 ∧ inB i (D a).2.1 = true ∧ (x = 0 ∨ x = 1)) ∧ Runs y (pc + 1) L st D (up2 mm a i.toNatClampNeg x) z Q) := R_if (c := (D a).1 == 9 && (inB i (D a).2.1 && fits .boolean (.int x))) (by simp [fits]) hd rfl
theorem R_aald {a : Nat} {i : Int32} (hd : decode (mbc y) pc = .ok (.aaload, 1)) : Runs y pc L (.int i :: .ref a :: st) D mm z Q = (((10 ≤ (D a).1 ∧ (D a).1 ≤ 12) ∧ inB i (D a).2.1 = true) ∧ match (D a).2.2 i.toNatClampNeg with
    | some r => Runs y (pc + 1) L (.ref r :: st) D mm z Q
    | none => False) := by
  cases h : (D a).2.2 i.toNatClampNeg with
  | some r => exact R_if (c := (decide (10 ≤ (D a).1) && decide ((D a).1 ≤ 12)) && inB i (D a).2.1) (by simp) hd (by simp only [nxi, h]; rfl)
  | none =>
    rw [Runs_no (by unfold nxt; dsimp only; rw [hd]; simp only [nxi, h]; split <;> first | rfl | (split <;> rfl))]
    simp
theorem R_aast {a r : Nat} {i : Int32} (hd : decode (mbc y) pc = .ok (.aastore, 1)) : Runs y pc L (.ref r :: .int i :: .ref a :: st) D mm z Q = ((((10 ≤ (D a).1 ∧ (D a).1 ≤ 12) ∧ inB i (D a).2.1 = true) ∧ (D r).1 = elK (D a).1) ∧ Runs y (pc + 1) L st (upR D a i.toNatClampNeg (some r)) mm z Q) := R_if (c := ((decide (10 ≤ (D a).1) && decide ((D a).1 ≤ 12)) && inB i (D a).2.1) && (D r).1 == elK (D a).1) (by simp) hd rfl
theorem R_alen {a : Nat} (hd : decode (mbc y) pc = .ok (.arraylength, 1)) : Runs y pc L (.ref a :: st) D mm z Q = ((D a).1 = 20 ∧ Runs y (pc + 1) L (.int (Int32.ofNat (D a).2.1) :: st) D mm z Q) := R_if (c := (D a).1 == 20) (by simp) hd rfl
theorem R_new {idx k : Nat} (hd : decode (mbc y) pc = .ok (.new idx, 3)) (hk : lk (kL (mow y)) idx = some k) : Runs y pc L st D mm z Q = Runs y (pc + 3) L (.ref z.1 :: st) (nwD D z.1 (k, 0, fun _ => none)) (nwM mm z.1) (z.1 + 1, z.2 + NN k) Q := R_mk hd (by simp only [nxi, hk]; rfl)
theorem R_newI {c : Int32} {n : Nat} (hd : decode (mbc y) pc = .ok (.newarray .int, 2)) (h0 : (!decide (c < 0) && decide (c.toNatClampNeg ≤ 4096)) = true) (hn : c.toNatClampNeg = n) : Runs y pc L (.int c :: st) D mm z Q = Runs y (pc + 2) L (.ref z.1 :: st) (nwD D z.1 (8, n, fun _ => none)) (nwM mm z.1) (z.1 + 1, z.2 + n) Q := R_mk hd (by simp only [nxi, h0, ← hn]; rfl)
theorem R_newZ {c : Int32} {n : Nat} (hd : decode (mbc y) pc = .ok (.newarray .boolean, 2)) (h0 : (!decide (c < 0) && decide (c.toNatClampNeg ≤ 4096)) = true) (hn : c.toNatClampNeg = n) : Runs y pc L (.int c :: st) D mm z Q = Runs y (pc + 2) L (.ref z.1 :: st) (nwD D z.1 (9, n, fun _ => none)) (nwM mm z.1) (z.1 + 1, z.2 + n) Q := R_mk hd (by simp only [nxi, h0, ← hn]; rfl)
theorem R_anew {c : Int32} {idx k n : Nat} (hd : decode (mbc y) pc = .ok (.anewarray idx, 3)) (hk : lk (kL (mow y)) idx = some k) (hk3 : (k == 0 || (k == 2 || k == 5)) = true) (h0 : (!decide (c < 0) && decide (c.toNatClampNeg ≤ 4096)) = true) (hn : c.toNatClampNeg = n) : Runs y pc L (.int c :: st) D mm z Q = Runs y (pc + 3) L (.ref z.1 :: st) (nwD D z.1 (arK k, n, fun _ => none)) (nwM mm z.1) (z.1 + 1, z.2 + n) Q := R_mk hd (by simp only [nxi, h0, hk, hk3, ← hn]; rfl)
theorem R_oinit {idx a : Nat} (hd : decode (mbc y) pc = .ok (.invokespecial idx, 3)) (ho : lk (oL (mow y)) idx = some ()) (hc : (decide (1 ≤ mht y) && decide (st.length ≤ 4)) = true) : Runs y pc L (.ref a :: st) D mm z Q = Runs y (pc + 3) L st D mm z Q := R_mk hd (by simp only [nxi, ho, hc]; rfl)
theorem R_min {idx : Nat} {x v : Int32} (hd : decode (mbc y) pc = .ok (.invokestatic idx, 3)) (ho : lk (pL (mow y)) idx = some ()) (hc : (decide (1 ≤ mht y) && decide (st.length ≤ 4)) = true) : Runs y pc L (.int v :: .int x :: st) D mm z Q = Runs y (pc + 3) L (.int (if v < x then v else x) :: st) D mm z Q := R_mk hd (by simp only [nxi, ho, hc]; rfl)
theorem R_vret (hd : decode (mbc y) pc = .ok (.return_, 1)) (hr : (mrt y).isNone = true) : Runs y pc L [] D mm z Q = Q vJ D mm z := Runs_end (by unfold nxt; dsimp only; rw [hd]; simp only [nxi, hr]; rfl)
theorem R_iret {v : Int32} (hd : decode (mbc y) pc = .ok (.ireturn, 1)) (hr : mrt y = some .int) : Runs y pc L [.int v] D mm z Q = Q (.int v) D mm z := Runs_end (by unfold nxt; dsimp only; rw [hd]; simp only [nxi, gRet, hr, narrow]; simp)
theorem R_zret {v : Int32} (hd : decode (mbc y) pc = .ok (.ireturn, 1)) (hr : mrt y = some .boolean) : Runs y pc L [.int v] D mm z Q = (narrow .boolean (.int v) = .int v ∧ Q (.int v) D mm z) := by
  by_cases h : narrow .boolean (.int v) = .int v
  · rw [Runs_end (v := .int v) (D' := D) (m' := mm) (z' := z) (by unfold nxt; dsimp only; rw [hd]; simp only [nxi, gRet, hr, h]; simp)]
    exact propext ⟨fun q => ⟨h, q⟩, fun q => q.2⟩
  · rw [Runs_no (by unfold nxt; dsimp only; rw [hd]; simp only [nxi, gRet, hr]; simp [h])]
    exact propext ⟨False.elim, fun q => h q.1⟩
theorem R_gC {i : Jvm.ClassFile.Instr} {args rest : List Value} {L0 : List Value} (hd : decode (mbc y) pc = .ok (i, 3)) (hx : nxi y i 3 pc L st D mm z = gC y zm args rest pc L D mm z) (hc : (decide (mht zm < mht y) && (decide (rest.length ≤ 4) && entOK zm args)) = true) (hL : entL (mnl zm) args = L0) (st' : Value → List Value) (hs : ∀ v, (if (mrt zm).isNone then rest else v :: rest) = st' v) :
    Runs y pc L st D mm z Q = Runs zm 0 L0 [] D mm z (fun v D1 m1 z1 => Runs y (pc + 3) L (st' v) D1 m1 z1 Q) := by
  rw [Runs_call (y := y) (zm := zm) (pc' := 0) (L' := []) (L0 := L0) (st0 := []) (D0 := D) (m0 := mm) (z0 := z) (k := fun o => (pc + 3, L, st' o.1, o.2.1, o.2.2.1, o.2.2.2)) (by
    unfold nxt; dsimp only; rw [hd]; dsimp only; rw [hx]; unfold gC; rw [if_pos hc, hL]
    refine congrArg (fun k => some (Sum.inr (Sum.inr (zm, (0, L0, [], D, mm, z), k)))) ?_
    funext o
    rw [hs])]
theorem R_callS {idx na kd : Nat} {args rest : List Value} {L0 : List Value} (hd : decode (mbc y) pc = .ok (.invokestatic idx, 3)) (hp : lk (pL (mow y)) idx = none) (hm : lk (mL (mow y)) idx = some (zm, kd, na)) (hk : (kd == 1 || kd == 5) = true) (hn : na ≤ st.length) (hst : (st.take na).reverse = args) (hsr : st.drop na = rest) (hc : (decide (mht zm < mht y) && (decide (rest.length ≤ 4) && entOK zm args)) = true) (hL : entL (mnl zm) args = L0) (st' : Value → List Value) (hs : ∀ v, (if (mrt zm).isNone then rest else v :: rest) = st' v) :
    Runs y pc L st D mm z Q = Runs zm 0 L0 [] D mm z (fun v D1 m1 z1 => Runs y (pc + 3) L (st' v) D1 m1 z1 Q) :=
  R_gC hd (by simp only [nxi, hp, hm, hk, gS, hst, hsr]; rw [if_pos hn]; rfl) hc hL st' hs
theorem R_callV {i : Jvm.ClassFile.Instr} {idx na kd a : Nat} {args rest : List Value} {L0 : List Value} (hd : decode (mbc y) pc = .ok (i, 3)) (hi : (i = .invokevirtual idx ∧ kd = 0) ∨ (i = .invokespecial idx ∧ lk (oL (mow y)) idx = none ∧ (kd == 2 || kd == 6) = true)) (hm : lk (mL (mow y)) idx = some (zm, kd, na)) (hn : na ≤ st.length) (hst : (.ref a :: (st.take na).reverse) = args) (hsr : st.drop na = .ref a :: rest) (hc : (decide (mht zm < mht y) && (decide (rest.length ≤ 4) && entOK zm args)) = true) (hL : entL (mnl zm) args = L0) (st' : Value → List Value) (hs : ∀ v, (if (mrt zm).isNone then rest else v :: rest) = st' v) :
    Runs y pc L st D mm z Q = ((D a).1 = mow zm ∧ Runs zm 0 L0 [] D mm z (fun v D1 m1 z1 => Runs y (pc + 3) L (st' v) D1 m1 z1 Q)) := by
  have hg : nxi y i 3 pc L st D mm z = gV y zm na pc L st D mm z := by
    rcases hi with ⟨rfl, rfl⟩ | ⟨rfl, h1, h2⟩
    · simp only [nxi, hm]
      rfl
    · simp only [nxi, hm, h1, h2]
      rfl
  by_cases h : (D a).1 = mow zm
  · have hx : nxi y i 3 pc L st D mm z = gC y zm args rest pc L D mm z := by
      rw [hg]
      unfold gV
      rw [hsr]
      dsimp only
      rw [if_pos (by simp [h, hn]), hst]
    rw [R_gC hd hx hc hL st' hs]
    exact propext ⟨fun q => ⟨h, q⟩, fun q => q.2⟩
  · rw [Runs_no (by
      unfold nxt; dsimp only; rw [hd]; dsimp only; rw [hg]; unfold gV; rw [hsr]; dsimp only
      rw [if_neg (by simp [h])])]
    exact propext ⟨False.elim, fun q => h q.1⟩
theorem R_swD {dflt lo hi : Int} {offs : Array Int} {len t : Nat} {x : Int32} (hd : decode (mbc y) pc = .ok (.tableswitch dflt lo hi offs, len)) (ht : jmp pc dflt = some t) (h : x.toInt < lo ∨ hi < x.toInt) : Runs y pc L (.int x :: st) D mm z Q = Runs y t L st D mm z Q :=
  R_mk hd (by
    simp only [nxi]
    rw [if_pos (by rcases h with q | q <;> simp [q]), ht]
    rfl)
theorem R_swL {dflt : Int} {ps : Array (Int × Int)} {len t : Nat} {x : Int32} (hd : decode (mbc y) pc = .ok (.lookupswitch dflt ps, len)) (hs : (ps.toList.zip (ps.toList.drop 1)).all (fun (a, next) => a.1 < next.1) = true) (ht : jmp pc (Op.lookupswitch.offset ps.toList dflt x.toInt) = some t) : Runs y pc L (.int x :: st) D mm z Q = Runs y t L st D mm z Q :=
  R_mk hd (by
    simp only [nxi]
    rw [if_pos hs, ht]
    rfl)
end ROWS
