/-! THE ABSTRACT MACHINE: the heap is a map D of kinds and references and a map mm of ints; one step of a method, and runs -/
abbrev vZZ : Type := Nat × Nat
abbrev vCF : Type := Nat × List Value × List Value × vDD × vMM × vZZ
abbrev vOU : Type := Value × vDD × vMM × vZZ
abbrev vJ : Value := .retAddr 0
/-- what a step is: on, an end, or a call -/
abbrev vST : Type := vCF ⊕ (vOU ⊕ (vMD × vCF × (vOU → vCF)))
def up2 (mm : vMM) (a k : Nat) (x : Int32) : vMM := fun q => if q = a then upd (mm a) k x else mm q
def upR (D : vDD) (a k : Nat) (r : Option Nat) : vDD := fun q => if q = a then ((D a).1, (D a).2.1, fun j => if j = k then r else (D a).2.2 j) else D q
def nwD (D : vDD) (n : Nat) (d : Nat × Nat × (Nat → Option Nat)) : vDD := fun q => if q = n then d else D q
def nwM (mm : vMM) (n : Nat) : vMM := fun q => if q = n then (fun _ => 0) else mm q
/-- entry locals -/
def lay : List Value → List Value
  | [] => []
  | v :: t => if v.category = 2 then v :: vJ :: lay t else v :: lay t
def entL (n : Nat) (vs : List Value) : List Value := lay vs ++ List.replicate (n - (lay vs).length) vJ
def noLg (ll : List Nat) : Nat → List Value → Bool
  | _, [] => true
  | k, v :: t => (v.category != 2 || ll.contains k) && noLg ll (k + 1) t
def entOK (y : vMD) (vs : List Value) : Bool := decide ((lay vs).length ≤ mnl y) && noLg (mll y) 0 (entL (mnl y) vs)
/-- an int's store in a place behind which no long begins -/
def okS (y : vMD) (L : List Value) (i : Nat) : Bool := decide (i < L.length) && (i == 0 || !((mll y).contains (i - 1)))
def okS2 (y : vMD) (L : List Value) (i : Nat) : Bool := decide (i + 1 < L.length) && ((i == 0 || !((mll y).contains (i - 1))) && (mll y).contains i)
def jmp (pc : Nat) (off : Int) : Option Nat := if 0 ≤ (pc : Int) + off then some ((pc : Int) + off).toNat else none
def cmpB (op : Jvm.ClassFile.Cond) (x y : Int32) : Bool := match op with
  | .eq => decide (x = y)
  | .ne => !decide (x = y)
  | .lt => decide (x < y)
  | .ge => decide (y ≤ x)
  | .gt => decide (y < x)
  | .le => decide (x ≤ y)
def elK : Nat → Nat := fun k => match k with
  | 10 => 0
  | 11 => 2
  | _ => 5
def arK : Nat → Nat := fun k => match k with
  | 0 => 10
  | 2 => 11
  | _ => 12
def inB (i : Int32) (n : Nat) : Bool := !(decide (i < 0) || decide (n ≤ i.toNatClampNeg))
/-- a step that goes on: the new pc, locals, stack -/
def gO (pc : Nat) (L st : List Value) (D : vDD) (mm : vMM) (z : vZZ) : Option vST := some (.inl (pc, L, st, D, mm, z))
def gJ (t : Option Nat) (L st : List Value) (D : vDD) (mm : vMM) (z : vZZ) : Option vST := match t with
  | some pc => gO pc L st D mm z
  | none => none
/-- a call's start: receiver and arguments, deepest first -/
def gC (y zm : vMD) (args rest : List Value) (pc : Nat) (L : List Value) (D : vDD) (mm : vMM) (z : vZZ) : Option vST :=
  if decide (mht zm < mht y) && (decide (rest.length ≤ 4) && entOK zm args) then
    some (.inr (.inr (zm, (0, entL (mnl zm) args, [], D, mm, z), fun o => (pc + 3, L, (if (mrt zm).isNone then rest else o.1 :: rest), o.2.1, o.2.2.1, o.2.2.2))))
  else none
def gV (y zm : vMD) (na pc : Nat) (L st : List Value) (D : vDD) (mm : vMM) (z : vZZ) : Option vST := match st.drop na with
  | .ref a :: rest => if (D a).1 == mow zm && decide (na ≤ st.length) then gC y zm (.ref a :: (st.take na).reverse) rest pc L D mm z else none
  | _ => none
def gS (y zm : vMD) (na pc : Nat) (L st : List Value) (D : vDD) (mm : vMM) (z : vZZ) : Option vST := if na ≤ st.length then gC y zm ((st.take na).reverse) (st.drop na) pc L D mm z else none
def gLd (L : List Value) (k pc : Nat) (st : List Value) (D : vDD) (mm : vMM) (z : vZZ) : Option vST := match L[k]? with
  | some (.int x) => gO pc L (.int x :: st) D mm z
  | _ => none
def gLdR (L : List Value) (k pc : Nat) (st : List Value) (D : vDD) (mm : vMM) (z : vZZ) : Option vST := match L[k]? with
  | some (.ref x) => gO pc L (.ref x :: st) D mm z
  | _ => none
def gLdL (L : List Value) (k pc : Nat) (st : List Value) (D : vDD) (mm : vMM) (z : vZZ) : Option vST := match L[k]? with
  | some (.long x) => gO pc L (.long x :: st) D mm z
  | _ => none
def gSt (y : vMD) (L : List Value) (k pc : Nat) (st : List Value) (D : vDD) (mm : vMM) (z : vZZ) : Option vST := match st with
  | .int x :: st => if okS y L k then gO pc (L.set k (.int x)) st D mm z else none
  | _ => none
def gStR (y : vMD) (L : List Value) (k pc : Nat) (st : List Value) (D : vDD) (mm : vMM) (z : vZZ) : Option vST := match st with
  | .ref x :: st => if okS y L k then gO pc (L.set k (.ref x)) st D mm z else none
  | _ => none
def gStL (y : vMD) (L : List Value) (k pc : Nat) (st : List Value) (D : vDD) (mm : vMM) (z : vZZ) : Option vST := match st with
  | .long x :: st => if okS2 y L k then gO pc ((L.set k (.long x)).set (k + 1) vJ) st D mm z else none
  | _ => none
def gI2 (f : Int32 → Int32 → Int32) (pc : Nat) (L st : List Value) (D : vDD) (mm : vMM) (z : vZZ) : Option vST := match st with
  | .int y :: .int x :: st => gO pc L (.int (f x y) :: st) D mm z
  | _ => none
def gDv (f : Int32 → Int32 → Int32) (pc : Nat) (L st : List Value) (D : vDD) (mm : vMM) (z : vZZ) : Option vST := match st with
  | .int y :: .int x :: st => if !decide (y = 0) then gO pc L (.int (f x y) :: st) D mm z else none
  | _ => none
def gL2 (f : Int64 → Int64 → Int64) (pc : Nat) (L st : List Value) (D : vDD) (mm : vMM) (z : vZZ) : Option vST := match st with
  | .long y :: .long x :: st => gO pc L (.long (f x y) :: st) D mm z
  | _ => none
def gLS (f : Int64 → Int32 → Int64) (pc : Nat) (L st : List Value) (D : vDD) (mm : vMM) (z : vZZ) : Option vST := match st with
  | .int y :: .long x :: st => gO pc L (.long (f x y) :: st) D mm z
  | _ => none
def gPut (y : vMD) (ci k pc : Nat) (L st : List Value) (D : vDD) (mm : vMM) (z : vZZ) : Option vST :=
  if !(TN ci k).2.2.2 || ((mym y).name == "<init>" && (TN ci k).1 == RN (mow y)) then
    match st with
    | .int x :: .ref a :: st => if (D a).1 == ci && (!rT ci k && (fits (tyN ci k) (.int x) && narrow (tyN ci k) (.int x) == .int x)) then gO pc L st D (up2 mm a k x) z else none
    | .ref r :: .ref a :: st => if (D a).1 == ci && rT ci k then gO pc L st (upR D a k (some r)) mm z else none
    | _ => none
  else none
def gGet (ci k pc : Nat) (L st : List Value) (D : vDD) (mm : vMM) (z : vZZ) : Option vST := match st with
  | .ref a :: st => if (D a).1 == ci then (if rT ci k then (match (D a).2.2 k with
      | some r => gO pc L (.ref r :: st) D mm z
      | none => none) else gO pc L (.int (mm a k) :: st) D mm z) else none
  | _ => none
def gRet (y : vMD) (st : List Value) (D : vDD) (mm : vMM) (z : vZZ) : Option vST := match st, mrt y with
  | [.int v], some ty => if narrow ty (.int v) == .int v then some (.inr (.inl (.int v, D, mm, z))) else none
  | _, _ => none
/-- one instruction -/
def nxi (y : vMD) (i : Jvm.ClassFile.Instr) (len pc : Nat) (L st : List Value) (D : vDD) (mm : vMM) (z : vZZ) : Option vST := match i with
  | .iconst n => if len == 1 then gO (pc + 1) L (.int (Int32.ofInt n) :: st) D mm z else none
  | .bipush n => if len == 2 then gO (pc + 2) L (.int (Int8.ofInt n).toInt32 :: st) D mm z else none
  | .sipush n => if len == 3 then gO (pc + 3) L (.int (Int16.ofInt n).toInt32 :: st) D mm z else none
  | .lconst n => if len == 1 then gO (pc + 1) L (.long (Int64.ofNat (n : Nat)) :: st) D mm z else none
  | .ldc idx => if len == 2 then (match lk (cL (mow y)) idx with
      | some v => gO (pc + 2) L (.int v :: st) D mm z
      | none => none) else none
  | .ldc_w idx => if len == 3 then (match lk (cL (mow y)) idx with
      | some v => gO (pc + 3) L (.int v :: st) D mm z
      | none => none) else none
  | .ldc2_w idx => if len == 3 then (match lk (lL (mow y)) idx with
      | some v => gO (pc + 3) L (.long v :: st) D mm z
      | none => none) else none
  | .iload_n k => if len == 1 then gLd L k (pc + 1) st D mm z else none
  | .iload k => if len == 2 then gLd L k (pc + 2) st D mm z else none
  | .aload_n k => if len == 1 then gLdR L k (pc + 1) st D mm z else none
  | .aload k => if len == 2 then gLdR L k (pc + 2) st D mm z else none
  | .lload_n k => if len == 1 then gLdL L k (pc + 1) st D mm z else none
  | .lload k => if len == 2 then gLdL L k (pc + 2) st D mm z else none
  | .istore_n k => if len == 1 then gSt y L k (pc + 1) st D mm z else none
  | .istore k => if len == 2 then gSt y L k (pc + 2) st D mm z else none
  | .astore_n k => if len == 1 then gStR y L k (pc + 1) st D mm z else none
  | .astore k => if len == 2 then gStR y L k (pc + 2) st D mm z else none
  | .lstore_n k => if len == 1 then gStL y L k (pc + 1) st D mm z else none
  | .lstore k => if len == 2 then gStL y L k (pc + 2) st D mm z else none
  | .iinc k n => if len == 3 then (match L[k]? with
      | some (.int x) => if okS y L k then gO (pc + 3) (L.set k (.int (x + Int32.ofInt n))) st D mm z else none
      | _ => none) else none
  | .iadd => if len == 1 then gI2 (fun x y => x + y) (pc + 1) L st D mm z else none
  | .isub => if len == 1 then gI2 (fun x y => x - y) (pc + 1) L st D mm z else none
  | .imul => if len == 1 then gI2 (fun x y => x * y) (pc + 1) L st D mm z else none
  | .idiv => if len == 1 then gDv (fun x y => x / y) (pc + 1) L st D mm z else none
  | .irem => if len == 1 then gDv (fun x y => x - x / y * y) (pc + 1) L st D mm z else none
  | .dup_x2 => if len == 1 then (match st with
      | v :: w :: u :: st => if v.category == 1 && (w.category == 1 && u.category == 1) then gO (pc + 1) L (v :: w :: u :: v :: st) D mm z else none
      | _ => none) else none
  | .iand => if len == 1 then gI2 (fun x y => x &&& y) (pc + 1) L st D mm z else none
  | .ior => if len == 1 then gI2 (fun x y => x ||| y) (pc + 1) L st D mm z else none
  | .ixor => if len == 1 then gI2 (fun x y => x ^^^ y) (pc + 1) L st D mm z else none
  | .ishl => if len == 1 then gI2 (fun x y => x <<< (y &&& 31)) (pc + 1) L st D mm z else none
  | .ishr => if len == 1 then gI2 (fun x y => x >>> (y &&& 31)) (pc + 1) L st D mm z else none
  | .iushr => if len == 1 then gI2 (fun x y => (x.toUInt32 >>> (y.toUInt32 &&& Int32.toUInt32 31)).toInt32) (pc + 1) L st D mm z else none
  | .land => if len == 1 then gL2 (fun x y => x &&& y) (pc + 1) L st D mm z else none
  | .lor => if len == 1 then gL2 (fun x y => x ||| y) (pc + 1) L st D mm z else none
  | .lshl => if len == 1 then gLS (fun x y => x <<< (y.toInt64 &&& 63)) (pc + 1) L st D mm z else none
  | .lushr => if len == 1 then gLS (fun x y => (x.toUInt64 >>> (y.toInt64.toUInt64 &&& Int64.toUInt64 63)).toInt64) (pc + 1) L st D mm z else none
  | .i2l => if len == 1 then (match st with
      | .int x :: st => gO (pc + 1) L (.long x.toInt64 :: st) D mm z
      | _ => none) else none
  | .l2i => if len == 1 then (match st with
      | .long x :: st => gO (pc + 1) L (.int x.toInt32 :: st) D mm z
      | _ => none) else none
  | .lcmp => if len == 1 then (match st with
      | .long y :: .long x :: st => gO (pc + 1) L (.int (lg_cmp x y) :: st) D mm z
      | _ => none) else none
  | .dup => if len == 1 then (match st with
      | v :: st => if v.category == 1 then gO (pc + 1) L (v :: v :: st) D mm z else none
      | _ => none) else none
  | .dup2 => if len == 1 then (match st with
      | v :: w :: st => if v.category == 1 && w.category == 1 then gO (pc + 1) L (v :: w :: v :: w :: st) D mm z else none
      | _ => none) else none
  | .pop => if len == 1 then (match st with
      | v :: st => if v.category == 1 then gO (pc + 1) L st D mm z else none
      | _ => none) else none
  | .ifCond op off => if len == 3 then (match st with
      | .int x :: st => (match jmp pc off with
          | some t => gO (if cmpB op x 0 then t else pc + 3) L st D mm z
          | none => none)
      | _ => none) else none
  | .if_icmp op off => if len == 3 then (match st with
      | .int y :: .int x :: st => (match jmp pc off with
          | some t => gO (if cmpB op x y then t else pc + 3) L st D mm z
          | none => none)
      | _ => none) else none
  | .goto off => if len == 3 then gJ (jmp pc off) L st D mm z else none
  | .tableswitch dflt lo hi offs => (match st with
      | .int x :: st => gJ (if decide (x.toInt < lo) || decide (hi < x.toInt) then jmp pc dflt else (match offs[(x.toInt - lo).toNat]? with
          | some off => jmp pc off
          | none => none)) L st D mm z
      | _ => none)
  | .lookupswitch dflt ps => (match st with
      | .int x :: st => if (ps.toList.zip (ps.toList.drop 1)).all (fun (a, next) => a.1 < next.1) then gJ (jmp pc (Op.lookupswitch.offset ps.toList dflt x.toInt)) L st D mm z else none
      | _ => none)
  | .getfield idx => if len == 3 then (match lk (fL (mow y)) idx with
      | some q => gGet q.1 q.2 (pc + 3) L st D mm z
      | none => none) else none
  | .putfield idx => if len == 3 then (match lk (fL (mow y)) idx with
      | some q => gPut y q.1 q.2 (pc + 3) L st D mm z
      | none => none) else none
  | .iaload => if len == 1 then (match st with
      | .int i :: .ref a :: st => if ((D a).1 == 8 || (D a).1 == 20) && inB i (D a).2.1 then gO (pc + 1) L (.int (mm a i.toNatClampNeg) :: st) D mm z else none
      | _ => none) else none
  | .iastore => if len == 1 then (match st with
      | .int x :: .int i :: .ref a :: st => if (D a).1 == 8 && inB i (D a).2.1 then gO (pc + 1) L st D (up2 mm a i.toNatClampNeg x) z else none
      | _ => none) else none
  | .baload => if len == 1 then (match st with
      | .int i :: .ref a :: st => if (D a).1 == 9 && inB i (D a).2.1 then gO (pc + 1) L (.int (mm a i.toNatClampNeg) :: st) D mm z else none
      | _ => none) else none
  | .bastore => if len == 1 then (match st with
      | .int x :: .int i :: .ref a :: st => if (D a).1 == 9 && (inB i (D a).2.1 && fits .boolean (.int x)) then gO (pc + 1) L st D (up2 mm a i.toNatClampNeg x) z else none
      | _ => none) else none
  | .aaload => if len == 1 then (match st with
      | .int i :: .ref a :: st => if (decide (10 ≤ (D a).1) && decide ((D a).1 ≤ 12)) && inB i (D a).2.1 then (match (D a).2.2 i.toNatClampNeg with
          | some r => gO (pc + 1) L (.ref r :: st) D mm z
          | none => none) else none
      | _ => none) else none
  | .aastore => if len == 1 then (match st with
      | .ref r :: .int i :: .ref a :: st => if ((decide (10 ≤ (D a).1) && decide ((D a).1 ≤ 12)) && inB i (D a).2.1) && (D r).1 == elK (D a).1 then gO (pc + 1) L st (upR D a i.toNatClampNeg (some r)) mm z else none
      | _ => none) else none
  | .arraylength => if len == 1 then (match st with
      | .ref a :: st => if (D a).1 == 20 then gO (pc + 1) L (.int (Int32.ofNat (D a).2.1) :: st) D mm z else none
      | _ => none) else none
  | .new idx => if len == 3 then (match lk (kL (mow y)) idx with
      | some k => gO (pc + 3) L (.ref z.1 :: st) (nwD D z.1 (k, 0, fun _ => none)) (nwM mm z.1) (z.1 + 1, z.2 + NN k)
      | none => none) else none
  | .newarray t => if len == 2 then (match st with
      | .int c :: st => if !decide (c < 0) && decide (c.toNatClampNeg ≤ 4096) then (match t with
          | .int => gO (pc + 2) L (.ref z.1 :: st) (nwD D z.1 (8, c.toNatClampNeg, fun _ => none)) (nwM mm z.1) (z.1 + 1, z.2 + c.toNatClampNeg)
          | .boolean => gO (pc + 2) L (.ref z.1 :: st) (nwD D z.1 (9, c.toNatClampNeg, fun _ => none)) (nwM mm z.1) (z.1 + 1, z.2 + c.toNatClampNeg)
          | _ => none) else none
      | _ => none) else none
  | .anewarray idx => if len == 3 then (match st with
      | .int c :: st => if !decide (c < 0) && decide (c.toNatClampNeg ≤ 4096) then (match lk (kL (mow y)) idx with
          | some k => if k == 0 || (k == 2 || k == 5) then gO (pc + 3) L (.ref z.1 :: st) (nwD D z.1 (arK k, c.toNatClampNeg, fun _ => none)) (nwM mm z.1) (z.1 + 1, z.2 + c.toNatClampNeg) else none
          | none => none) else none
      | _ => none) else none
  | .invokevirtual idx => if len == 3 then (match lk (mL (mow y)) idx with
      | some q => if q.2.1 == 0 then gV y q.1 q.2.2 pc L st D mm z else none
      | none => none) else none
  | .invokestatic idx => if len == 3 then (match lk (pL (mow y)) idx with
      | some _ => (match st with
          | .int v :: .int x :: st => if decide (1 ≤ mht y) && decide (st.length ≤ 4) then gO (pc + 3) L (.int (if v < x then v else x) :: st) D mm z else none
          | _ => none)
      | none => (match lk (mL (mow y)) idx with
          | some q => if q.2.1 == 1 || q.2.1 == 5 then gS y q.1 q.2.2 pc L st D mm z else none
          | none => none)) else none
  | .invokespecial idx => if len == 3 then (match lk (oL (mow y)) idx with
      | some _ => (match st with
          | .ref _ :: st => if decide (1 ≤ mht y) && decide (st.length ≤ 4) then gO (pc + 3) L st D mm z else none
          | _ => none)
      | none => (match lk (mL (mow y)) idx with
          | some q => if q.2.1 == 2 || q.2.1 == 6 then gV y q.1 q.2.2 pc L st D mm z else none
          | none => none)) else none
  | .ireturn => if len == 1 then gRet y st D mm z else none
  | .return_ => if len == 1 then (match st with
      | [] => if (mrt y).isNone then some (.inr (.inl (vJ, D, mm, z))) else none
      | _ => none) else none
  | _ => none
def nxt (y : vMD) (c : vCF) : Option vST := match decode (mbc y) c.1 with
  | .ok (i, len) => nxi y i len c.1 c.2.1 c.2.2.1 c.2.2.2.1 c.2.2.2.2.1 c.2.2.2.2.2
  | .error _ => none
def bdy (rec : vMD → vCF → Option vOU) (y : vMD) (c : vCF) : Option vOU := match nxt y c with
  | none => none
  | some (.inl c') => rec y c'
  | some (.inr (.inl o)) => some o
  | some (.inr (.inr q)) => (match rec q.1 q.2.1 with
      | none => none
      | some o => rec y (q.2.2 o))
def run : Nat → vMD → vCF → Option vOU
  | 0, _, _ => none
  | f + 1, y, c => bdy (run f) y c
theorem bdy_mono {r1 r2 : vMD → vCF → Option vOU} (h : ∀ y c o, r1 y c = some o → r2 y c = some o) {y : vMD} {c : vCF} {o : vOU} (h1 : bdy r1 y c = some o) : bdy r2 y c = some o := by
  unfold bdy at h1 ⊢
  cases hn : nxt y c with
  | none => rw [hn] at h1; cases h1
  | some q =>
    rw [hn] at h1
    rcases q with c' | o' | q
    · exact h _ _ _ h1
    · exact h1
    · dsimp only at h1 ⊢
      cases hr : r1 q.1 q.2.1 with
      | none => rw [hr] at h1; cases h1
      | some o2 =>
        rw [hr] at h1
        rw [h _ _ _ hr]
        exact h _ _ _ h1
theorem run_mono : ∀ (f : Nat) (y : vMD) (c : vCF) (o : vOU), run f y c = some o → run (f + 1) y c = some o
  | 0, _, _, _, h => by cases h
  | f + 1, y, c, o, h => bdy_mono (run_mono f) h
theorem run_le {f g : Nat} (h : f ≤ g) {y : vMD} {c : vCF} {o : vOU} (h1 : run f y c = some o) : run g y c = some o := by
  induction h with
  | refl => exact h1
  | step _ ih => exact run_mono _ _ _ _ ih
/-- the method comes to an end, of which Q holds -/
def Runs (y : vMD) (pc : Nat) (L st : List Value) (D : vDD) (mm : vMM) (z : vZZ) (Q : Value → vDD → vMM → vZZ → Prop) : Prop :=
  ∃ (f : Nat) (v : Value) (D' : vDD) (m' : vMM) (z' : vZZ), run f y (pc, L, st, D, mm, z) = some (v, D', m', z') ∧ Q v D' m' z'
theorem Runs_go {y : vMD} {pc pc' : Nat} {L L' st st' : List Value} {D D' : vDD} {mm m' : vMM} {z z' : vZZ} {Q : Value → vDD → vMM → vZZ → Prop} (h : nxt y (pc, L, st, D, mm, z) = some (.inl (pc', L', st', D', m', z'))) : Runs y pc L st D mm z Q = Runs y pc' L' st' D' m' z' Q := by
  apply propext
  constructor
  · rintro ⟨f, v, D2, m2, z2, hr, hq⟩
    cases f with
    | zero => cases hr
    | succ f =>
      refine ⟨f, v, D2, m2, z2, ?_, hq⟩
      simpa only [run, bdy, h] using hr
  · rintro ⟨f, v, D2, m2, z2, hr, hq⟩
    refine ⟨f + 1, v, D2, m2, z2, ?_, hq⟩
    simpa only [run, bdy, h] using hr
theorem Runs_no {y : vMD} {pc : Nat} {L st : List Value} {D : vDD} {mm : vMM} {z : vZZ} {Q : Value → vDD → vMM → vZZ → Prop} (h : nxt y (pc, L, st, D, mm, z) = none) : Runs y pc L st D mm z Q = False := by
  apply propext
  constructor
  · rintro ⟨f, v, D2, m2, z2, hr, hq⟩
    cases f with
    | zero => cases hr
    | succ f => simp only [run, bdy, h] at hr; cases hr
  · exact False.elim
theorem Runs_end {y : vMD} {pc : Nat} {L st : List Value} {D D' : vDD} {mm m' : vMM} {z z' : vZZ} {v : Value} {Q : Value → vDD → vMM → vZZ → Prop} (h : nxt y (pc, L, st, D, mm, z) = some (.inr (.inl (v, D', m', z')))) : Runs y pc L st D mm z Q = Q v D' m' z' := by
  apply propext
  constructor
  · rintro ⟨f, v2, D2, m2, z2, hr, hq⟩
    cases f with
    | zero => cases hr
    | succ f =>
      simp only [run, bdy, h] at hr
      cases hr
      exact hq
  · intro hq
    exact ⟨1, v, D', m', z', by simp only [run, bdy, h], hq⟩
theorem Runs_call {y zm : vMD} {pc pc' : Nat} {L L0 L' st st0 : List Value} {D D0 : vDD} {mm m0 : vMM} {z z0 : vZZ} {k : vOU → vCF} {Q : Value → vDD → vMM → vZZ → Prop} (h : nxt y (pc, L, st, D, mm, z) = some (.inr (.inr (zm, (pc', L0, st0, D0, m0, z0), k)))) :
    Runs y pc L st D mm z Q = Runs zm pc' L0 st0 D0 m0 z0 (fun v D1 m1 z1 => Runs y (k (v, D1, m1, z1)).1 (k (v, D1, m1, z1)).2.1 (k (v, D1, m1, z1)).2.2.1 (k (v, D1, m1, z1)).2.2.2.1 (k (v, D1, m1, z1)).2.2.2.2.1 (k (v, D1, m1, z1)).2.2.2.2.2 Q) := by
  apply propext
  constructor
  · rintro ⟨f, v2, D2, m2, z2, hr, hq⟩
    cases f with
    | zero => cases hr
    | succ f =>
      simp only [run, bdy, h] at hr
      cases hc : run f zm (pc', L0, st0, D0, m0, z0) with
      | none => rw [hc] at hr; cases hr
      | some o =>
        rw [hc] at hr
        obtain ⟨v1, D1, m1, z1⟩ := o
        exact ⟨f, v1, D1, m1, z1, hc, f, v2, D2, m2, z2, hr, hq⟩
  · rintro ⟨f, v1, D1, m1, z1, hc, g, v2, D2, m2, z2, hr, hq⟩
    refine ⟨f + g + 1, v2, D2, m2, z2, ?_, hq⟩
    simp only [run, bdy, h]
    rw [run_le (Nat.le_add_right f g) hc]
    exact run_le (Nat.le_add_left g f) hr
theorem Runs.imp {y : vMD} {pc : Nat} {L st : List Value} {D : vDD} {mm : vMM} {z : vZZ} {Q Q' : Value → vDD → vMM → vZZ → Prop} (h : Runs y pc L st D mm z Q) (hq : ∀ v D m z, Q v D m z → Q' v D m z) : Runs y pc L st D mm z Q' := by
  obtain ⟨f, v, D2, m2, z2, hr, h1⟩ := h
  exact ⟨f, v, D2, m2, z2, hr, hq _ _ _ _ h1⟩
/-- a run that comes to one end: an equation -/
theorem Runs.det {y : vMD} {pc : Nat} {L st : List Value} {D D' : vDD} {mm m' : vMM} {z z' : vZZ} {v : Value} (h : Runs y pc L st D mm z (fun a b c d => a = v ∧ b = D' ∧ c = m' ∧ d = z')) (Q : Value → vDD → vMM → vZZ → Prop) : Runs y pc L st D mm z Q = Q v D' m' z' := by
  obtain ⟨f, v1, D1, m1, z1, hr, rfl, rfl, rfl, rfl⟩ := h
  apply propext
  constructor
  · rintro ⟨g, v2, D2, m2, z2, hr2, hq⟩
    have e1 := run_le (Nat.le_add_right f g) hr
    have e2 := run_le (Nat.le_add_left g f) hr2
    cases e1.symm.trans e2
    exact hq
  · intro hq
    exact ⟨f, v1, D1, m1, z1, hr, hq⟩
