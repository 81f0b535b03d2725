section
/-! A SMALL MACHINE over numbers of cells: what the bytecode does, as a function; the rows behind it say that the JVM does the same. -/
abbrev mW : Type := List (Nat × Nat) × (Nat → Nat → Int32) × (Nat → Nat → Int64) × (Nat → Nat → Option Nat) × Nat × Nat
abbrev mL : Type := List (Option Value)
abbrev wS (w : mW) : List (Nat × Nat) := w.1
abbrev wI (w : mW) : Nat → Nat → Int32 := w.2.1
abbrev wJ (w : mW) : Nat → Nat → Int64 := w.2.2.1
abbrev wR (w : mW) : Nat → Nat → Option Nat := w.2.2.2.1
abbrev wC (w : mW) : Nat := w.2.2.2.2.1
abbrev wZ (w : mW) : Nat := w.2.2.2.2.2
abbrev wsI (w : mW) (f : Nat → Nat → Int32) : mW := (w.1, f, w.2.2)
abbrev wsJ (w : mW) (f : Nat → Nat → Int64) : mW := (w.1, w.2.1, f, w.2.2.2)
abbrev wsR (w : mW) (f : Nat → Nat → Option Nat) : mW := (w.1, w.2.1, w.2.2.1, f, w.2.2.2.2)
/-- place k of the row of cell i -/
def mSet {α : Type} (f : Nat → Nat → α) (i k : Nat) (v : α) : Nat → Nat → α := va_up f i (va_up (f i) k v)
/-- a new cell, of kind q, with n places -/
def mNew (w : mW) (q : Nat × Nat) (n : Nat) : mW := (w.1 ++ [q], va_up w.2.1 w.1.length (fun _ => 0), va_up w.2.2.1 w.1.length (fun _ => 0), va_up w.2.2.2.1 w.1.length (fun _ => none), w.2.2.2.2.1 + 1, w.2.2.2.2.2 + n)
def mFind : List (Nat × Instr × Nat) → Nat → Option (Instr × Nat)
  | [], _ => none
  | (p, q) :: r, pc => if Nat.beq p pc = true then some q else mFind r pc
def mLk {α : Type} : List (Nat × Nat × α) → Nat → Nat → Option α
  | [], _, _ => none
  | (a, b, v) :: r, o, x => if (Nat.beq a o && Nat.beq b x) = true then some v else mLk r o x
def cod (mi pc : Nat) : Option (Instr × Nat) := mFind (gCs.getD mi []) pc
/-- the script's own number; the texts' are those behind it -/
abbrev mScr : Nat := 1000000
/-- locals -/
def mClr2 (o : Option Value) (Lo : mL) (i : Nat) : mL := match o with
  | some (.long _) => Lo.set i none
  | some (.double _) => Lo.set i none
  | _ => Lo
def mClr (Lo : mL) : Nat → mL
  | 0 => Lo
  | i + 1 => mClr2 (Lo.getD i none) Lo i
def mSt1 (Lo : mL) (i : Nat) (v : Value) : Option mL := if i < Lo.length then some ((mClr Lo i).set i (some v)) else none
def mSt2 (Lo : mL) (i : Nat) (v : Value) : Option mL := if i + 1 < Lo.length then some (((mClr Lo i).set i (some v)).set (i + 1) none) else none
def mArg : List Value → mL
  | [] => []
  | .long x :: r => some (.long x) :: none :: mArg r
  | .double x :: r => some (.double x) :: none :: mArg r
  | v :: r => some v :: mArg r
def mIni (ml : Nat) (as : List Value) : mL := mArg as ++ List.replicate (ml - (mArg as).length) none
def mPop : Nat → List Value → Option (List Value × List Value)
  | 0, st => some ([], st)
  | k + 1, v :: st => match mPop k st with
    | some (as, r) => some (as ++ [v], r)
    | none => none
  | _ + 1, [] => none
def mBin (i : Instr) (x y : Int32) : Option Int32 := match i with
  | .iadd => some (x + y)
  | .isub => some (x - y)
  | .imul => some (x * y)
  | .iand => some (x &&& y)
  | .ior => some (x ||| y)
  | .ixor => some (x ^^^ y)
  | .ishl => some (x <<< (y &&& 31))
  | .ishr => some (x >>> (y &&& 31))
  | .iushr => some (x.toUInt32 >>> (y.toUInt32 &&& Int32.toUInt32 31)).toInt32
  | .idiv => if y = 0 then none else some (x / y)
  | .irem => if y = 0 then none else some (x - x / y * y)
  | _ => none
def mBiL (i : Instr) (x y : Int64) : Option Int64 := match i with
  | .ladd => some (x + y)
  | .lsub => some (x - y)
  | .lmul => some (x * y)
  | .land => some (x &&& y)
  | .lor => some (x ||| y)
  | .lxor => some (x ^^^ y)
  | .ldiv => if y = 0 then none else some (x / y)
  | .lrem => if y = 0 then none else some (x - x / y * y)
  | _ => none
def mShL (i : Instr) (x : Int64) (y : Int32) : Option Int64 := match i with
  | .lshl => some (x <<< (y.toInt64 &&& 63))
  | .lshr => some (x >>> (y.toInt64 &&& 63))
  | .lushr => some (x.toUInt64 >>> (y.toInt64.toUInt64 &&& Int64.toUInt64 63)).toInt64
  | _ => none
/-- the JVM's arrays by kind: 1 int, 2 byte, 3 boolean, 4 long, 5 references -/
def mAk : ArrayType → Nat
  | .int => 1
  | .byte => 2
  | .boolean => 3
  | .long => 4
  | _ => 9
def gSb : List (List Int32) := gStr.map (fun s => s.toList.map (fun c => Int32.ofNat c.toNat))
def mRf : Option Nat → Value
  | none => .null
  | some a => .ref a
abbrev mT : Type := Option (mL × List Value × mW)
def mLdI (Lo : mL) (k : Nat) (st : List Value) (w : mW) : mT := match Lo.getD k none with
  | some (.int x) => some (Lo, .int x :: st, w)
  | _ => none
def mLdL (Lo : mL) (k : Nat) (st : List Value) (w : mW) : mT := match Lo.getD k none with
  | some (.long x) => some (Lo, .long x :: st, w)
  | _ => none
def mLdA (Lo : mL) (k : Nat) (st : List Value) (w : mW) : mT := match Lo.getD k none with
  | some (.ref x) => some (Lo, .ref x :: st, w)
  | _ => none
def mStI (Lo : mL) (k : Nat) (st : List Value) (w : mW) : mT := match st with
  | .int x :: r => match mSt1 Lo k (.int x) with
    | some L => some (L, r, w)
    | none => none
  | _ => none
def mStL (Lo : mL) (k : Nat) (st : List Value) (w : mW) : mT := match st with
  | .long x :: r => match mSt2 Lo k (.long x) with
    | some L => some (L, r, w)
    | none => none
  | _ => none
def mStA (Lo : mL) (k : Nat) (st : List Value) (w : mW) : mT := match st with
  | .ref x :: r => match mSt1 Lo k (.ref x) with
    | some L => some (L, r, w)
    | none => none
  | _ => none
def mInc (Lo : mL) (k : Nat) (n : Int) (st : List Value) (w : mW) : mT := match Lo.getD k none with
  | some (.int x) => match mSt1 Lo k (.int (x + Int32.ofInt n)) with
    | some L => some (L, st, w)
    | none => none
  | _ => none
def mDef (i : Instr) (Lo : mL) (st : List Value) (w : mW) : mT := match st with
  | .int y :: .int x :: r => match mBin i x y with
    | some v => some (Lo, .int v :: r, w)
    | none => none
  | .long y :: .long x :: r => match mBiL i x y with
    | some v => some (Lo, .long v :: r, w)
    | none => none
  | .int y :: .long x :: r => match mShL i x y with
    | some v => some (Lo, .long v :: r, w)
    | none => none
  | _ => none
def mUnI (f : Int32 → Value) (Lo : mL) (st : List Value) (w : mW) : mT := match st with
  | .int x :: r => some (Lo, f x :: r, w)
  | _ => none
def mUnL (f : Int64 → Value) (Lo : mL) (st : List Value) (w : mW) : mT := match st with
  | .long x :: r => some (Lo, f x :: r, w)
  | _ => none
def mCmp (Lo : mL) (st : List Value) (w : mW) : mT := match st with
  | .long y :: .long x :: r => some (Lo, .int (lg_cmp x y) :: r, w)
  | _ => none
def mDup (Lo : mL) (st : List Value) (w : mW) : mT := match st with
  | .int x :: r => some (Lo, .int x :: .int x :: r, w)
  | .ref x :: r => some (Lo, .ref x :: .ref x :: r, w)
  | _ => none
def mPp (Lo : mL) (st : List Value) (w : mW) : mT := match st with
  | .int _ :: r => some (Lo, r, w)
  | .ref _ :: r => some (Lo, r, w)
  | _ => none
def mDup2 (Lo : mL) (st : List Value) (w : mW) : mT := match st with
  | .int x :: .ref y :: r => some (Lo, .int x :: .ref y :: .int x :: .ref y :: r, w)
  | _ => none
def mLdc (mi x : Nat) (Lo : mL) (st : List Value) (w : mW) : mT := match mLk gCon (gO mi) x with
  | some (.int v) => some (Lo, .int v :: st, w)
  | some (.ref v) => some (Lo, .ref v :: st, w)
  | _ => none
def mLdcW (mi x : Nat) (Lo : mL) (st : List Value) (w : mW) : mT := match mLk gCon (gO mi) x with
  | some (.int v) => some (Lo, .int v :: st, w)
  | _ => none
def mLdc2 (mi x : Nat) (Lo : mL) (st : List Value) (w : mW) : mT := match mLk gCon (gO mi) x with
  | some (.long v) => some (Lo, .long v :: st, w)
  | _ => none
abbrev gKi (ci k : Nat) : Nat := (gFt.getD ci []).getD k 9
abbrev gFi (ci k : Nat) : Bool := (gFf.getD ci []).getD k true
def mFld (w : mW) (a k : Nat) (t : Nat) : Value := match t with
  | 1 => .long (wJ w a k)
  | 2 => mRf (wR w a k)
  | _ => .int (wI w a k)
def mGet (mi x : Nat) (Lo : mL) (st : List Value) (w : mW) : mT := match st with
  | .ref a :: r => match mLk gF (gO mi) x with
    | some (ci, k) => if (wS w)[a]? = some (0, ci) then some (Lo, mFld w a k (gKi ci k) :: r, w) else none
    | none => none
  | _ => none
def mPut (mi x : Nat) (Lo : mL) (st : List Value) (w : mW) : mT := match st with
  | .int v :: .ref a :: r => match mLk gF (gO mi) x with
    | some (ci, k) => if (wS w)[a]? = some (0, ci) ∧ gFi ci k = false ∧ (gKi ci k = 0 ∨ (gKi ci k = 3 ∧ (v = 0 ∨ v = 1))) then some (Lo, r, wsI w (mSet (wI w) a k v)) else none
    | none => none
  | .long v :: .ref a :: r => match mLk gF (gO mi) x with
    | some (ci, k) => if (wS w)[a]? = some (0, ci) ∧ gFi ci k = false ∧ gKi ci k = 1 then some (Lo, r, wsJ w (mSet (wJ w) a k v)) else none
    | none => none
  | .ref v :: .ref a :: r => match mLk gF (gO mi) x with
    | some (ci, k) => if (wS w)[a]? = some (0, ci) ∧ gFi ci k = true ∧ gKi ci k = 2 ∧ (gMe mi).2.2.2.2.2.2 = 2 ∧ gO mi = ci then some (Lo, r, wsR w (mSet (wR w) a k (some v))) else none
    | none => none
  | _ => none
abbrev mOut (j : Int32) (n : Nat) : Prop := j < 0 ∨ n ≤ j.toNatClampNeg
def mIal (S : Nat × (Nat → Int32)) (mi : Nat) (Lo : mL) (st : List Value) (w : mW) : mT := match st with
  | .int j :: .ref a :: r => if a = mScr ∧ mi = 0 then (if mOut j S.1 then none else some (Lo, .int (S.2 j.toNatClampNeg) :: r, w)) else match (wS w)[a]? with
    | some (1, n) => if mOut j n then none else some (Lo, .int (wI w a j.toNatClampNeg) :: r, w)
    | _ => none
  | _ => none
def mBal (Lo : mL) (st : List Value) (w : mW) : mT := match st with
  | .int j :: .ref a :: r => match (wS w)[a]? with
    | some (2, n) => if mOut j n then none else some (Lo, .int (wI w a j.toNatClampNeg) :: r, w)
    | some (3, n) => if mOut j n then none else some (Lo, .int (wI w a j.toNatClampNeg) :: r, w)
    | _ => none
  | _ => none
def mLal (Lo : mL) (st : List Value) (w : mW) : mT := match st with
  | .int j :: .ref a :: r => match (wS w)[a]? with
    | some (4, n) => if mOut j n then none else some (Lo, .long (wJ w a j.toNatClampNeg) :: r, w)
    | _ => none
  | _ => none
def mAal (Lo : mL) (st : List Value) (w : mW) : mT := match st with
  | .int j :: .ref a :: r => match (wS w)[a]? with
    | some (5, n) => if mOut j n then none else some (Lo, mRf (wR w a j.toNatClampNeg) :: r, w)
    | _ => none
  | _ => none
def mIas (Lo : mL) (st : List Value) (w : mW) : mT := match st with
  | .int v :: .int j :: .ref a :: r => match (wS w)[a]? with
    | some (1, n) => if mOut j n then none else some (Lo, r, wsI w (mSet (wI w) a j.toNatClampNeg v))
    | _ => none
  | _ => none
def mBas (Lo : mL) (st : List Value) (w : mW) : mT := match st with
  | .int v :: .int j :: .ref a :: r => match (wS w)[a]? with
    | some (2, n) => if mOut j n then none else some (Lo, r, wsI w (mSet (wI w) a j.toNatClampNeg (vp_nar .byte v)))
    | some (3, n) => if mOut j n then none else some (Lo, r, wsI w (mSet (wI w) a j.toNatClampNeg (vp_nar .boolean v)))
    | _ => none
  | _ => none
def mLas (Lo : mL) (st : List Value) (w : mW) : mT := match st with
  | .long v :: .int j :: .ref a :: r => match (wS w)[a]? with
    | some (4, n) => if mOut j n then none else some (Lo, r, wsJ w (mSet (wJ w) a j.toNatClampNeg v))
    | _ => none
  | _ => none
def mAas (Lo : mL) (st : List Value) (w : mW) : mT := match st with
  | .ref v :: .int j :: .ref a :: r => match (wS w)[a]? with
    | some (5, n) => if mOut j n ∨ ¬ (wS w)[v]? = some (0, 2) then none else some (Lo, r, wsR w (mSet (wR w) a j.toNatClampNeg (some v)))
    | _ => none
  | _ => none
def mAln (S : Nat × (Nat → Int32)) (mi : Nat) (Lo : mL) (st : List Value) (w : mW) : mT := match st with
  | .ref a :: r => if a = mScr ∧ mi = 0 then some (Lo, .int (Int32.ofNat S.1) :: r, w) else match (wS w)[a]? with
    | some (1, n) => some (Lo, .int (Int32.ofNat n) :: r, w)
    | some (4, n) => some (Lo, .int (Int32.ofNat n) :: r, w)
    | _ => none
  | _ => none
def mNwa (t : ArrayType) (Lo : mL) (st : List Value) (w : mW) : mT := match st with
  | .int n :: r => if n < 0 ∨ 100000 < n.toNatClampNeg ∨ mScr ≤ (wS w).length ∨ mAk t = 9 then none else some (Lo, .ref (wS w).length :: r, mNew w (mAk t, n.toNatClampNeg) n.toNatClampNeg)
  | _ => none
def mNwq (mi x : Nat) (Lo : mL) (st : List Value) (w : mW) : mT := match st with
  | .int n :: r => if n < 0 ∨ 100000 < n.toNatClampNeg ∨ mScr ≤ (wS w).length ∨ ¬ mLk gNew (gO mi) x = some 2 then none else some (Lo, .ref (wS w).length :: r, mNew w (5, n.toNatClampNeg) n.toNatClampNeg)
  | _ => none
def mNwo (mi x : Nat) (Lo : mL) (st : List Value) (w : mW) : mT := match mLk gNew (gO mi) x with
  | some ci => if 11 ≤ ci ∨ mScr ≤ (wS w).length then none else some (Lo, .ref (wS w).length :: st, mNew w (0, ci) (gFt.getD ci []).length)
  | none => none
abbrev mCat (r : List Value) : Nat := (r.map fun v => v.category).sum
def mIsp (d mi x : Nat) (Lo : mL) (st : List Value) (w : mW) : mT := match st with
  | .ref _ :: r => if (mLk gCall (gO mi) x).map (·.1) = some 1000 ∧ 0 < d ∧ mCat r ≤ 8 then some (Lo, r, w) else none
  | _ => none
def mCpy (Lo : mL) (r : List Value) (w : mW) (a0 sp a dp n : Nat) : mT := match (wS w)[a0]?, (wS w)[a]? with
  | some (1, n0), some (1, n1) => if n0 < sp + n ∨ n1 < dp + n then none else some (Lo, r, wsI w (va_up (wI w) a (va_cpy (wI w a0) (wI w a) sp dp n)))
  | some (4, n0), some (4, n1) => if n0 < sp + n ∨ n1 < dp + n then none else some (Lo, r, wsJ w (va_up (wJ w) a (va_cpy (wJ w a0) (wJ w a) sp dp n)))
  | _, _ => none
def mM2 (f : Int32 → Int32 → Int32) (d : Nat) (Lo : mL) (st : List Value) (w : mW) : mT := match st with
  | .int y :: .int x :: r => if 0 < d ∧ mCat r ≤ 8 then some (Lo, .int (f x y) :: r, w) else none
  | _ => none
def mM1 (f : Int32 → Int32) (d : Nat) (Lo : mL) (st : List Value) (w : mW) : mT := match st with
  | .int x :: r => if 0 < d ∧ mCat r ≤ 8 then some (Lo, .int (f x) :: r, w) else none
  | _ => none
def mAcp (d : Nat) (Lo : mL) (st : List Value) (w : mW) : mT := match st with
  | .int n :: .int dp :: .ref a :: .int sp :: .ref a0 :: r => if 0 < d ∧ mCat r ≤ 8 ∧ ¬ sp < 0 ∧ ¬ dp < 0 ∧ ¬ n < 0 then mCpy Lo r w a0 sp.toNatClampNeg a dp.toNatClampNeg n.toNatClampNeg else none
  | _ => none
def mIst (d mi x : Nat) (Lo : mL) (st : List Value) (w : mW) : mT := match mLk gCall (gO mi) x with
  | some (1001, _) => mAcp d Lo st w
  | some (1005, _) => mM2 (fun x y => if x < y then y else x) d Lo st w
  | some (1006, _) => mM2 (fun x y => if y < x then y else x) d Lo st w
  | some (1007, _) => mM1 (fun x => if 0 ≤ x then x else 0 - x) d Lo st w
  | _ => none
def mSln (d : Nat) (Lo : mL) (st : List Value) (w : mW) : mT := match st with
  | .ref a :: r => if 3 ≤ d ∧ mCat r ≤ 8 ∧ mScr < a ∧ a ≤ 1000005 then some (Lo, .int (Int32.ofNat (gSb.getD (a - 1000001) []).length) :: r, w) else none
  | _ => none
def mSch (d : Nat) (Lo : mL) (st : List Value) (w : mW) : mT := match st with
  | .int j :: .ref a :: r => if 6 ≤ d ∧ mCat r ≤ 8 ∧ mScr < a ∧ a ≤ 1000005 ∧ ¬ mOut j (gSb.getD (a - 1000001) []).length then some (Lo, .int ((gSb.getD (a - 1000001) []).getD j.toNatClampNeg 0) :: r, w) else none
  | _ => none
def mIvt (d mi x : Nat) (Lo : mL) (st : List Value) (w : mW) : mT := match mLk gCall (gO mi) x with
  | some (1002, _) => mSln d Lo st w
  | some (1003, _) => mSch d Lo st w
  | _ => none
/-- one plain instruction (no branch, no call of a method with code, no end): locals, stack, world -/
def st1 (S : Nat × (Nat → Int32)) (d mi : Nat) (i : Instr) (Lo : mL) (st : List Value) (w : mW) : mT :=
  match i with
  | .iconst n => some (Lo, .int (Int32.ofInt n) :: st, w)
  | .bipush n => some (Lo, .int (Int8.ofInt n).toInt32 :: st, w)
  | .sipush n => some (Lo, .int (Int16.ofInt n).toInt32 :: st, w)
  | .lconst n => some (Lo, .long (Int64.ofNat (n : Nat)) :: st, w)
  | .ldc x => mLdc mi x Lo st w
  | .ldc_w x => mLdcW mi x Lo st w
  | .ldc2_w x => mLdc2 mi x Lo st w
  | .iload k => mLdI Lo k st w
  | .iload_n k => mLdI Lo k st w
  | .lload k => mLdL Lo k st w
  | .lload_n k => mLdL Lo k st w
  | .aload k => mLdA Lo k st w
  | .aload_n k => mLdA Lo k st w
  | .istore k => mStI Lo k st w
  | .istore_n k => mStI Lo k st w
  | .lstore k => mStL Lo k st w
  | .lstore_n k => mStL Lo k st w
  | .astore k => mStA Lo k st w
  | .astore_n k => mStA Lo k st w
  | .iinc k n => mInc Lo k n st w
  | .ineg => mUnI (fun x => .int (-x)) Lo st w
  | .lneg => mUnL (fun x => .long (-x)) Lo st w
  | .i2l => mUnI (fun x => .long x.toInt64) Lo st w
  | .l2i => mUnL (fun x => .int x.toInt32) Lo st w
  | .i2b => mUnI (fun x => .int x.toInt8.toInt32) Lo st w
  | .lcmp => mCmp Lo st w
  | .dup => mDup Lo st w
  | .pop => mPp Lo st w
  | .dup2 => mDup2 Lo st w
  | .getfield x => mGet mi x Lo st w
  | .putfield x => mPut mi x Lo st w
  | .iaload => mIal S mi Lo st w
  | .baload => mBal Lo st w
  | .laload => mLal Lo st w
  | .aaload => mAal Lo st w
  | .iastore => mIas Lo st w
  | .bastore => mBas Lo st w
  | .lastore => mLas Lo st w
  | .aastore => mAas Lo st w
  | .arraylength => mAln S mi Lo st w
  | .newarray t => mNwa t Lo st w
  | .anewarray x => mNwq mi x Lo st w
  | .new x => mNwo mi x Lo st w
  | .invokespecial x => mIsp d mi x Lo st w
  | .invokestatic x => mIst d mi x Lo st w
  | .invokevirtual x => mIvt d mi x Lo st w
  | .iadd => mDef .iadd Lo st w
  | .isub => mDef .isub Lo st w
  | .imul => mDef .imul Lo st w
  | .iand => mDef .iand Lo st w
  | .ior => mDef .ior Lo st w
  | .ixor => mDef .ixor Lo st w
  | .ishl => mDef .ishl Lo st w
  | .ishr => mDef .ishr Lo st w
  | .iushr => mDef .iushr Lo st w
  | .idiv => mDef .idiv Lo st w
  | .irem => mDef .irem Lo st w
  | .ladd => mDef .ladd Lo st w
  | .lsub => mDef .lsub Lo st w
  | .lmul => mDef .lmul Lo st w
  | .land => mDef .land Lo st w
  | .lor => mDef .lor Lo st w
  | .lxor => mDef .lxor Lo st w
  | .ldiv => mDef .ldiv Lo st w
  | .lrem => mDef .lrem Lo st w
  | .lshl => mDef .lshl Lo st w
  | .lshr => mDef .lshr Lo st w
  | .lushr => mDef .lushr Lo st w
  | _ => none
/-- which of the two ways a branch goes, by x and y: 'x = y' or 'x < y' or 'y < x', and whether that jumps -/
def mTgt (pc : Nat) (off : Int) : Nat := ((pc : Int) + off).toNat
/-- an end: none is a throw -/
abbrev mO : Type := Option (Option Value)
def mBr {α : Type} (c : Jvm.ClassFile.Cond) (x y : Int32) (t f : α) : α := match c with
  | .eq => if x = y then t else f
  | .ne => if x = y then f else t
  | .lt => if x < y then t else f
  | .ge => if x < y then f else t
  | .gt => if y < x then t else f
  | .le => if y < x then f else t
/-- the methods that the law's three helpers call -/
def mHelp : Nat → Nat
  | 246 => 103
  | 247 => 108
  | 248 => 124
  | _ => 9999
def ex (S : Nat × (Nat → Int32)) : Nat → Nat → Nat → Nat → mL → List Value → mW → Option (mO × mW)
  | 0, _, _, _, _, _, _ => none
  | n + 1, d, mi, pc, Lo, st, w => match cod mi pc with
    | none => none
    | some (i, len) => match st1 S d mi i Lo st w with
      | some (Lo1, st1, w1) => ex S n d mi (pc + len) Lo1 st1 w1
      | none => match i with
        | .goto off => ex S n d mi (mTgt pc off) Lo st w
        | .ifCond c off => match st with
          | .int x :: r => mBr c x 0 (ex S n d mi (mTgt pc off) Lo r w) (ex S n d mi (pc + len) Lo r w)
          | _ => none
        | .if_icmp c off => match st with
          | .int y :: .int x :: r => mBr c x y (ex S n d mi (mTgt pc off) Lo r w) (ex S n d mi (pc + len) Lo r w)
          | _ => none
        | .ifnonnull off => match st with
          | .ref _ :: r => ex S n d mi (mTgt pc off) Lo r w
          | .null :: r => ex S n d mi (pc + len) Lo r w
          | _ => none
        | .tableswitch df lo hi offs => match st with
          | .int x :: r => if x.toInt < lo ∨ hi < x.toInt then ex S n d mi (mTgt pc df) Lo r w else match offs[(x.toInt - lo).toNat]? with
            | some off => ex S n d mi (mTgt pc off) Lo r w
            | none => none
          | _ => none
        | .ireturn => match st with
          | [.int v] => if (gMe mi).2.2.2.1 = some .int ∨ ((gMe mi).2.2.2.1 = some .boolean ∧ (v = 0 ∨ v = 1)) then some (some (some (.int v)), w) else none
          | _ => none
        | .lreturn => match st with
          | [.long v] => if (gMe mi).2.2.2.1 = some .long then some (some (some (.long v)), w) else none
          | _ => none
        | .return_ => match st with
          | [] => if (gMe mi).2.2.2.1 = none then some (some none, w) else none
          | _ => none
        | .new x => if mLk gNew (gO mi) x = some 11 ∧ (wS w).length < mScr ∧ mCat st ≤ 8 then some (none, mNew w (0, 11) 6) else none
        | .invokevirtual x => match mLk gCall (gO mi) x with
          | some (mj, nest) => match mPop ((gMe mj).2.2.2.2.2.1 + 1) st, d with
            | some (.ref a :: as, r), d1 + 1 => if (gMe mj).2.2.2.2.2.2 = 1 ∧ mj < 1000 ∧ nest = 0 ∧ (wS w)[a]? = some (0, gO mj) ∧ mCat r ≤ 8 ∧ (mArg (.ref a :: as)).length ≤ (gMe mj).2.2.1 then (match ex S n d1 mj 0 (mIni (gMe mj).2.2.1 (.ref a :: as)) [] w with
                | some (some o, w1) => ex S n d mi (pc + len) Lo (o.toList ++ r) w1
                | _ => none) else none
            | _, _ => none
          | none => none
        | .invokespecial x => match mLk gCall (gO mi) x with
          | some (mj, nest) => match mPop ((gMe mj).2.2.2.2.2.1 + 1) st, d with
            | some (.ref a :: as, r), d1 + 1 => if (gMe mj).2.2.2.2.2.2 = 2 ∧ mj < 1000 ∧ mCat r ≤ 8 ∧ (mArg (.ref a :: as)).length ≤ (gMe mj).2.2.1 then (match ex S n d1 mj 0 (mIni (gMe mj).2.2.1 (.ref a :: as)) [] w with
                | some (some none, w1) => ex S n d mi (pc + len) Lo r w1
                | _ => none) else none
            | _, _ => none
          | none => none
        | .invokestatic x => match mLk gCall (gO mi) x with
          | some (mj, nest) => match mPop (gMe mj).2.2.2.2.2.1 st, d with
            | some (as, r), d1 + 1 => if (gMe mj).2.2.2.2.2.2 = 0 ∧ mj < 1000 ∧ mCat r ≤ 8 ∧ (mArg as).length ≤ (gMe mj).2.2.1 then
                (if 246 ≤ mj ∧ mj ≤ 248 then (match as, d1 with
                  | [.ref x0, .int p0, .int p1, .ref q], d2 + 7 => match (wS w)[q]?, (wS w)[x0]? with
                    | some (4, 1), some (0, 9) => match ex S n (d2 + 6) (mHelp mj) 0 (mIni (gMe (mHelp mj)).2.2.1 [.ref x0, .int p0, .int p1]) [] w with
                      | some (some (some (.int v)), w1) => ex S n d mi (pc + len) Lo (.int 0 :: r) (wsJ w1 (mSet (wJ w1) q 0 v.toInt64))
                      | some (none, w1) => ex S n d mi (pc + len) Lo (.int 1 :: r) w1
                      | _ => none
                    | _, _ => none
                  | _, _ => none)
                else (match ex S n d1 mj 0 (mIni (gMe mj).2.2.1 as) [] w with
                | some (some o, w1) => ex S n d mi (pc + len) Lo (o.toList ++ r) w1
                | _ => none)) else none
            | _, _ => none
          | none => none
        | _ => none
end
section
/-! numbers of cells to addresses, abstract values to values, a world to the kit's cells -/
def mAd (base b : Nat) (adK : Nat → Nat) (i : Nat) : Nat := if i < 1000000 then base + i else if i = 1000000 then b else adK (i - 1000001)
theorem mAd_lt {base b : Nat} {adK : Nat → Nat} {i : Nat} (h : i < 1000000) : mAd base b adK i = base + i := if_pos h
theorem mAd_scr {base b : Nat} {adK : Nat → Nat} : mAd base b adK mScr = b := rfl
def mCv (ad : Nat → Nat) : Value → Value
  | .ref i => .ref (ad i)
  | v => v
theorem mCv_cat (ad : Nat → Nat) (v : Value) : (mCv ad v).category = v.category := by cases v <;> rfl
theorem mCv_rf (ad : Nat → Nat) (o : Option Nat) : mCv ad (mRf o) = va_rf (o.map ad) := by cases o <;> rfl
theorem mCats (ad : Nat → Nat) : ∀ (st : List Value), mCat (st.map (mCv ad)) = mCat st
  | [] => rfl
  | v :: r => by
    have := mCats ad r
    simp only [mCat, List.map_cons, List.sum_cons, mCv_cat] at this ⊢
    rw [this]
/-! locals -/
def mLv (ad : Nat → Nat) (Lo : mL) : List (Nat × Value) := (List.range Lo.length).filterMap (fun i => (Lo.getD i none).map (fun v => (i, mCv ad v)))
theorem mLv_mem {ad : Nat → Nat} {Lo : mL} {q : Nat × Value} : q ∈ mLv ad Lo ↔ ∃ v, Lo.getD q.1 none = some v ∧ q.2 = mCv ad v := by
  unfold mLv
  rw [List.mem_filterMap]
  constructor
  · rintro ⟨i, -, h⟩
    cases hv : Lo.getD i none with
    | none => rw [hv] at h; cases h
    | some v => rw [hv] at h; cases h; exact ⟨v, hv, rfl⟩
  · rintro ⟨v, h1, h2⟩
    refine ⟨q.1, List.mem_range.mpr ?_, ?_⟩
    · rcases Nat.lt_or_ge q.1 Lo.length with h | h
      · exact h
      · rw [List.getD_eq_getElem?_getD, List.getElem?_eq_none h] at h1
        cases h1
    · rw [h1, Option.map_some, ← h2]
theorem mLv_ld {ls : Array Slot} {nL : Nat} {ad : Nat → Nat} {Lo : mL} {k : Nat} {v : Value} (h : lv_has ls nL (mLv ad Lo)) (hk : Lo.getD k none = some v) : ls[k]? = some (.val (mCv ad v)) := h.2.2 (k, mCv ad v) (mLv_mem.mpr ⟨v, hk, rfl⟩)
theorem mGetD_set {Lo : mL} {i j : Nat} {x : Option Value} : (Lo.set i x).getD j none = if j = i then (if i < Lo.length then x else none) else Lo.getD j none := by
  rw [List.getD_eq_getElem?_getD, List.getD_eq_getElem?_getD, List.getElem?_set]
  by_cases h : i = j
  · subst h
    by_cases h2 : i < Lo.length <;> simp [h2]
  · rw [if_neg h, if_neg (fun q => h q.symm)]
theorem mClr_len {Lo : mL} {i : Nat} : (mClr Lo i).length = Lo.length := by
  cases i with
  | zero => rfl
  | succ i =>
    show (mClr2 (Lo.getD i none) Lo i).length = Lo.length
    unfold mClr2
    split <;> simp
theorem mClr_get {Lo : mL} {i j : Nat} {v : Value} (h : (mClr Lo i).getD j none = some v) : Lo.getD j none = some v ∧ ¬ (j + 1 = i ∧ v.category = 2) := by
  cases i with
  | zero => exact ⟨h, fun q => absurd q.1 (by omega)⟩
  | succ i =>
    have key : mClr Lo (i + 1) = Lo.set i none ∨ ((∀ u, Lo.getD i none = some u → ¬ u.category = 2) ∧ mClr Lo (i + 1) = Lo) := by
      show mClr2 (Lo.getD i none) Lo i = Lo.set i none ∨ ((∀ u, Lo.getD i none = some u → ¬ u.category = 2) ∧ mClr2 (Lo.getD i none) Lo i = Lo)
      cases hu : Lo.getD i none with
      | none => exact Or.inr ⟨fun u q => (by cases q), rfl⟩
      | some u =>
        cases u with
        | long x => exact Or.inl rfl
        | double x => exact Or.inl rfl
        | int x => exact Or.inr ⟨fun u q => (by cases q; intro z; cases z), rfl⟩
        | float x => exact Or.inr ⟨fun u q => (by cases q; intro z; cases z), rfl⟩
        | null => exact Or.inr ⟨fun u q => (by cases q; intro z; cases z), rfl⟩
        | ref x => exact Or.inr ⟨fun u q => (by cases q; intro z; cases z), rfl⟩
        | retAddr x => exact Or.inr ⟨fun u q => (by cases q; intro z; cases z), rfl⟩
    rcases key with h3 | ⟨h1, h3⟩
    · rw [h3, mGetD_set] at h
      by_cases hj : j = i
      · rw [if_pos hj] at h
        split at h <;> cases h
      · rw [if_neg hj] at h
        exact ⟨h, fun q => hj (by omega)⟩
    · rw [h3] at h
      refine ⟨h, fun q => ?_⟩
      have hj : j = i := by omega
      subst hj
      exact h1 v h q.2
theorem mLv_st1 {ls' : Array Slot} {nL : Nat} {ad : Nat → Nat} {Lo Lo' : mL} {i : Nat} {v : Value} (hs : mSt1 Lo i v = some Lo') (h : lv_has ls' nL ((i, mCv ad v) :: (mLv ad Lo).filter (fun q => !(q.1 == i) && !(q.1 + 1 == i && q.2.category == 2)))) : lv_has ls' nL (mLv ad Lo') ∧ Lo'.length = Lo.length := by
  unfold mSt1 at hs
  split at hs
  · rename_i hi
    cases hs
    refine ⟨⟨h.1, h.2.1, fun q hq => h.2.2 q ?_⟩, by rw [List.length_set, mClr_len]⟩
    obtain ⟨u, h1, h2⟩ := mLv_mem.mp hq
    rw [mGetD_set] at h1
    by_cases hj : q.1 = i
    · rw [if_pos hj, if_pos (by rw [mClr_len]; exact hi)] at h1
      cases h1
      exact List.mem_cons.mpr (Or.inl (Prod.ext hj h2))
    · rw [if_neg hj] at h1
      obtain ⟨h3, h4⟩ := mClr_get h1
      refine List.mem_cons_of_mem _ (List.mem_filter.mpr ⟨mLv_mem.mpr ⟨u, h3, h2⟩, ?_⟩)
      have e1 : (q.1 == i) = false := by simp [hj]
      have e2 : (q.1 + 1 == i && q.2.category == 2) = false := by
        rw [h2, mCv_cat]
        by_cases a : q.1 + 1 = i
        · have : ¬ u.category = 2 := fun z => h4 ⟨a, z⟩
          simp [this]
        · simp [a]
      rw [e1, e2]
      rfl
  · cases hs
theorem mLv_st2 {ls' : Array Slot} {nL : Nat} {ad : Nat → Nat} {Lo Lo' : mL} {i : Nat} {v : Value} (hs : mSt2 Lo i v = some Lo') (h : lv_has ls' nL ((i, mCv ad v) :: (mLv ad Lo).filter (fun q => !(q.1 == i) && (!(q.1 == i + 1) && !(q.1 + 1 == i && q.2.category == 2))))) : lv_has ls' nL (mLv ad Lo') ∧ Lo'.length = Lo.length := by
  unfold mSt2 at hs
  split at hs
  · rename_i hi
    cases hs
    refine ⟨⟨h.1, h.2.1, fun q hq => h.2.2 q ?_⟩, by rw [List.length_set, List.length_set, mClr_len]⟩
    obtain ⟨u, h1, h2⟩ := mLv_mem.mp hq
    rw [mGetD_set] at h1
    by_cases hj1 : q.1 = i + 1
    · rw [if_pos hj1] at h1
      split at h1 <;> cases h1
    · rw [if_neg hj1, mGetD_set] at h1
      by_cases hj : q.1 = i
      · rw [if_pos hj, if_pos (by rw [mClr_len]; omega)] at h1
        cases h1
        exact List.mem_cons.mpr (Or.inl (Prod.ext hj h2))
      · rw [if_neg hj] at h1
        obtain ⟨h3, h4⟩ := mClr_get h1
        refine List.mem_cons_of_mem _ (List.mem_filter.mpr ⟨mLv_mem.mpr ⟨u, h3, h2⟩, ?_⟩)
        have e1 : (q.1 == i) = false := by simp [hj]
        have e3 : (q.1 == i + 1) = false := by simp [hj1]
        have e2 : (q.1 + 1 == i && q.2.category == 2) = false := by
          rw [h2, mCv_cat]
          by_cases a : q.1 + 1 = i
          · have : ¬ u.category = 2 := fun z => h4 ⟨a, z⟩
            simp [this]
          · simp [a]
        rw [e1, e2, e3]
        rfl
  · cases hs
/-! a method's start -/
theorem mArg_sl (ad : Nat → Nat) : ∀ (as : List Value), (lg_sl (as.map (mCv ad))).length = (mArg as).length
  | [] => rfl
  | v :: r => by
    have ih := mArg_sl ad r
    unfold lg_sl at ih ⊢
    rw [List.map_cons, List.flatMap_cons, List.length_append, ih, mCv_cat]
    cases v <;> simp [mArg, Value.category] <;> omega
theorem mArg_at (ad : Nat → Nat) : ∀ (as : List Value) (i j : Nat) (v : Value), (mArg as).getD j none = some v → (i + j, mCv ad v) ∈ lv_args i (as.map (mCv ad))
  | [], i, j, v, h => by simp [mArg] at h
  | u :: r, i, j, v, h => by
    have ih := mArg_at ad r
    rw [List.map_cons, lv_args, mCv_cat]
    have one : ∀ (h : (some u :: mArg r).getD j none = some v), (i + j, mCv ad v) ∈ (i, mCv ad u) :: lv_args (i + 1) (r.map (mCv ad)) := by
      intro h
      cases j with
      | zero =>
        simp at h
        subst h
        exact List.mem_cons_self
      | succ j =>
        have := ih (i + 1) j v (by simpa using h)
        rw [show i + 1 + j = i + (j + 1) by omega] at this
        exact List.mem_cons_of_mem _ this
    have two : ∀ (h : (some u :: none :: mArg r).getD j none = some v), (i + j, mCv ad v) ∈ (i, mCv ad u) :: lv_args (i + 2) (r.map (mCv ad)) := by
      intro h
      cases j with
      | zero =>
        simp at h
        subst h
        exact List.mem_cons_self
      | succ j =>
        cases j with
        | zero => simp at h
        | succ j =>
          have := ih (i + 2) j v (by simpa using h)
          rw [show i + 2 + j = i + (j + 1 + 1) by omega] at this
          exact List.mem_cons_of_mem _ this
    cases u with
    | long x => exact two h
    | double x => exact two h
    | int x => exact one h
    | float x => exact one h
    | null => exact one h
    | ref x => exact one h
    | retAddr x => exact one h
theorem mIni_len {ml : Nat} {as : List Value} (h : (mArg as).length ≤ ml) : (mIni ml as).length = ml := by
  unfold mIni
  rw [List.length_append, List.length_replicate]
  omega
theorem mIni_has {ad : Nat → Nat} {ml : Nat} {as : List Value} (h : (mArg as).length ≤ ml) : lv_has ((lg_sl (as.map (mCv ad)) ++ List.replicate (ml - (lg_sl (as.map (mCv ad))).length) Slot.unset).toArray) ml (mLv ad (mIni ml as)) := by
  have hl := lv_entry (as.map (mCv ad)) (n := ml) (by rw [mArg_sl]; exact h)
  refine ⟨hl.1, hl.2.1, fun q hq => hl.2.2 q ?_⟩
  obtain ⟨v, h1, h2⟩ := mLv_mem.mp hq
  have h3 : (mArg as).getD q.1 none = some v := by
    unfold mIni at h1
    rw [List.getD_eq_getElem?_getD] at h1 ⊢
    by_cases hq : q.1 < (mArg as).length
    · rw [List.getElem?_append_left hq] at h1
      exact h1
    · rw [List.getElem?_append_right (by omega)] at h1
      by_cases hr : q.1 - (mArg as).length < ml - (mArg as).length
      · rw [List.getElem?_replicate, if_pos hr] at h1
        cases h1
      · rw [List.getElem?_replicate, if_neg hr] at h1
        cases h1
  have := mArg_at ad as 0 q.1 v h3
  rw [Nat.zero_add, ← h2] at this
  exact this
/-! the world as cells -/
def mFs (ad : Nat → Nat) (w : mW) (i ci : Nat) : List Value := (List.range (gFt.getD ci []).length).map (fun k => mCv ad (mFld w i k (gKi ci k)))
def mCell (cy : Nat → ClassId) (ad : Nat → Nat) (w : mW) (i : Nat) : va_E := match (wS w).getD i (0, 11) with
  | (0, ci) => .inr (ci, mFs ad w i ci)
  | (4, n) => .inl (cy 4, n, .inr (.inl (wJ w i)))
  | (5, n) => .inl (cy 5, n, .inr (.inr (.inr (.inr (fun k => (wR w i k).map ad)))))
  | (t, n) => .inl (cy t, n, .inl (wI w i))
def mWs (cy : Nat → ClassId) (ad : Nat → Nat) (w : mW) : va_W := (List.range (wS w).length).map (fun i => (ad i, mCell cy ad w i))
theorem mWs_len {cy : Nat → ClassId} {ad : Nat → Nat} {w : mW} : (mWs cy ad w).length = w.1.length := by simp [mWs]
theorem mWs_get {cy : Nat → ClassId} {ad : Nat → Nat} {w : mW} {i : Nat} (h : i < w.1.length) : (mWs cy ad w)[i]? = some (ad i, mCell cy ad w i) := by simp [mWs, h]
theorem mWs_of {cy : Nat → ClassId} {ad : Nat → Nat} {w : mW} {i : Nat} {q : Nat × va_E} (h : (mWs cy ad w)[i]? = some q) : i < w.1.length ∧ q = (ad i, mCell cy ad w i) := by
  have hl : i < w.1.length := by rw [← mWs_len (cy := cy) (ad := ad)]; exact (List.getElem?_eq_some_iff.mp h).1
  exact ⟨hl, Option.some.inj (h.symm.trans (mWs_get hl))⟩
theorem mSh {w : mW} {a : Nat} {q : Nat × Nat} (h : (wS w)[a]? = some q) : a < w.1.length ∧ (wS w).getD a (0, 11) = q := ⟨(List.getElem?_eq_some_iff.mp h).1, by rw [List.getD_eq_getElem?_getD, h]; rfl⟩
theorem mCell_o {cy : Nat → ClassId} {ad : Nat → Nat} {w : mW} {a ci : Nat} (h : (wS w)[a]? = some (0, ci)) : mCell cy ad w a = .inr (ci, mFs ad w a ci) := by unfold mCell; rw [(mSh h).2]; rfl
theorem mCell_1 {cy : Nat → ClassId} {ad : Nat → Nat} {w : mW} {a n : Nat} (h : (wS w)[a]? = some (1, n)) : mCell cy ad w a = .inl (cy 1, n, .inl (wI w a)) := by unfold mCell; rw [(mSh h).2]; rfl
theorem mCell_2 {cy : Nat → ClassId} {ad : Nat → Nat} {w : mW} {a n : Nat} (h : (wS w)[a]? = some (2, n)) : mCell cy ad w a = .inl (cy 2, n, .inl (wI w a)) := by unfold mCell; rw [(mSh h).2]; rfl
theorem mCell_3 {cy : Nat → ClassId} {ad : Nat → Nat} {w : mW} {a n : Nat} (h : (wS w)[a]? = some (3, n)) : mCell cy ad w a = .inl (cy 3, n, .inl (wI w a)) := by unfold mCell; rw [(mSh h).2]; rfl
theorem mCell_4 {cy : Nat → ClassId} {ad : Nat → Nat} {w : mW} {a n : Nat} (h : (wS w)[a]? = some (4, n)) : mCell cy ad w a = .inl (cy 4, n, .inr (.inl (wJ w a))) := by unfold mCell; rw [(mSh h).2]; rfl
theorem mCell_5 {cy : Nat → ClassId} {ad : Nat → Nat} {w : mW} {a n : Nat} (h : (wS w)[a]? = some (5, n)) : mCell cy ad w a = .inl (cy 5, n, .inr (.inr (.inr (.inr (fun k => (wR w a k).map ad))))) := by unfold mCell; rw [(mSh h).2]; rfl
theorem mCell_eq {cy : Nat → ClassId} {ad : Nat → Nat} {w w' : mW} {i : Nat} (h0 : (wS w').getD i (0, 11) = (wS w).getD i (0, 11)) (h1 : wI w' i = wI w i) (h2 : wJ w' i = wJ w i) (h3 : wR w' i = wR w i) : mCell cy ad w' i = mCell cy ad w i := by
  have hf : ∀ k t, mFld w' i k t = mFld w i k t := by
    intro k t
    unfold mFld
    rw [h1, h2, h3]
  have hg : ∀ ci, mFs ad w' i ci = mFs ad w i ci := by
    intro ci
    unfold mFs
    simp only [hf]
  unfold mCell
  rw [h0, h1, h2, h3]
  simp only [hg]
theorem mWs_set {cy : Nat → ClassId} {ad : Nat → Nat} {w w' : mW} {a : Nat} {e : va_E} (h0 : w'.1 = w.1) (ha : a < w.1.length) (he : mCell cy ad w' a = e) (ho : ∀ j, j ≠ a → mCell cy ad w' j = mCell cy ad w j) : (mWs cy ad w).set a (ad a, e) = mWs cy ad w' := by
  apply List.ext_getElem?
  intro j
  by_cases hl : j < w.1.length
  · rw [mWs_get (w := w') (by rw [h0]; exact hl)]
    by_cases hj : a = j
    · subst hj
      rw [List.getElem?_set_self (by rw [mWs_len]; exact hl), he]
    · rw [List.getElem?_set_ne hj, mWs_get hl, ho j (fun q => hj q.symm)]
  · rw [List.getElem?_eq_none (by rw [List.length_set, mWs_len]; omega), List.getElem?_eq_none (by rw [mWs_len, h0]; omega)]
theorem mSet_o {α : Type} {f : Nat → Nat → α} {a k j : Nat} {v : α} (h : j ≠ a) : mSet f a k v j = f j := if_neg h
theorem mSet_s {α : Type} {f : Nat → Nat → α} {a k : Nat} {v : α} : mSet f a k v a = va_up (f a) k v := if_pos rfl
theorem mUp_o {α : Type} {f : Nat → α} {k j : Nat} {v : α} (h : j ≠ k) : va_up f k v j = f j := if_neg h
theorem mUp_s {α : Type} {f : Nat → α} {k : Nat} {v : α} : va_up f k v k = v := if_pos rfl
theorem mFs_set {ad : Nat → Nat} {w w' : mW} {a ci k : Nat} {v : Value} (hk : k < (gFt.getD ci []).length) (hv : mCv ad (mFld w' a k (gKi ci k)) = v) (ho : ∀ j, j ≠ k → mFld w' a j (gKi ci j) = mFld w a j (gKi ci j)) : mFs ad w' a ci = (mFs ad w a ci).set k v := by
  apply List.ext_getElem?
  intro j
  unfold mFs
  by_cases hl : j < (gFt.getD ci []).length
  · by_cases hj : k = j
    · subst hj
      rw [List.getElem?_set_self (by simpa using hl)]
      simp only [List.getElem?_map, List.getElem?_range hl, Option.map_some, hv]
    · rw [List.getElem?_set_ne hj]
      simp only [List.getElem?_map, List.getElem?_range hl, Option.map_some, ho j (fun q => hj q.symm)]
  · rw [List.getElem?_eq_none (by simp only [List.length_map, List.length_range]; omega), List.getElem?_eq_none (by simp only [List.length_set, List.length_map, List.length_range]; omega)]
theorem mFs_get {ad : Nat → Nat} {w : mW} {a ci k : Nat} (hk : k < (gFt.getD ci []).length) : (mFs ad w a ci)[k]? = some (mCv ad (mFld w a k (gKi ci k))) := by
  unfold mFs
  simp only [List.getElem?_map, List.getElem?_range hk, Option.map_some]
theorem mWs_new {cy : Nat → ClassId} {ad : Nat → Nat} {w : mW} {q : Nat × Nat} {n : Nat} {e : va_E} (he : mCell cy ad (mNew w q n) w.1.length = e) : mWs cy ad w ++ [(ad w.1.length, e)] = mWs cy ad (mNew w q n) := by
  have h1 : wS (mNew w q n) = w.1 ++ [q] := rfl
  unfold mWs
  rw [h1, List.length_append, List.length_singleton, List.range_succ, List.map_append, List.map_singleton, he]
  refine congrArg (· ++ _) (List.map_congr_left fun i hi => ?_)
  have hi : i < w.1.length := List.mem_range.mp hi
  have hne : i ≠ w.1.length := by omega
  rw [mCell_eq (w := w) (w' := mNew w q n)]
  · rw [h1, List.getD_eq_getElem?_getD, List.getD_eq_getElem?_getD, List.getElem?_append_left hi]
  · exact mUp_o hne
  · exact mUp_o hne
  · exact mUp_o hne
theorem mNew_sh {w : mW} {q : Nat × Nat} {n : Nat} : (wS (mNew w q n))[w.1.length]? = some q := by
  show (w.1 ++ [q])[w.1.length]? = some q
  simp
theorem mD {cy : Nat → ClassId} {base b : Nat} {adK : Nat → Nat} {w : mW} (h : w.1.length ≤ 1000000) : va_D (fun q => base ≤ q) (mWs cy (mAd base b adK) w) := by
  refine ⟨fun i j x y hi hj hxy => ?_, fun k q hk => ?_⟩
  · obtain ⟨h1, rfl⟩ := mWs_of hi
    obtain ⟨h2, rfl⟩ := mWs_of hj
    dsimp only at hxy
    rw [mAd_lt (by omega), mAd_lt (by omega)] at hxy
    omega
  · obtain ⟨h1, rfl⟩ := mWs_of hk
    dsimp only
    rw [mAd_lt (by omega)]
    omega
theorem mSize {D : va_G} {cl : List vw_C} {cy : Nat → ClassId} {base b : Nat} {adK : Nat → Nat} {w : mW} {H : Heap} (h : w.1.length ≤ 1000000) (hb : base ≤ H.size) (hP : va_P D cl (mWs cy (mAd base b adK) w) H) : base + w.1.length ≤ H.size := by
  rcases Nat.eq_zero_or_pos w.1.length with h0 | h0
  · omega
  · have := (hP (w.1.length - 1) _ (mWs_get (by omega))).lt
    dsimp only at this
    rw [mAd_lt (by omega)] at this
    omega
end
section
/-! what each plain instruction asks and gives -/
section INV
variable {S : Nat × (Nat → Int32)} {d mi x k : Nat} {Lo : mL} {st : List Value} {w : mW} {q : mL × List Value × mW}
theorem mLdI_inv (h : mLdI Lo k st w = some q) : ∃ x, Lo.getD k none = some (.int x) ∧ q = (Lo, .int x :: st, w) := by
  unfold mLdI at h
  split at h
  · rename_i v hv; cases h; exact ⟨v, hv, rfl⟩
  · cases h
theorem mLdL_inv (h : mLdL Lo k st w = some q) : ∃ x, Lo.getD k none = some (.long x) ∧ q = (Lo, .long x :: st, w) := by
  unfold mLdL at h
  split at h
  · rename_i v hv; cases h; exact ⟨v, hv, rfl⟩
  · cases h
theorem mLdA_inv (h : mLdA Lo k st w = some q) : ∃ x, Lo.getD k none = some (.ref x) ∧ q = (Lo, .ref x :: st, w) := by
  unfold mLdA at h
  split at h
  · rename_i v hv; cases h; exact ⟨v, hv, rfl⟩
  · cases h
theorem mStI_inv (h : mStI Lo k st w = some q) : ∃ x r L, st = .int x :: r ∧ mSt1 Lo k (.int x) = some L ∧ q = (L, r, w) := by
  unfold mStI at h
  split at h
  · split at h
    · rename_i L hL; cases h; exact ⟨_, _, L, rfl, hL, rfl⟩
    · cases h
  · cases h
theorem mStL_inv (h : mStL Lo k st w = some q) : ∃ x r L, st = .long x :: r ∧ mSt2 Lo k (.long x) = some L ∧ q = (L, r, w) := by
  unfold mStL at h
  split at h
  · split at h
    · rename_i L hL; cases h; exact ⟨_, _, L, rfl, hL, rfl⟩
    · cases h
  · cases h
theorem mStA_inv (h : mStA Lo k st w = some q) : ∃ x r L, st = .ref x :: r ∧ mSt1 Lo k (.ref x) = some L ∧ q = (L, r, w) := by
  unfold mStA at h
  split at h
  · split at h
    · rename_i L hL; cases h; exact ⟨_, _, L, rfl, hL, rfl⟩
    · cases h
  · cases h
theorem mInc_inv {n : Int} (h : mInc Lo k n st w = some q) : ∃ x L, Lo.getD k none = some (.int x) ∧ mSt1 Lo k (.int (x + Int32.ofInt n)) = some L ∧ q = (L, st, w) := by
  unfold mInc at h
  split at h
  · rename_i v hv
    split at h
    · rename_i L hL; cases h; exact ⟨v, L, hv, hL, rfl⟩
    · cases h
  · cases h
theorem mDef_inv {i : Instr} (h : mDef i Lo st w = some q) : (∃ x y r v, st = .int y :: .int x :: r ∧ mBin i x y = some v ∧ q = (Lo, .int v :: r, w)) ∨ (∃ x y r v, st = .long y :: .long x :: r ∧ mBiL i x y = some v ∧ q = (Lo, .long v :: r, w)) ∨ (∃ x y r v, st = .int y :: .long x :: r ∧ mShL i x y = some v ∧ q = (Lo, .long v :: r, w)) := by
  unfold mDef at h
  split at h
  · split at h
    · rename_i v hv; cases h; exact Or.inl ⟨_, _, _, v, rfl, hv, rfl⟩
    · cases h
  · split at h
    · rename_i v hv; cases h; exact Or.inr (Or.inl ⟨_, _, _, v, rfl, hv, rfl⟩)
    · cases h
  · split at h
    · rename_i v hv; cases h; exact Or.inr (Or.inr ⟨_, _, _, v, rfl, hv, rfl⟩)
    · cases h
  · cases h
theorem mUnI_inv {f : Int32 → Value} (h : mUnI f Lo st w = some q) : ∃ x r, st = .int x :: r ∧ q = (Lo, f x :: r, w) := by
  unfold mUnI at h
  split at h
  · cases h; exact ⟨_, _, rfl, rfl⟩
  · cases h
theorem mUnL_inv {f : Int64 → Value} (h : mUnL f Lo st w = some q) : ∃ x r, st = .long x :: r ∧ q = (Lo, f x :: r, w) := by
  unfold mUnL at h
  split at h
  · cases h; exact ⟨_, _, rfl, rfl⟩
  · cases h
theorem mCmp_inv (h : mCmp Lo st w = some q) : ∃ x y r, st = .long y :: .long x :: r ∧ q = (Lo, .int (lg_cmp x y) :: r, w) := by
  unfold mCmp at h
  split at h
  · cases h; exact ⟨_, _, _, rfl, rfl⟩
  · cases h
theorem mDup_inv (h : mDup Lo st w = some q) : ∃ v r, st = v :: r ∧ v.category = 1 ∧ q = (Lo, v :: v :: r, w) := by
  unfold mDup at h
  split at h
  · cases h; exact ⟨_, _, rfl, rfl, rfl⟩
  · cases h; exact ⟨_, _, rfl, rfl, rfl⟩
  · cases h
theorem mPp_inv (h : mPp Lo st w = some q) : ∃ v r, st = v :: r ∧ v.category = 1 ∧ q = (Lo, r, w) := by
  unfold mPp at h
  split at h
  · cases h; exact ⟨_, _, rfl, rfl, rfl⟩
  · cases h; exact ⟨_, _, rfl, rfl, rfl⟩
  · cases h
theorem mDup2_inv (h : mDup2 Lo st w = some q) : ∃ x y r, st = .int x :: .ref y :: r ∧ q = (Lo, .int x :: .ref y :: .int x :: .ref y :: r, w) := by
  unfold mDup2 at h
  split at h
  · cases h; exact ⟨_, _, _, rfl, rfl⟩
  · cases h
theorem mLdc_inv (h : mLdc mi x Lo st w = some q) : (∃ v, mLk gCon (gO mi) x = some (.int v) ∧ q = (Lo, .int v :: st, w)) ∨ ∃ v, mLk gCon (gO mi) x = some (.ref v) ∧ q = (Lo, .ref v :: st, w) := by
  unfold mLdc at h
  split at h
  · rename_i v hv; cases h; exact Or.inl ⟨v, hv, rfl⟩
  · rename_i v hv; cases h; exact Or.inr ⟨v, hv, rfl⟩
  · cases h
theorem mLdcW_inv (h : mLdcW mi x Lo st w = some q) : ∃ v, mLk gCon (gO mi) x = some (.int v) ∧ q = (Lo, .int v :: st, w) := by
  unfold mLdcW at h
  split at h
  · rename_i v hv; cases h; exact ⟨v, hv, rfl⟩
  · cases h
theorem mLdc2_inv (h : mLdc2 mi x Lo st w = some q) : ∃ v, mLk gCon (gO mi) x = some (.long v) ∧ q = (Lo, .long v :: st, w) := by
  unfold mLdc2 at h
  split at h
  · rename_i v hv; cases h; exact ⟨v, hv, rfl⟩
  · cases h
theorem mGet_inv (h : mGet mi x Lo st w = some q) : ∃ a r ci k, st = .ref a :: r ∧ mLk gF (gO mi) x = some (ci, k) ∧ (wS w)[a]? = some (0, ci) ∧ q = (Lo, mFld w a k (gKi ci k) :: r, w) := by
  unfold mGet at h
  split at h
  · split at h
    · rename_i ci k hk
      split at h
      · rename_i hs; cases h; exact ⟨_, _, ci, k, rfl, hk, hs, rfl⟩
      · cases h
    · cases h
  · cases h
theorem mPut_inv (h : mPut mi x Lo st w = some q) : ∃ v a r ci k w1, st = v :: .ref a :: r ∧ mLk gF (gO mi) x = some (ci, k) ∧ (wS w)[a]? = some (0, ci) ∧ q = (Lo, r, w1) ∧ ((∃ z, v = .int z ∧ gFi ci k = false ∧ (gKi ci k = 0 ∨ (gKi ci k = 3 ∧ (z = 0 ∨ z = 1))) ∧ w1 = wsI w (mSet (wI w) a k z)) ∨ (∃ z, v = .long z ∧ gFi ci k = false ∧ gKi ci k = 1 ∧ w1 = wsJ w (mSet (wJ w) a k z)) ∨ (∃ z, v = .ref z ∧ gFi ci k = true ∧ gKi ci k = 2 ∧ (gMe mi).2.2.2.2.2.2 = 2 ∧ gO mi = ci ∧ w1 = wsR w (mSet (wR w) a k (some z)))) := by
  unfold mPut at h
  split at h
  · split at h
    · rename_i ci k hk
      split at h
      · rename_i hs; cases h; exact ⟨_, _, _, ci, k, _, rfl, hk, hs.1, rfl, Or.inl ⟨_, rfl, hs.2.1, hs.2.2, rfl⟩⟩
      · cases h
    · cases h
  · split at h
    · rename_i ci k hk
      split at h
      · rename_i hs; cases h; exact ⟨_, _, _, ci, k, _, rfl, hk, hs.1, rfl, Or.inr (Or.inl ⟨_, rfl, hs.2.1, hs.2.2, rfl⟩)⟩
      · cases h
    · cases h
  · split at h
    · rename_i ci k hk
      split at h
      · rename_i hs; cases h; exact ⟨_, _, _, ci, k, _, rfl, hk, hs.1, rfl, Or.inr (Or.inr ⟨_, rfl, hs.2.1, hs.2.2.1, hs.2.2.2.1, hs.2.2.2.2, rfl⟩)⟩
      · cases h
    · cases h
  · cases h
theorem mIal_inv (h : mIal S mi Lo st w = some q) : ∃ j a r, st = .int j :: .ref a :: r ∧ ((a = mScr ∧ mi = 0 ∧ ¬ mOut j S.1 ∧ q = (Lo, .int (S.2 j.toNatClampNeg) :: r, w)) ∨ ∃ n, (wS w)[a]? = some (1, n) ∧ ¬ mOut j n ∧ q = (Lo, .int (wI w a j.toNatClampNeg) :: r, w)) := by
  unfold mIal at h
  split at h
  · split at h
    · rename_i ha
      split at h
      · cases h
      · rename_i ho; cases h; exact ⟨_, _, _, rfl, Or.inl ⟨ha.1, ha.2, ho, rfl⟩⟩
    · split at h
      · rename_i n hn
        split at h
        · cases h
        · rename_i ho; cases h; exact ⟨_, _, _, rfl, Or.inr ⟨n, hn, ho, rfl⟩⟩
      · cases h
  · cases h
theorem mBal_inv (h : mBal Lo st w = some q) : ∃ j a r n, st = .int j :: .ref a :: r ∧ ((wS w)[a]? = some (2, n) ∨ (wS w)[a]? = some (3, n)) ∧ ¬ mOut j n ∧ q = (Lo, .int (wI w a j.toNatClampNeg) :: r, w) := by
  unfold mBal at h
  split at h
  · split at h
    · rename_i n hn
      split at h
      · cases h
      · rename_i ho; cases h; exact ⟨_, _, _, n, rfl, Or.inl hn, ho, rfl⟩
    · rename_i n hn
      split at h
      · cases h
      · rename_i ho; cases h; exact ⟨_, _, _, n, rfl, Or.inr hn, ho, rfl⟩
    · cases h
  · cases h
theorem mLal_inv (h : mLal Lo st w = some q) : ∃ j a r n, st = .int j :: .ref a :: r ∧ (wS w)[a]? = some (4, n) ∧ ¬ mOut j n ∧ q = (Lo, .long (wJ w a j.toNatClampNeg) :: r, w) := by
  unfold mLal at h
  split at h
  · split at h
    · rename_i n hn
      split at h
      · cases h
      · rename_i ho; cases h; exact ⟨_, _, _, n, rfl, hn, ho, rfl⟩
    · cases h
  · cases h
theorem mAal_inv (h : mAal Lo st w = some q) : ∃ j a r n, st = .int j :: .ref a :: r ∧ (wS w)[a]? = some (5, n) ∧ ¬ mOut j n ∧ q = (Lo, mRf (wR w a j.toNatClampNeg) :: r, w) := by
  unfold mAal at h
  split at h
  · split at h
    · rename_i n hn
      split at h
      · cases h
      · rename_i ho; cases h; exact ⟨_, _, _, n, rfl, hn, ho, rfl⟩
    · cases h
  · cases h
theorem mIas_inv (h : mIas Lo st w = some q) : ∃ v j a r n, st = .int v :: .int j :: .ref a :: r ∧ (wS w)[a]? = some (1, n) ∧ ¬ mOut j n ∧ q = (Lo, r, wsI w (mSet (wI w) a j.toNatClampNeg v)) := by
  unfold mIas at h
  split at h
  · split at h
    · rename_i n hn
      split at h
      · cases h
      · rename_i ho; cases h; exact ⟨_, _, _, _, n, rfl, hn, ho, rfl⟩
    · cases h
  · cases h
theorem mBas_inv (h : mBas Lo st w = some q) : ∃ v j a r n, st = .int v :: .int j :: .ref a :: r ∧ ¬ mOut j n ∧ (((wS w)[a]? = some (2, n) ∧ q = (Lo, r, wsI w (mSet (wI w) a j.toNatClampNeg (vp_nar .byte v)))) ∨ ((wS w)[a]? = some (3, n) ∧ q = (Lo, r, wsI w (mSet (wI w) a j.toNatClampNeg (vp_nar .boolean v))))) := by
  unfold mBas at h
  split at h
  · split at h
    · rename_i n hn
      split at h
      · cases h
      · rename_i ho; cases h; exact ⟨_, _, _, _, n, rfl, ho, Or.inl ⟨hn, rfl⟩⟩
    · rename_i n hn
      split at h
      · cases h
      · rename_i ho; cases h; exact ⟨_, _, _, _, n, rfl, ho, Or.inr ⟨hn, rfl⟩⟩
    · cases h
  · cases h
theorem mLas_inv (h : mLas Lo st w = some q) : ∃ v j a r n, st = .long v :: .int j :: .ref a :: r ∧ (wS w)[a]? = some (4, n) ∧ ¬ mOut j n ∧ q = (Lo, r, wsJ w (mSet (wJ w) a j.toNatClampNeg v)) := by
  unfold mLas at h
  split at h
  · split at h
    · rename_i n hn
      split at h
      · cases h
      · rename_i ho; cases h; exact ⟨_, _, _, _, n, rfl, hn, ho, rfl⟩
    · cases h
  · cases h
theorem mAas_inv (h : mAas Lo st w = some q) : ∃ v j a r n, st = .ref v :: .int j :: .ref a :: r ∧ (wS w)[a]? = some (5, n) ∧ ¬ mOut j n ∧ (wS w)[v]? = some (0, 2) ∧ q = (Lo, r, wsR w (mSet (wR w) a j.toNatClampNeg (some v))) := by
  unfold mAas at h
  split at h
  · split at h
    · rename_i n hn
      split at h
      · cases h
      · rename_i ho; cases h; exact ⟨_, _, _, _, n, rfl, hn, fun z => ho (Or.inl z), Classical.not_not.mp (fun z => ho (Or.inr z)), rfl⟩
    · cases h
  · cases h
theorem mAln_inv (h : mAln S mi Lo st w = some q) : ∃ a r, st = .ref a :: r ∧ ((a = mScr ∧ mi = 0 ∧ q = (Lo, .int (Int32.ofNat S.1) :: r, w)) ∨ ∃ n, ((wS w)[a]? = some (1, n) ∨ (wS w)[a]? = some (4, n)) ∧ q = (Lo, .int (Int32.ofNat n) :: r, w)) := by
  unfold mAln at h
  split at h
  · split at h
    · rename_i ha; cases h; exact ⟨_, _, rfl, Or.inl ⟨ha.1, ha.2, rfl⟩⟩
    · split at h
      · rename_i n hn; cases h; exact ⟨_, _, rfl, Or.inr ⟨n, Or.inl hn, rfl⟩⟩
      · rename_i n hn; cases h; exact ⟨_, _, rfl, Or.inr ⟨n, Or.inr hn, rfl⟩⟩
      · cases h
  · cases h
theorem mNwa_inv {t : ArrayType} (h : mNwa t Lo st w = some q) : ∃ n r, st = .int n :: r ∧ ¬ n < 0 ∧ n.toNatClampNeg ≤ 100000 ∧ w.1.length < 1000000 ∧ ¬ mAk t = 9 ∧ q = (Lo, .ref w.1.length :: r, mNew w (mAk t, n.toNatClampNeg) n.toNatClampNeg) := by
  unfold mNwa at h
  split at h
  · split at h
    · cases h
    · rename_i ho
      cases h
      exact ⟨_, _, rfl, fun z => ho (Or.inl z), Nat.le_of_not_lt (fun z => ho (Or.inr (Or.inl z))), Nat.lt_of_not_le (fun z => ho (Or.inr (Or.inr (Or.inl z)))), fun z => ho (Or.inr (Or.inr (Or.inr z))), rfl⟩
  · cases h
theorem mNwq_inv (h : mNwq mi x Lo st w = some q) : ∃ n r, st = .int n :: r ∧ ¬ n < 0 ∧ n.toNatClampNeg ≤ 100000 ∧ w.1.length < 1000000 ∧ mLk gNew (gO mi) x = some 2 ∧ q = (Lo, .ref w.1.length :: r, mNew w (5, n.toNatClampNeg) n.toNatClampNeg) := by
  unfold mNwq at h
  split at h
  · split at h
    · cases h
    · rename_i ho
      cases h
      exact ⟨_, _, rfl, fun z => ho (Or.inl z), Nat.le_of_not_lt (fun z => ho (Or.inr (Or.inl z))), Nat.lt_of_not_le (fun z => ho (Or.inr (Or.inr (Or.inl z)))), Classical.not_not.mp (fun z => ho (Or.inr (Or.inr (Or.inr z)))), rfl⟩
  · cases h
theorem mNwo_inv (h : mNwo mi x Lo st w = some q) : ∃ ci, mLk gNew (gO mi) x = some ci ∧ ci < 11 ∧ w.1.length < 1000000 ∧ q = (Lo, .ref w.1.length :: st, mNew w (0, ci) (gFt.getD ci []).length) := by
  unfold mNwo at h
  split at h
  · rename_i ci hci
    split at h
    · cases h
    · rename_i ho
      cases h
      exact ⟨ci, hci, Nat.lt_of_not_le (fun z => ho (Or.inl z)), Nat.lt_of_not_le (fun z => ho (Or.inr z)), rfl⟩
  · cases h
theorem mIsp_inv (h : mIsp d mi x Lo st w = some q) : ∃ a r, st = .ref a :: r ∧ (mLk gCall (gO mi) x).map (·.1) = some 1000 ∧ 0 < d ∧ mCat r ≤ 8 ∧ q = (Lo, r, w) := by
  unfold mIsp at h
  split at h
  · split at h
    · rename_i ho; cases h; exact ⟨_, _, rfl, ho.1, ho.2.1, ho.2.2, rfl⟩
    · cases h
  · cases h
theorem mM2_inv {f : Int32 → Int32 → Int32} (h : mM2 f d Lo st w = some q) : ∃ x y r, st = .int y :: .int x :: r ∧ 0 < d ∧ mCat r ≤ 8 ∧ q = (Lo, .int (f x y) :: r, w) := by
  unfold mM2 at h
  split at h
  · split at h
    · rename_i ho; cases h; exact ⟨_, _, _, rfl, ho.1, ho.2, rfl⟩
    · cases h
  · cases h
theorem mM1_inv {f : Int32 → Int32} (h : mM1 f d Lo st w = some q) : ∃ x r, st = .int x :: r ∧ 0 < d ∧ mCat r ≤ 8 ∧ q = (Lo, .int (f x) :: r, w) := by
  unfold mM1 at h
  split at h
  · split at h
    · rename_i ho; cases h; exact ⟨_, _, rfl, ho.1, ho.2, rfl⟩
    · cases h
  · cases h
theorem mAcp_inv (h : mAcp d Lo st w = some q) : ∃ n dp a sp a0 r n0 n1, st = .int n :: .int dp :: .ref a :: .int sp :: .ref a0 :: r ∧ 0 < d ∧ mCat r ≤ 8 ∧ ¬ sp < 0 ∧ ¬ dp < 0 ∧ ¬ n < 0 ∧ sp.toNatClampNeg + n.toNatClampNeg ≤ n0 ∧ dp.toNatClampNeg + n.toNatClampNeg ≤ n1 ∧ (((wS w)[a0]? = some (1, n0) ∧ (wS w)[a]? = some (1, n1) ∧ q = (Lo, r, wsI w (va_up (wI w) a (va_cpy (wI w a0) (wI w a) sp.toNatClampNeg dp.toNatClampNeg n.toNatClampNeg)))) ∨ ((wS w)[a0]? = some (4, n0) ∧ (wS w)[a]? = some (4, n1) ∧ q = (Lo, r, wsJ w (va_up (wJ w) a (va_cpy (wJ w a0) (wJ w a) sp.toNatClampNeg dp.toNatClampNeg n.toNatClampNeg))))) := by
  unfold mAcp at h
  split at h
  · split at h
    · rename_i ho
      unfold mCpy at h
      split at h
      · rename_i n0 n1 h0 h1
        split at h
        · cases h
        · rename_i hz
          cases h
          exact ⟨_, _, _, _, _, _, n0, n1, rfl, ho.1, ho.2.1, ho.2.2.1, ho.2.2.2.1, ho.2.2.2.2, Nat.le_of_not_lt (fun z => hz (Or.inl z)), Nat.le_of_not_lt (fun z => hz (Or.inr z)), Or.inl ⟨h0, h1, rfl⟩⟩
      · rename_i n0 n1 h0 h1
        split at h
        · cases h
        · rename_i hz
          cases h
          exact ⟨_, _, _, _, _, _, n0, n1, rfl, ho.1, ho.2.1, ho.2.2.1, ho.2.2.2.1, ho.2.2.2.2, Nat.le_of_not_lt (fun z => hz (Or.inl z)), Nat.le_of_not_lt (fun z => hz (Or.inr z)), Or.inr ⟨h0, h1, rfl⟩⟩
      · cases h
    · cases h
  · cases h
theorem mIst_inv (h : mIst d mi x Lo st w = some q) : ∃ sp nn, mLk gCall (gO mi) x = some (sp, nn) ∧ ((sp = 1001 ∧ mAcp d Lo st w = some q) ∨ (sp = 1005 ∧ mM2 (fun x y => if x < y then y else x) d Lo st w = some q) ∨ (sp = 1006 ∧ mM2 (fun x y => if y < x then y else x) d Lo st w = some q) ∨ (sp = 1007 ∧ mM1 (fun x => if 0 ≤ x then x else 0 - x) d Lo st w = some q)) := by
  unfold mIst at h
  split at h
  · rename_i hc; exact ⟨_, _, hc, Or.inl ⟨rfl, h⟩⟩
  · rename_i hc; exact ⟨_, _, hc, Or.inr (Or.inl ⟨rfl, h⟩)⟩
  · rename_i hc; exact ⟨_, _, hc, Or.inr (Or.inr (Or.inl ⟨rfl, h⟩))⟩
  · rename_i hc; exact ⟨_, _, hc, Or.inr (Or.inr (Or.inr ⟨rfl, h⟩))⟩
  · cases h
theorem mSln_inv (h : mSln d Lo st w = some q) : ∃ a r, st = .ref a :: r ∧ 3 ≤ d ∧ mCat r ≤ 8 ∧ mScr < a ∧ a ≤ 1000005 ∧ q = (Lo, .int (Int32.ofNat (gSb.getD (a - 1000001) []).length) :: r, w) := by
  unfold mSln at h
  split at h
  · split at h
    · rename_i ho; cases h; exact ⟨_, _, rfl, ho.1, ho.2.1, ho.2.2.1, ho.2.2.2, rfl⟩
    · cases h
  · cases h
theorem mSch_inv (h : mSch d Lo st w = some q) : ∃ j a r, st = .int j :: .ref a :: r ∧ 6 ≤ d ∧ mCat r ≤ 8 ∧ mScr < a ∧ a ≤ 1000005 ∧ ¬ mOut j (gSb.getD (a - 1000001) []).length ∧ q = (Lo, .int ((gSb.getD (a - 1000001) []).getD j.toNatClampNeg 0) :: r, w) := by
  unfold mSch at h
  split at h
  · split at h
    · rename_i ho; cases h; exact ⟨_, _, _, rfl, ho.1, ho.2.1, ho.2.2.1, ho.2.2.2.1, ho.2.2.2.2, rfl⟩
    · cases h
  · cases h
theorem mIvt_inv (h : mIvt d mi x Lo st w = some q) : ∃ sp nn, mLk gCall (gO mi) x = some (sp, nn) ∧ ((sp = 1002 ∧ mSln d Lo st w = some q) ∨ (sp = 1003 ∧ mSch d Lo st w = some q)) := by
  unfold mIvt at h
  split at h
  · rename_i hc; exact ⟨_, _, hc, Or.inl ⟨rfl, h⟩⟩
  · rename_i hc; exact ⟨_, _, hc, Or.inr ⟨rfl, h⟩⟩
  · cases h
end INV
end
