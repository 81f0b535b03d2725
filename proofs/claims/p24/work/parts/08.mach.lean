/-! A SMALL MACHINE over numbers of cells: what the bytecode does, as a function; the rows behind it say that the JVM does the same. -/
abbrev mW : Type := List (Nat × Nat) × (Nat → Nat → Int32) × (Nat → Nat → Int64) × (Nat → Nat → Option Nat) × Nat × Nat
abbrev mL : Type := List (Option Value)
abbrev wS (w : mW) : List (Nat × Nat) := w.1
abbrev wI (w : mW) : Nat → Nat → Int32 := w.2.1
abbrev wJ (w : mW) : Nat → Nat → Int64 := w.2.2.1
abbrev wR (w : mW) : Nat → Nat → Option Nat := w.2.2.2.1
abbrev wC (w : mW) : Nat := w.2.2.2.2.1
abbrev wZ (w : mW) : Nat := w.2.2.2.2.2
abbrev wsI (w : mW) (f : Nat → Nat → Int32) : mW := (w.1, f, w.2.2)
abbrev wsJ (w : mW) (f : Nat → Nat → Int64) : mW := (w.1, w.2.1, f, w.2.2.2)
abbrev wsR (w : mW) (f : Nat → Nat → Option Nat) : mW := (w.1, w.2.1, w.2.2.1, f, w.2.2.2.2)
/-- place k of the row of cell i -/
def mSet {α : Type} (f : Nat → Nat → α) (i k : Nat) (v : α) : Nat → Nat → α := va_up f i (va_up (f i) k v)
/-- a new cell, of kind q, with n places -/
def mNew (w : mW) (q : Nat × Nat) (n : Nat) : mW := (w.1 ++ [q], va_up w.2.1 w.1.length (fun _ => 0), va_up w.2.2.1 w.1.length (fun _ => 0), va_up w.2.2.2.1 w.1.length (fun _ => none), w.2.2.2.2.1 + 1, w.2.2.2.2.2 + n)
def mFind : List (Nat × Instr × Nat) → Nat → Option (Instr × Nat)
  | [], _ => none
  | (p, q) :: r, pc => if Nat.beq p pc = true then some q else mFind r pc
def mLk {α : Type} : List (Nat × Nat × α) → Nat → Nat → Option α
  | [], _, _ => none
  | (a, b, v) :: r, o, x => if (Nat.beq a o && Nat.beq b x) = true then some v else mLk r o x
def cod (mi pc : Nat) : Option (Instr × Nat) := mFind (gCs.getD mi []) pc
/-- the script's own number; the texts' are those behind it -/
abbrev mScr : Nat := 1000000
/-- locals -/
def mClr2 (o : Option Value) (Lo : mL) (i : Nat) : mL := match o with
  | some (.long _) => Lo.set i none
  | some (.double _) => Lo.set i none
  | _ => Lo
def mClr (Lo : mL) : Nat → mL
  | 0 => Lo
  | i + 1 => mClr2 (Lo.getD i none) Lo i
def mSt1 (Lo : mL) (i : Nat) (v : Value) : Option mL := if i < Lo.length then some ((mClr Lo i).set i (some v)) else none
def mSt2 (Lo : mL) (i : Nat) (v : Value) : Option mL := if i + 1 < Lo.length then some (((mClr Lo i).set i (some v)).set (i + 1) none) else none
def mArg : List Value → mL
  | [] => []
  | .long x :: r => some (.long x) :: none :: mArg r
  | .double x :: r => some (.double x) :: none :: mArg r
  | v :: r => some v :: mArg r
def mIni (ml : Nat) (as : List Value) : mL := mArg as ++ List.replicate (ml - (mArg as).length) none
def mPop : Nat → List Value → Option (List Value × List Value)
  | 0, st => some ([], st)
  | k + 1, v :: st => match mPop k st with
    | some (as, r) => some (as ++ [v], r)
    | none => none
  | _ + 1, [] => none
def mBin (i : Instr) (x y : Int32) : Option Int32 := match i with
  | .iadd => some (x + y)
  | .isub => some (x - y)
  | .imul => some (x * y)
  | .iand => some (x &&& y)
  | .ior => some (x ||| y)
  | .ixor => some (x ^^^ y)
  | .ishl => some (x <<< (y &&& 31))
  | .ishr => some (x >>> (y &&& 31))
  | .iushr => some (x.toUInt32 >>> (y.toUInt32 &&& Int32.toUInt32 31)).toInt32
  | .idiv => if y = 0 then none else some (x / y)
  | .irem => if y = 0 then none else some (x - x / y * y)
  | _ => none
def mBiL (i : Instr) (x y : Int64) : Option Int64 := match i with
  | .ladd => some (x + y)
  | .lsub => some (x - y)
  | .lmul => some (x * y)
  | .land => some (x &&& y)
  | .lor => some (x ||| y)
  | .lxor => some (x ^^^ y)
  | .ldiv => if y = 0 then none else some (x / y)
  | .lrem => if y = 0 then none else some (x - x / y * y)
  | _ => none
def mShL (i : Instr) (x : Int64) (y : Int32) : Option Int64 := match i with
  | .lshl => some (x <<< (y.toInt64 &&& 63))
  | .lshr => some (x >>> (y.toInt64 &&& 63))
  | .lushr => some (x.toUInt64 >>> (y.toInt64.toUInt64 &&& Int64.toUInt64 63)).toInt64
  | _ => none
/-- the JVM's arrays by kind: 1 int, 2 byte, 3 boolean, 4 long, 5 references -/
def mAk : ArrayType → Nat
  | .int => 1
  | .byte => 2
  | .boolean => 3
  | .long => 4
  | _ => 9
def gSb : List (List Int32) := gStr.map (fun s => s.toList.map (fun c => Int32.ofNat c.toNat))
def mRf : Option Nat → Value
  | none => .null
  | some a => .ref a
abbrev mT : Type := Option (mL × List Value × mW)
def mLdI (Lo : mL) (k : Nat) (st : List Value) (w : mW) : mT := match Lo.getD k none with
  | some (.int x) => some (Lo, .int x :: st, w)
  | _ => none
def mLdL (Lo : mL) (k : Nat) (st : List Value) (w : mW) : mT := match Lo.getD k none with
  | some (.long x) => some (Lo, .long x :: st, w)
  | _ => none
def mLdA (Lo : mL) (k : Nat) (st : List Value) (w : mW) : mT := match Lo.getD k none with
  | some (.ref x) => some (Lo, .ref x :: st, w)
  | _ => none
def mStI (Lo : mL) (k : Nat) (st : List Value) (w : mW) : mT := match st with
  | .int x :: r => match mSt1 Lo k (.int x) with
    | some L => some (L, r, w)
    | none => none
  | _ => none
def mStL (Lo : mL) (k : Nat) (st : List Value) (w : mW) : mT := match st with
  | .long x :: r => match mSt2 Lo k (.long x) with
    | some L => some (L, r, w)
    | none => none
  | _ => none
def mStA (Lo : mL) (k : Nat) (st : List Value) (w : mW) : mT := match st with
  | .ref x :: r => match mSt1 Lo k (.ref x) with
    | some L => some (L, r, w)
    | none => none
  | _ => none
def mInc (Lo : mL) (k : Nat) (n : Int) (st : List Value) (w : mW) : mT := match Lo.getD k none with
  | some (.int x) => match mSt1 Lo k (.int (x + Int32.ofInt n)) with
    | some L => some (L, st, w)
    | none => none
  | _ => none
def mDef (i : Instr) (Lo : mL) (st : List Value) (w : mW) : mT := match st with
  | .int y :: .int x :: r => match mBin i x y with
    | some v => some (Lo, .int v :: r, w)
    | none => none
  | .long y :: .long x :: r => match mBiL i x y with
    | some v => some (Lo, .long v :: r, w)
    | none => none
  | .int y :: .long x :: r => match mShL i x y with
    | some v => some (Lo, .long v :: r, w)
    | none => none
  | _ => none
def mUnI (f : Int32 → Value) (Lo : mL) (st : List Value) (w : mW) : mT := match st with
  | .int x :: r => some (Lo, f x :: r, w)
  | _ => none
def mUnL (f : Int64 → Value) (Lo : mL) (st : List Value) (w : mW) : mT := match st with
  | .long x :: r => some (Lo, f x :: r, w)
  | _ => none
def mCmp (Lo : mL) (st : List Value) (w : mW) : mT := match st with
  | .long y :: .long x :: r => some (Lo, .int (lg_cmp x y) :: r, w)
  | _ => none
def mDup (Lo : mL) (st : List Value) (w : mW) : mT := match st with
  | .int x :: r => some (Lo, .int x :: .int x :: r, w)
  | .ref x :: r => some (Lo, .ref x :: .ref x :: r, w)
  | _ => none
def mPp (Lo : mL) (st : List Value) (w : mW) : mT := match st with
  | .int _ :: r => some (Lo, r, w)
  | .ref _ :: r => some (Lo, r, w)
  | _ => none
def mDup2 (Lo : mL) (st : List Value) (w : mW) : mT := match st with
  | .int x :: .ref y :: r => some (Lo, .int x :: .ref y :: .int x :: .ref y :: r, w)
  | _ => none
def mLdc (mi x : Nat) (Lo : mL) (st : List Value) (w : mW) : mT := match mLk gCon (gO mi) x with
  | some (.int v) => some (Lo, .int v :: st, w)
  | some (.ref v) => some (Lo, .ref v :: st, w)
  | _ => none
def mLdcW (mi x : Nat) (Lo : mL) (st : List Value) (w : mW) : mT := match mLk gCon (gO mi) x with
  | some (.int v) => some (Lo, .int v :: st, w)
  | _ => none
def mLdc2 (mi x : Nat) (Lo : mL) (st : List Value) (w : mW) : mT := match mLk gCon (gO mi) x with
  | some (.long v) => some (Lo, .long v :: st, w)
  | _ => none
abbrev gKi (ci k : Nat) : Nat := (gFt.getD ci []).getD k 9
abbrev gFi (ci k : Nat) : Bool := (gFf.getD ci []).getD k true
def mFld (w : mW) (a k : Nat) (t : Nat) : Value := match t with
  | 1 => .long (wJ w a k)
  | 2 => mRf (wR w a k)
  | _ => .int (wI w a k)
def mGet (mi x : Nat) (Lo : mL) (st : List Value) (w : mW) : mT := match st with
  | .ref a :: r => match mLk gF (gO mi) x with
    | some (ci, k) => if (wS w)[a]? = some (0, ci) then some (Lo, mFld w a k (gKi ci k) :: r, w) else none
    | none => none
  | _ => none
def mPut (mi x : Nat) (Lo : mL) (st : List Value) (w : mW) : mT := match st with
  | .int v :: .ref a :: r => match mLk gF (gO mi) x with
    | some (ci, k) => if (wS w)[a]? = some (0, ci) ∧ gFi ci k = false ∧ (gKi ci k = 0 ∨ (gKi ci k = 3 ∧ (v = 0 ∨ v = 1))) then some (Lo, r, wsI w (mSet (wI w) a k v)) else none
    | none => none
  | .long v :: .ref a :: r => match mLk gF (gO mi) x with
    | some (ci, k) => if (wS w)[a]? = some (0, ci) ∧ gFi ci k = false ∧ gKi ci k = 1 then some (Lo, r, wsJ w (mSet (wJ w) a k v)) else none
    | none => none
  | .ref v :: .ref a :: r => match mLk gF (gO mi) x with
    | some (ci, k) => if (wS w)[a]? = some (0, ci) ∧ gFi ci k = true ∧ gKi ci k = 2 ∧ (gMe mi).2.2.2.2.2.2 = 2 ∧ gO mi = ci then some (Lo, r, wsR w (mSet (wR w) a k (some v))) else none
    | none => none
  | _ => none
abbrev mOut (j : Int32) (n : Nat) : Prop := j < 0 ∨ n ≤ j.toNatClampNeg
def mIal (S : Nat × (Nat → Int32)) (mi : Nat) (Lo : mL) (st : List Value) (w : mW) : mT := match st with
  | .int j :: .ref a :: r => if a = mScr ∧ mi = 0 then (if mOut j S.1 then none else some (Lo, .int (S.2 j.toNatClampNeg) :: r, w)) else match (wS w)[a]? with
    | some (1, n) => if mOut j n then none else some (Lo, .int (wI w a j.toNatClampNeg) :: r, w)
    | _ => none
  | _ => none
def mBal (Lo : mL) (st : List Value) (w : mW) : mT := match st with
  | .int j :: .ref a :: r => match (wS w)[a]? with
    | some (2, n) => if mOut j n then none else some (Lo, .int (wI w a j.toNatClampNeg) :: r, w)
    | some (3, n) => if mOut j n then none else some (Lo, .int (wI w a j.toNatClampNeg) :: r, w)
    | _ => none
  | _ => none
def mLal (Lo : mL) (st : List Value) (w : mW) : mT := match st with
  | .int j :: .ref a :: r => match (wS w)[a]? with
    | some (4, n) => if mOut j n then none else some (Lo, .long (wJ w a j.toNatClampNeg) :: r, w)
    | _ => none
  | _ => none
def mAal (Lo : mL) (st : List Value) (w : mW) : mT := match st with
  | .int j :: .ref a :: r => match (wS w)[a]? with
    | some (5, n) => if mOut j n then none else some (Lo, mRf (wR w a j.toNatClampNeg) :: r, w)
    | _ => none
  | _ => none
def mIas (Lo : mL) (st : List Value) (w : mW) : mT := match st with
  | .int v :: .int j :: .ref a :: r => match (wS w)[a]? with
    | some (1, n) => if mOut j n then none else some (Lo, r, wsI w (mSet (wI w) a j.toNatClampNeg v))
    | _ => none
  | _ => none
def mBas (Lo : mL) (st : List Value) (w : mW) : mT := match st with
  | .int v :: .int j :: .ref a :: r => match (wS w)[a]? with
    | some (2, n) => if mOut j n then none else some (Lo, r, wsI w (mSet (wI w) a j.toNatClampNeg (vp_nar .byte v)))
    | some (3, n) => if mOut j n then none else some (Lo, r, wsI w (mSet (wI w) a j.toNatClampNeg (vp_nar .boolean v)))
    | _ => none
  | _ => none
def mLas (Lo : mL) (st : List Value) (w : mW) : mT := match st with
  | .long v :: .int j :: .ref a :: r => match (wS w)[a]? with
    | some (4, n) => if mOut j n then none else some (Lo, r, wsJ w (mSet (wJ w) a j.toNatClampNeg v))
    | _ => none
  | _ => none
def mAas (Lo : mL) (st : List Value) (w : mW) : mT := match st with
  | .ref v :: .int j :: .ref a :: r => match (wS w)[a]? with
    | some (5, n) => if mOut j n ∨ ¬ (wS w)[v]? = some (0, 2) then none else some (Lo, r, wsR w (mSet (wR w) a j.toNatClampNeg (some v)))
    | _ => none
  | _ => none
def mAln (S : Nat × (Nat → Int32)) (mi : Nat) (Lo : mL) (st : List Value) (w : mW) : mT := match st with
  | .ref a :: r => if a = mScr ∧ mi = 0 then some (Lo, .int (Int32.ofNat S.1) :: r, w) else match (wS w)[a]? with
    | some (1, n) => some (Lo, .int (Int32.ofNat n) :: r, w)
    | some (4, n) => some (Lo, .int (Int32.ofNat n) :: r, w)
    | _ => none
  | _ => none
def mNwa (t : ArrayType) (Lo : mL) (st : List Value) (w : mW) : mT := match st with
  | .int n :: r => if n < 0 ∨ 100000 < n.toNatClampNeg ∨ mScr ≤ (wS w).length ∨ mAk t = 9 then none else some (Lo, .ref (wS w).length :: r, mNew w (mAk t, n.toNatClampNeg) n.toNatClampNeg)
  | _ => none
def mNwq (mi x : Nat) (Lo : mL) (st : List Value) (w : mW) : mT := match st with
  | .int n :: r => if n < 0 ∨ 100000 < n.toNatClampNeg ∨ mScr ≤ (wS w).length ∨ ¬ mLk gNew (gO mi) x = some 2 then none else some (Lo, .ref (wS w).length :: r, mNew w (5, n.toNatClampNeg) n.toNatClampNeg)
  | _ => none
def mNwo (mi x : Nat) (Lo : mL) (st : List Value) (w : mW) : mT := match mLk gNew (gO mi) x with
  | some ci => if 11 ≤ ci ∨ mScr ≤ (wS w).length then none else some (Lo, .ref (wS w).length :: st, mNew w (0, ci) (gFt.getD ci []).length)
  | none => none
abbrev mCat (r : List Value) : Nat := (r.map fun v => v.category).sum
def mIsp (d mi x : Nat) (Lo : mL) (st : List Value) (w : mW) : mT := match st with
  | .ref _ :: r => if (mLk gCall (gO mi) x).map (·.1) = some 1000 ∧ 0 < d ∧ mCat r ≤ 8 then some (Lo, r, w) else none
  | _ => none
def mCpy (Lo : mL) (r : List Value) (w : mW) (a0 sp a dp n : Nat) : mT := match (wS w)[a0]?, (wS w)[a]? with
  | some (1, n0), some (1, n1) => if n0 < sp + n ∨ n1 < dp + n then none else some (Lo, r, wsI w (va_up (wI w) a (va_cpy (wI w a0) (wI w a) sp dp n)))
  | some (4, n0), some (4, n1) => if n0 < sp + n ∨ n1 < dp + n then none else some (Lo, r, wsJ w (va_up (wJ w) a (va_cpy (wJ w a0) (wJ w a) sp dp n)))
  | _, _ => none
def mM2 (f : Int32 → Int32 → Int32) (d : Nat) (Lo : mL) (st : List Value) (w : mW) : mT := match st with
  | .int y :: .int x :: r => if 0 < d ∧ mCat r ≤ 8 then some (Lo, .int (f x y) :: r, w) else none
  | _ => none
def mM1 (f : Int32 → Int32) (d : Nat) (Lo : mL) (st : List Value) (w : mW) : mT := match st with
  | .int x :: r => if 0 < d ∧ mCat r ≤ 8 then some (Lo, .int (f x) :: r, w) else none
  | _ => none
def mAcp (d : Nat) (Lo : mL) (st : List Value) (w : mW) : mT := match st with
  | .int n :: .int dp :: .ref a :: .int sp :: .ref a0 :: r => if 0 < d ∧ mCat r ≤ 8 ∧ ¬ sp < 0 ∧ ¬ dp < 0 ∧ ¬ n < 0 then mCpy Lo r w a0 sp.toNatClampNeg a dp.toNatClampNeg n.toNatClampNeg else none
  | _ => none
def mIst (d mi x : Nat) (Lo : mL) (st : List Value) (w : mW) : mT := match mLk gCall (gO mi) x with
  | some (1001, _) => mAcp d Lo st w
  | some (1005, _) => mM2 (fun x y => if x < y then y else x) d Lo st w
  | some (1006, _) => mM2 (fun x y => if y < x then y else x) d Lo st w
  | some (1007, _) => mM1 (fun x => if 0 ≤ x then x else 0 - x) d Lo st w
  | _ => none
def mSln (d : Nat) (Lo : mL) (st : List Value) (w : mW) : mT := match st with
  | .ref a :: r => if 3 ≤ d ∧ mCat r ≤ 8 ∧ mScr < a ∧ a ≤ 1000005 then some (Lo, .int (Int32.ofNat (gSb.getD (a - 1000001) []).length) :: r, w) else none
  | _ => none
def mSch (d : Nat) (Lo : mL) (st : List Value) (w : mW) : mT := match st with
  | .int j :: .ref a :: r => if 6 ≤ d ∧ mCat r ≤ 8 ∧ mScr < a ∧ a ≤ 1000005 ∧ ¬ mOut j (gSb.getD (a - 1000001) []).length then some (Lo, .int ((gSb.getD (a - 1000001) []).getD j.toNatClampNeg 0) :: r, w) else none
  | _ => none
def mIvt (d mi x : Nat) (Lo : mL) (st : List Value) (w : mW) : mT := match mLk gCall (gO mi) x with
  | some (1002, _) => mSln d Lo st w
  | some (1003, _) => mSch d Lo st w
  | _ => none
/-- one plain instruction (no branch, no call of a method with code, no end): locals, stack, world -/
def st1 (S : Nat × (Nat → Int32)) (d mi : Nat) (i : Instr) (Lo : mL) (st : List Value) (w : mW) : mT :=
  match i with
  | .iconst n => some (Lo, .int (Int32.ofInt n) :: st, w)
  | .bipush n => some (Lo, .int (Int8.ofInt n).toInt32 :: st, w)
  | .sipush n => some (Lo, .int (Int16.ofInt n).toInt32 :: st, w)
  | .lconst n => some (Lo, .long (Int64.ofNat (n : Nat)) :: st, w)
  | .ldc x => mLdc mi x Lo st w
  | .ldc_w x => mLdcW mi x Lo st w
  | .ldc2_w x => mLdc2 mi x Lo st w
  | .iload k => mLdI Lo k st w
  | .iload_n k => mLdI Lo k st w
  | .lload k => mLdL Lo k st w
  | .lload_n k => mLdL Lo k st w
  | .aload k => mLdA Lo k st w
  | .aload_n k => mLdA Lo k st w
  | .istore k => mStI Lo k st w
  | .istore_n k => mStI Lo k st w
  | .lstore k => mStL Lo k st w
  | .lstore_n k => mStL Lo k st w
  | .astore k => mStA Lo k st w
  | .astore_n k => mStA Lo k st w
  | .iinc k n => mInc Lo k n st w
  | .ineg => mUnI (fun x => .int (-x)) Lo st w
  | .lneg => mUnL (fun x => .long (-x)) Lo st w
  | .i2l => mUnI (fun x => .long x.toInt64) Lo st w
  | .l2i => mUnL (fun x => .int x.toInt32) Lo st w
  | .i2b => mUnI (fun x => .int x.toInt8.toInt32) Lo st w
  | .lcmp => mCmp Lo st w
  | .dup => mDup Lo st w
  | .pop => mPp Lo st w
  | .dup2 => mDup2 Lo st w
  | .getfield x => mGet mi x Lo st w
  | .putfield x => mPut mi x Lo st w
  | .iaload => mIal S mi Lo st w
  | .baload => mBal Lo st w
  | .laload => mLal Lo st w
  | .aaload => mAal Lo st w
  | .iastore => mIas Lo st w
  | .bastore => mBas Lo st w
  | .lastore => mLas Lo st w
  | .aastore => mAas Lo st w
  | .arraylength => mAln S mi Lo st w
  | .newarray t => mNwa t Lo st w
  | .anewarray x => mNwq mi x Lo st w
  | .new x => mNwo mi x Lo st w
  | .invokespecial x => mIsp d mi x Lo st w
  | .invokestatic x => mIst d mi x Lo st w
  | .invokevirtual x => mIvt d mi x Lo st w
  | .iadd => mDef .iadd Lo st w
  | .isub => mDef .isub Lo st w
  | .imul => mDef .imul Lo st w
  | .iand => mDef .iand Lo st w
  | .ior => mDef .ior Lo st w
  | .ixor => mDef .ixor Lo st w
  | .ishl => mDef .ishl Lo st w
  | .ishr => mDef .ishr Lo st w
  | .iushr => mDef .iushr Lo st w
  | .idiv => mDef .idiv Lo st w
  | .irem => mDef .irem Lo st w
  | .ladd => mDef .ladd Lo st w
  | .lsub => mDef .lsub Lo st w
  | .lmul => mDef .lmul Lo st w
  | .land => mDef .land Lo st w
  | .lor => mDef .lor Lo st w
  | .lxor => mDef .lxor Lo st w
  | .ldiv => mDef .ldiv Lo st w
  | .lrem => mDef .lrem Lo st w
  | .lshl => mDef .lshl Lo st w
  | .lshr => mDef .lshr Lo st w
  | .lushr => mDef .lushr Lo st w
  | _ => none
/-- which of the two ways a branch goes, by x and y: 'x = y' or 'x < y' or 'y < x', and whether that jumps -/
def mTgt (pc : Nat) (off : Int) : Nat := ((pc : Int) + off).toNat
/-- an end: none is a throw -/
abbrev mO : Type := Option (Option Value)
def mBr {α : Type} (c : Jvm.ClassFile.Cond) (x y : Int32) (t f : α) : α := match c with
  | .eq => if x = y then t else f
  | .ne => if x = y then f else t
  | .lt => if x < y then t else f
  | .ge => if x < y then f else t
  | .gt => if y < x then t else f
  | .le => if y < x then f else t
/-- the methods that the law's three helpers call -/
def mHelp : Nat → Nat
  | 246 => 103
  | 247 => 108
  | 248 => 124
  | _ => 9999
def ex (S : Nat × (Nat → Int32)) : Nat → Nat → Nat → Nat → mL → List Value → mW → Option (mO × mW)
  | 0, _, _, _, _, _, _ => none
  | n + 1, d, mi, pc, Lo, st, w => match cod mi pc with
    | none => none
    | some (i, len) => match st1 S d mi i Lo st w with
      | some (Lo1, st1, w1) => ex S n d mi (pc + len) Lo1 st1 w1
      | none => match i with
        | .goto off => ex S n d mi (mTgt pc off) Lo st w
        | .ifCond c off => match st with
          | .int x :: r => mBr c x 0 (ex S n d mi (mTgt pc off) Lo r w) (ex S n d mi (pc + len) Lo r w)
          | _ => none
        | .if_icmp c off => match st with
          | .int y :: .int x :: r => mBr c x y (ex S n d mi (mTgt pc off) Lo r w) (ex S n d mi (pc + len) Lo r w)
          | _ => none
        | .ifnonnull off => match st with
          | .ref _ :: r => ex S n d mi (mTgt pc off) Lo r w
          | .null :: r => ex S n d mi (pc + len) Lo r w
          | _ => none
        | .tableswitch df lo hi offs => match st with
          | .int x :: r => if x.toInt < lo ∨ hi < x.toInt then ex S n d mi (mTgt pc df) Lo r w else match offs[(x.toInt - lo).toNat]? with
            | some off => ex S n d mi (mTgt pc off) Lo r w
            | none => none
          | _ => none
        | .ireturn => match st with
          | [.int v] => if (gMe mi).2.2.2.1 = some .int ∨ ((gMe mi).2.2.2.1 = some .boolean ∧ (v = 0 ∨ v = 1)) then some (some (some (.int v)), w) else none
          | _ => none
        | .lreturn => match st with
          | [.long v] => if (gMe mi).2.2.2.1 = some .long then some (some (some (.long v)), w) else none
          | _ => none
        | .return_ => match st with
          | [] => if (gMe mi).2.2.2.1 = none then some (some none, w) else none
          | _ => none
        | .new x => if mLk gNew (gO mi) x = some 11 ∧ (wS w).length < mScr ∧ mCat st ≤ 8 then some (none, mNew w (0, 11) 6) else none
        | .invokevirtual x => match mLk gCall (gO mi) x with
          | some (mj, nest) => match mPop ((gMe mj).2.2.2.2.2.1 + 1) st, d with
            | some (.ref a :: as, r), d1 + 1 => if (gMe mj).2.2.2.2.2.2 = 1 ∧ mj < 1000 ∧ nest = 0 ∧ (wS w)[a]? = some (0, gO mj) ∧ mCat r ≤ 8 ∧ (mArg (.ref a :: as)).length ≤ (gMe mj).2.2.1 then (match ex S n d1 mj 0 (mIni (gMe mj).2.2.1 (.ref a :: as)) [] w with
                | some (some o, w1) => ex S n d mi (pc + len) Lo (o.toList ++ r) w1
                | _ => none) else none
            | _, _ => none
          | none => none
        | .invokespecial x => match mLk gCall (gO mi) x with
          | some (mj, nest) => match mPop ((gMe mj).2.2.2.2.2.1 + 1) st, d with
            | some (.ref a :: as, r), d1 + 1 => if (gMe mj).2.2.2.2.2.2 = 2 ∧ mj < 1000 ∧ mCat r ≤ 8 ∧ (mArg (.ref a :: as)).length ≤ (gMe mj).2.2.1 then (match ex S n d1 mj 0 (mIni (gMe mj).2.2.1 (.ref a :: as)) [] w with
                | some (some none, w1) => ex S n d mi (pc + len) Lo r w1
                | _ => none) else none
            | _, _ => none
          | none => none
        | .invokestatic x => match mLk gCall (gO mi) x with
          | some (mj, nest) => match mPop (gMe mj).2.2.2.2.2.1 st, d with
            | some (as, r), d1 + 1 => if (gMe mj).2.2.2.2.2.2 = 0 ∧ mj < 1000 ∧ mCat r ≤ 8 ∧ (mArg as).length ≤ (gMe mj).2.2.1 then
                (if 246 ≤ mj ∧ mj ≤ 248 then (match as, d1 with
                  | [.ref x0, .int p0, .int p1, .ref q], d2 + 7 => match (wS w)[q]?, (wS w)[x0]? with
                    | some (4, 1), some (0, 9) => match ex S n (d2 + 6) (mHelp mj) 0 (mIni (gMe (mHelp mj)).2.2.1 [.ref x0, .int p0, .int p1]) [] w with
                      | some (some (some (.int v)), w1) => ex S n d mi (pc + len) Lo (.int 0 :: r) (wsJ w1 (mSet (wJ w1) q 0 v.toInt64))
                      | some (none, w1) => ex S n d mi (pc + len) Lo (.int 1 :: r) w1
                      | _ => none
                    | _, _ => none
                  | _, _ => none)
                else (match ex S n d1 mj 0 (mIni (gMe mj).2.2.1 as) [] w with
                | some (some o, w1) => ex S n d mi (pc + len) Lo (o.toList ++ r) w1
                | _ => none)) else none
            | _, _ => none
          | none => none
        | _ => none
