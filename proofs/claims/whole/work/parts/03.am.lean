-- A SMALL MACHINE: cells with ints, longs, references; its run is a function. Address 0 is the script, which is only read.
abbrev mM : Type := Nat × Nat × (Nat → Nat × Nat) × (Nat → Nat → Int32) × (Nat → Nat → Int64) × (Nat → Nat → Option Nat)
def mN (h : mM) : Nat := h.1
def mZ (h : mM) : Nat := h.2.1
def mK (h : mM) (a : Nat) : Nat := if a = 0 then 19 else if a < h.1 ∧ (h.2.2.1 a).1 < 19 then (h.2.2.1 a).1 else 99
def mL (h : mM) (a : Nat) : Nat := (h.2.2.1 a).2
def mI (h : mM) (a k : Nat) : Int32 := h.2.2.2.1 a k
def mJ (h : mM) (a k : Nat) : Int64 := h.2.2.2.2.1 a k
def mR (h : mM) (a k : Nat) : Option Nat := h.2.2.2.2.2 a k
def wI (h : mM) (a k : Nat) (v : Int32) : mM := (h.1, h.2.1, h.2.2.1, fun a' k' => if a' = a ∧ k' = k then v else h.2.2.2.1 a' k', h.2.2.2.2.1, h.2.2.2.2.2)
def wJ (h : mM) (a k : Nat) (v : Int64) : mM := (h.1, h.2.1, h.2.2.1, h.2.2.2.1, fun a' k' => if a' = a ∧ k' = k then v else h.2.2.2.2.1 a' k', h.2.2.2.2.2)
def wR (h : mM) (a k : Nat) (v : Option Nat) : mM := (h.1, h.2.1, h.2.2.1, h.2.2.2.1, h.2.2.2.2.1, fun a' k' => if a' = a ∧ k' = k then v else h.2.2.2.2.2 a' k')
/-- ints sp .. sp + n of cell a copied to dp .. of cell b -/
def wC (h : mM) (a b sp dp n : Nat) : mM := (h.1, h.2.1, h.2.2.1, fun a' k' => if a' = b ∧ dp ≤ k' ∧ k' < dp + n then h.2.2.2.1 a (sp + (k' - dp)) else h.2.2.2.1 a' k', h.2.2.2.2.1, h.2.2.2.2.2)
/-- a new cell of kind q, with n slots, all 0 or null -/
def wN (h : mM) (q n : Nat) : mM := (h.1 + 1, h.2.1 + n, fun a => if a = h.1 then (q, n) else h.2.2.1 a, fun a k => if a = h.1 then 0 else h.2.2.2.1 a k, fun a k => if a = h.1 then 0 else h.2.2.2.2.1 a k, fun a k => if a = h.1 then none else h.2.2.2.2.2 a k)
def ixOK (i : Int32) (n : Nat) : Bool := decide (¬ (i < 0 ∨ n ≤ i.toNatClampNeg))
/-- the kind of the things that an array of references of kind q holds -/
def mEl (q : Nat) : Nat := if q = 13 then 3 else if q = 14 then 0 else if q = 15 then 2 else if q = 16 then 6 else if q = 17 then 4 else 98
/-- the kind of an array of things of kind q -/
def mAr (q : Nat) : Nat := if q = 3 then 13 else if q = 0 then 14 else if q = 2 then 15 else if q = 6 then 16 else if q = 4 then 17 else 98
abbrev mLs : Type := List (Option Value)
abbrev mX : Type := (Nat × mLs × List Value × mM) ⊕ (Option Value) ⊕ (Nat × List Value × List Value)
def mNx (pc : Nat) (L : mLs) (st : List Value) (h : mM) : Option mX := some (.inl (pc, L, st, h))
def mLong (o : Option Value) : Bool := match o with
  | some v => v.category == 2
  | none => false
def mClr (L : mLs) (i : Nat) : mLs := match i with
  | 0 => L
  | j + 1 => if mLong (L.getD j none) = true then L.set j none else L
def mS1 (L : mLs) (i : Nat) (v : Value) : mLs := (mClr L i).set i (some v)
def mS2 (L : mLs) (i : Nat) (v : Value) : mLs := ((mClr L i).set (i + 1) none).set i (some v)
def fGet (c i : Nat) : Option (Nat × Nat) := (fL.find? (fun q => q.1 == c && q.2.1 == i)).map (fun q => q.2.2)
def kGet (c i : Nat) : Option (Nat × Nat) := (mLk.find? (fun q => q.1 == c && q.2.1 == i)).map (fun q => q.2.2)
def cGet (c i : Nat) : Option Int32 := (cL.find? (fun q => q.1 == c && q.2.1 == i)).map (fun q => q.2.2)
def jGet (c i : Nat) : Option Int64 := (cJ.find? (fun q => q.1 == c && q.2.1 == i)).map (fun q => q.2.2)
def nGet (c i : Nat) : Option Nat := (nL.find? (fun q => q.1 == c && q.2.1 == i)).map (fun q => q.2.2)
def mCat (st : List Value) : Nat := (st.map fun v => v.category).sum
def mIsR (t : FieldType) : Bool := match t with
  | .object _ => true
  | .array _ => true
  | _ => false
def mZO (v : Int32) : Bool := v == 0 || v == 1
def mTg (pc : Nat) (off : Int) (L : mLs) (st : List Value) (h : mM) : Option mX := if 0 ≤ (pc : Int) + off then mNx ((pc : Int) + off).toNat L st h else none
def mCmp (c : ClassFile.Cond) (x y : Int32) : Bool := match c with
  | .eq => decide (x = y)
  | .ne => decide (¬ x = y)
  | .lt => decide (x < y)
  | .ge => decide (y ≤ x)
  | .gt => decide (y < x)
  | .le => decide (x ≤ y)
def mGetF (mi pc idx : Nat) (L : mLs) (st : List Value) (h : mM) : Option mX := match st with
  | .ref a :: r => match fGet (ow mi) idx with
    | some (ci, k) => if mK h a = ci then (if mIsR (tyN ci k) = true then (match mR h a k with
        | some b => mNx (pc + 3) L (.ref b :: r) h
        | none => none) else mNx (pc + 3) L (.int (mI h a k) :: r) h) else none
    | none => none
  | _ => none
def mPutF (mi pc idx : Nat) (L : mLs) (st : List Value) (h : mM) : Option mX := match st with
  | .int v :: .ref a :: r => match fGet (ow mi) idx with
    | some (ci, k) => if mK h a = ci ∧ (tyN ci k = .int ∨ (tyN ci k = .boolean ∧ mZO v = true)) ∧ (TN ci k).2.2.2 = false then mNx (pc + 3) L r (wI h a k v) else none
    | none => none
  | .ref b :: .ref a :: r => match fGet (ow mi) idx with
    | some (ci, k) => if mK h a = ci ∧ mIsR (tyN ci k) = true ∧ ((TN ci k).2.2.2 = false ∨ ((TN ci k).2.2.2 = true ∧ (yn mi).name = "<init>" ∧ (TN ci k).1 = RN (ow mi))) then mNx (pc + 3) L r (wR h a k (some b)) else none
    | none => none
  | _ => none
def mCallV (mi pc idx : Nat) (st : List Value) (h : mM) : Option mX := match kGet (ow mi) idx with
  | some (kd, mj) => match st.drop (na mj) with
    | .ref a :: r => if kd = 0 ∧ mK h a = ow mj ∧ na mj ≤ st.length ∧ mCat r ≤ 8 ∧ ((Value.ref a :: (st.take (na mj)).reverse).map Value.category).sum ≤ mx mj then some (.inr (.inr (mj, Value.ref a :: (st.take (na mj)).reverse, r))) else none
    | _ => none
  | none => none
def mCallI (mi pc idx : Nat) (L : mLs) (st : List Value) (h : mM) : Option mX := match kGet (ow mi) idx with
  | some (kd, mj) => if kd = 5 then (match st with
      | .ref a :: r => if mCat r ≤ 8 then mNx (pc + 3) L r h else none
      | _ => none) else match st.drop (na mj) with
    | .ref a :: r => if (kd = 2 ∨ kd = 4) ∧ na mj ≤ st.length ∧ mCat r ≤ 8 ∧ ((Value.ref a :: (st.take (na mj)).reverse).map Value.category).sum ≤ mx mj then some (.inr (.inr (mj, Value.ref a :: (st.take (na mj)).reverse, r))) else none
    | _ => none
  | none => none
def mCallS (mi pc idx : Nat) (L : mLs) (st : List Value) (h : mM) : Option mX := match kGet (ow mi) idx with
  | some (kd, mj) => if kd = 6 then (match st with
      | .int y :: .int x :: r => if mCat r ≤ 8 then mNx (pc + 3) L (.int (if x < y then y else x) :: r) h else none
      | _ => none) else if kd = 7 then (match st with
      | .int y :: .int x :: r => if mCat r ≤ 8 then mNx (pc + 3) L (.int (if y < x then y else x) :: r) h else none
      | _ => none) else if kd = 8 then (match st with
      | .int x :: r => if mCat r ≤ 8 then mNx (pc + 3) L (.int (if 0 ≤ x then x else 0 - x) :: r) h else none
      | _ => none) else if kd = 9 then (match st with
      | .int n :: .int dp :: .ref b :: .int sp :: .ref a :: r => if mCat r ≤ 8 ∧ mK h a = 11 ∧ mK h b = 11 ∧ ¬ sp < 0 ∧ ¬ dp < 0 ∧ ¬ n < 0 ∧ sp.toNatClampNeg + n.toNatClampNeg ≤ mL h a ∧ dp.toNatClampNeg + n.toNatClampNeg ≤ mL h b then mNx (pc + 3) L r (wC h a b sp.toNatClampNeg dp.toNatClampNeg n.toNatClampNeg) else none
      | _ => none) else if (kd = 1 ∨ kd = 3) ∧ na mj ≤ st.length ∧ mCat (st.drop (na mj)) ≤ 8 ∧ (((st.take (na mj)).reverse).map Value.category).sum ≤ mx mj then some (.inr (.inr (mj, (st.take (na mj)).reverse, st.drop (na mj)))) else none
  | none => none
/-- rows n1 .. of a grid: n0 places of references to new cells of m ints each -/
def wG (h : mM) : Nat → Nat → mM
  | _, 0 => h
  | m, n + 1 => wN (wG h m n) 11 m
def wGrid (h : mM) (n m : Nat) : mM := (h.1 + 1 + n, h.2.1 + n + n * m, fun a => if a = h.1 then (18, n) else if h.1 < a ∧ a < h.1 + 1 + n then (11, m) else h.2.2.1 a, fun a k => if h.1 ≤ a then 0 else h.2.2.2.1 a k, fun a k => if h.1 ≤ a then 0 else h.2.2.2.2.1 a k, fun a k => if a = h.1 then (if k < n then some (h.1 + 1 + k) else none) else if h.1 < a then none else h.2.2.2.2.2 a k)
def mIns (mi pc : Nat) (L : mLs) (st : List Value) (h : mM) (ins : Instr) (len : Nat) : Option mX :=
  match ins with
  | .iconst n => if len = 1 then mNx (pc + 1) L (.int (Int32.ofInt n) :: st) h else none
  | .bipush n => if len = 2 then mNx (pc + 2) L (.int (Int8.ofInt n).toInt32 :: st) h else none
  | .sipush n => if len = 3 then mNx (pc + 3) L (.int (Int16.ofInt n).toInt32 :: st) h else none
  | .lconst n => if len = 1 then mNx (pc + 1) L (.long (Int64.ofNat n.val) :: st) h else none
  | .ldc i => if len = 2 then (match cGet (ow mi) i with
    | some v => mNx (pc + 2) L (.int v :: st) h
    | none => none) else none
  | .ldc_w i => if len = 3 then (match cGet (ow mi) i with
    | some v => mNx (pc + 3) L (.int v :: st) h
    | none => none) else none
  | .ldc2_w i => if len = 3 then (match jGet (ow mi) i with
    | some v => mNx (pc + 3) L (.long v :: st) h
    | none => none) else none
  | .iload_n i => if len = 1 then (match L.getD i.val none with
    | some (.int x) => mNx (pc + 1) L (.int x :: st) h
    | _ => none) else none
  | .iload i => if len = 2 then (match L.getD i none with
    | some (.int x) => mNx (pc + 2) L (.int x :: st) h
    | _ => none) else none
  | .lload_n i => if len = 1 then (match L.getD i.val none with
    | some (.long x) => mNx (pc + 1) L (.long x :: st) h
    | _ => none) else none
  | .lload i => if len = 2 then (match L.getD i none with
    | some (.long x) => mNx (pc + 2) L (.long x :: st) h
    | _ => none) else none
  | .aload_n i => if len = 1 then (match L.getD i.val none with
    | some (.ref x) => mNx (pc + 1) L (.ref x :: st) h
    | _ => none) else none
  | .aload i => if len = 2 then (match L.getD i none with
    | some (.ref x) => mNx (pc + 2) L (.ref x :: st) h
    | _ => none) else none
  | .istore_n i => if len = 1 ∧ i.val < mx mi then (match st with
    | .int x :: r => mNx (pc + 1) (mS1 L i.val (.int x)) r h
    | _ => none) else none
  | .istore i => if len = 2 ∧ i < mx mi then (match st with
    | .int x :: r => mNx (pc + 2) (mS1 L i (.int x)) r h
    | _ => none) else none
  | .astore_n i => if len = 1 ∧ i.val < mx mi then (match st with
    | .ref x :: r => mNx (pc + 1) (mS1 L i.val (.ref x)) r h
    | _ => none) else none
  | .astore i => if len = 2 ∧ i < mx mi then (match st with
    | .ref x :: r => mNx (pc + 2) (mS1 L i (.ref x)) r h
    | _ => none) else none
  | .lstore_n i => if len = 1 ∧ i.val + 1 < mx mi then (match st with
    | .long x :: r => mNx (pc + 1) (mS2 L i.val (.long x)) r h
    | _ => none) else none
  | .lstore i => if len = 2 ∧ i + 1 < mx mi then (match st with
    | .long x :: r => mNx (pc + 2) (mS2 L i (.long x)) r h
    | _ => none) else none
  | .iinc i n => if len = 3 ∧ i < mx mi then (match L.getD i none with
    | some (.int x) => mNx (pc + 3) (mS1 L i (.int (x + Int32.ofInt n))) st h
    | _ => none) else none
  | .iadd => if len = 1 then (match st with
    | .int y :: .int x :: r => mNx (pc + 1) L (.int (x + y) :: r) h
    | _ => none) else none
  | .isub => if len = 1 then (match st with
    | .int y :: .int x :: r => mNx (pc + 1) L (.int (x - y) :: r) h
    | _ => none) else none
  | .imul => if len = 1 then (match st with
    | .int y :: .int x :: r => mNx (pc + 1) L (.int (x * y) :: r) h
    | _ => none) else none
  | .iand => if len = 1 then (match st with
    | .int y :: .int x :: r => mNx (pc + 1) L (.int (x &&& y) :: r) h
    | _ => none) else none
  | .ior => if len = 1 then (match st with
    | .int y :: .int x :: r => mNx (pc + 1) L (.int (x ||| y) :: r) h
    | _ => none) else none
  | .ixor => if len = 1 then (match st with
    | .int y :: .int x :: r => mNx (pc + 1) L (.int (x ^^^ y) :: r) h
    | _ => none) else none
  | .ishl => if len = 1 then (match st with
    | .int y :: .int x :: r => mNx (pc + 1) L (.int (x <<< (y &&& 31)) :: r) h
    | _ => none) else none
  | .ishr => if len = 1 then (match st with
    | .int y :: .int x :: r => mNx (pc + 1) L (.int (x >>> (y &&& 31)) :: r) h
    | _ => none) else none
  | .iushr => if len = 1 then (match st with
    | .int y :: .int x :: r => mNx (pc + 1) L (.int ((x.toUInt32 >>> (y.toUInt32 &&& Int32.toUInt32 31)).toInt32) :: r) h
    | _ => none) else none
  | .idiv => if len = 1 then (match st with
    | .int y :: .int x :: r => if y = 0 then none else mNx (pc + 1) L (.int (x / y) :: r) h
    | _ => none) else none
  | .irem => if len = 1 then (match st with
    | .int y :: .int x :: r => if y = 0 then none else mNx (pc + 1) L (.int (x - x / y * y) :: r) h
    | _ => none) else none
  | .ladd => if len = 1 then (match st with
    | .long y :: .long x :: r => mNx (pc + 1) L (.long (x + y) :: r) h
    | _ => none) else none
  | .lsub => if len = 1 then (match st with
    | .long y :: .long x :: r => mNx (pc + 1) L (.long (x - y) :: r) h
    | _ => none) else none
  | .lcmp => if len = 1 then (match st with
    | .long y :: .long x :: r => mNx (pc + 1) L (.int (lg_cmp x y) :: r) h
    | _ => none) else none
  | .ineg => if len = 1 then (match st with
    | .int x :: r => mNx (pc + 1) L (.int (-x) :: r) h
    | _ => none) else none
  | .i2l => if len = 1 then (match st with
    | .int x :: r => mNx (pc + 1) L (.long x.toInt64 :: r) h
    | _ => none) else none
  | .l2i => if len = 1 then (match st with
    | .long x :: r => mNx (pc + 1) L (.int x.toInt32 :: r) h
    | _ => none) else none
  | .pop => if len = 1 then (match st with
    | .int _ :: r => mNx (pc + 1) L r h
    | _ => none) else none
  | .dup => if len = 1 then (match st with
    | v :: r => if v.category = 1 then mNx (pc + 1) L (v :: v :: r) h else none
    | _ => none) else none
  | .dup2 => if len = 1 then (match st with
    | v :: r => if v.category = 2 then mNx (pc + 1) L (v :: v :: r) h else (match r with
      | w :: r2 => if w.category = 1 ∧ v.category = 1 then mNx (pc + 1) L (v :: w :: v :: w :: r2) h else none
      | _ => none)
    | _ => none) else none
  | .ifCond c off => if len = 3 then (match st with
    | .int x :: r => if mCmp c x 0 = true then mTg pc off L r h else mNx (pc + 3) L r h
    | _ => none) else none
  | .if_icmp c off => if len = 3 then (match st with
    | .int y :: .int x :: r => if mCmp c x y = true then mTg pc off L r h else mNx (pc + 3) L r h
    | _ => none) else none
  | .goto off => if len = 3 then mTg pc off L st h else none
  | .tableswitch dflt lo hi offs => (match st with
    | .int x :: r => if x.toInt < lo ∨ hi < x.toInt then mTg pc dflt L r h else (match offs[(x.toInt - lo).toNat]? with
      | some off => mTg pc off L r h
      | none => none)
    | _ => none)
  | .getfield i => if len = 3 then mGetF mi pc i L st h else none
  | .putfield i => if len = 3 then mPutF mi pc i L st h else none
  | .iaload => if len = 1 then (match st with
    | .int i :: .ref a :: r => if (mK h a = 11 ∨ mK h a = 19) ∧ ixOK i (mL h a) = true then mNx (pc + 1) L (.int (mI h a i.toNatClampNeg) :: r) h else none
    | _ => none) else none
  | .laload => if len = 1 then (match st with
    | .int i :: .ref a :: r => if mK h a = 12 ∧ ixOK i (mL h a) = true then mNx (pc + 1) L (.long (mJ h a i.toNatClampNeg) :: r) h else none
    | _ => none) else none
  | .aaload => if len = 1 then (match st with
    | .int i :: .ref a :: r => if (12 < mK h a ∧ mK h a < 19) ∧ ixOK i (mL h a) = true then (match mR h a i.toNatClampNeg with
      | some b => mNx (pc + 1) L (.ref b :: r) h
      | none => none) else none
    | _ => none) else none
  | .iastore => if len = 1 then (match st with
    | .int v :: .int i :: .ref a :: r => if mK h a = 11 ∧ ixOK i (mL h a) = true then mNx (pc + 1) L r (wI h a i.toNatClampNeg v) else none
    | _ => none) else none
  | .lastore => if len = 1 then (match st with
    | .long v :: .int i :: .ref a :: r => if mK h a = 12 ∧ ixOK i (mL h a) = true then mNx (pc + 1) L r (wJ h a i.toNatClampNeg v) else none
    | _ => none) else none
  | .aastore => if len = 1 then (match st with
    | .ref b :: .int i :: .ref a :: r => if (12 < mK h a ∧ mK h a < 18) ∧ mK h b = mEl (mK h a) ∧ ixOK i (mL h a) = true then mNx (pc + 1) L r (wR h a i.toNatClampNeg (some b)) else none
    | _ => none) else none
  | .arraylength => if len = 1 then (match st with
    | .ref a :: r => if mK h a = 19 then mNx (pc + 1) L (.int (Int32.ofNat (mL h a)) :: r) h else none
    | _ => none) else none
  | .newarray t => if len = 2 then (match st with
    | .int n :: r => if (t = .int ∨ t = .long) ∧ ¬ n < 0 ∧ n.toNatClampNeg ≤ 1000 then mNx (pc + 2) L (.ref (mN h) :: r) (wN h (if t = .int then 11 else 12) n.toNatClampNeg) else none
    | _ => none) else none
  | .anewarray i => if len = 3 then (match st with
    | .int n :: r => (match nGet (ow mi) i with
      | some ci => if ci ∈ aoL ∧ ¬ n < 0 ∧ n.toNatClampNeg ≤ 1000 then mNx (pc + 3) L (.ref (mN h) :: r) (wN h (mAr ci) n.toNatClampNeg) else none
      | none => none)
    | _ => none) else none
  | .multianewarray i dm => if len = 4 ∧ dm = 2 ∧ ow mi = 5 ∧ i = 9 then (match st with
    | .int k :: .int n :: r => if ¬ n < 0 ∧ n.toNatClampNeg ≤ 1000 ∧ ¬ k < 0 ∧ k.toNatClampNeg ≤ 1000 then mNx (pc + 4) L (.ref (mN h) :: r) (wGrid h n.toNatClampNeg k.toNatClampNeg) else none
    | _ => none) else none
  | .new i => if len = 3 then (match nGet (ow mi) i with
    | some ci => mNx (pc + 3) L (.ref (mN h) :: st) (wN h ci (nfN ci))
    | none => none) else none
  | .invokevirtual i => if len = 3 then mCallV mi pc i st h else none
  | .invokespecial i => if len = 3 then mCallI mi pc i L st h else none
  | .invokestatic i => if len = 3 then mCallS mi pc i L st h else none
  | .ireturn => if len = 1 then (match st with
    | [.int v] => if mrt mi = some .int ∨ (mrt mi = some .boolean ∧ mZO v = true) then some (.inr (.inl (some (.int v)))) else none
    | _ => none) else none
  | .lreturn => if len = 1 then (match st with
    | [.long v] => if mrt mi = some .long then some (.inr (.inl (some (.long v)))) else none
    | _ => none) else none
  | .return_ => if len = 1 then (match st with
    | [] => if mrt mi = none then some (.inr (.inl none)) else none
    | _ => none) else none
  | _ => none
def mStep (mi pc : Nat) (L : mLs) (st : List Value) (h : mM) : Option mX := match decode (cd mi) pc with
  | .ok (ins, len) => mIns mi pc L st h ins len
  | .error _ => none
def mSl (as : List Value) : mLs := as.flatMap fun v => if v.category = 2 then [some v, none] else [some v]
def mEnt (mj : Nat) (as : List Value) : mLs := mSl as ++ List.replicate (mx mj - (mSl as).length) none
def mEx : Nat → Nat → Nat → Nat → mLs → List Value → mM → Option (Option Value × mM)
  | 0, _, _, _, _, _, _ => none
  | n + 1, d, mi, pc, L, st, h => match mStep mi pc L st h with
    | none => none
    | some (.inl x) => mEx n d mi x.1 x.2.1 x.2.2.1 x.2.2.2
    | some (.inr (.inl r)) => some (r, h)
    | some (.inr (.inr x)) => match d with
      | 0 => none
      | d' + 1 => match mEx n d' x.1 0 (mEnt x.1 x.2.1) [] h with
        | none => none
        | some y => mEx n (d' + 1) mi (pc + 3) L (y.1.toList ++ x.2.2) y.2
