-- equations of the run, an instruction each
theorem ev_of {d mi pc pc' len : Nat} {L L' : mLs} {st st' : List Value} {h h' : mM} {ins : Instr} (hd : decode (cd mi) pc = .ok (ins, len)) (hs : mIns mi pc L st h ins len = some (.inl (pc', L', st', h'))) : ev d mi pc L st h = ev d mi pc' L' st' h' := ev_next (by unfold mStep; rw [hd]; exact hs)
theorem ev_no {d mi pc len : Nat} {L : mLs} {st : List Value} {h : mM} {ins : Instr} (hd : decode (cd mi) pc = .ok (ins, len)) (hs : mIns mi pc L st h ins len = none) : ev d mi pc L st h = none := ev_none (by unfold mStep; rw [hd]; exact hs)
theorem ev_rt {d mi pc len : Nat} {L : mLs} {st : List Value} {h : mM} {ins : Instr} {v : Option Value} (hd : decode (cd mi) pc = .ok (ins, len)) (hs : mIns mi pc L st h ins len = some (.inr (.inl v))) : ev d mi pc L st h = some (v, h) := ev_ret (by unfold mStep; rw [hd]; exact hs)
theorem ev_cl {d mi pc mj len : Nat} {L : mLs} {st as rest : List Value} {h : mM} {ins : Instr} (hd : decode (cd mi) pc = .ok (ins, len)) (hs : mIns mi pc L st h ins len = some (.inr (.inr (mj, as, rest)))) : ev (d + 1) mi pc L st h = cV (ev d mj 0 (mEnt mj as) [] h) (fun v h' => ev (d + 1) mi (pc + 3) L (v ++ rest) h') := ev_call (by unfold mStep; rw [hd]; exact hs)
theorem cV_some {r : Option Value} {h : mM} {k : List Value → mM → Option (Option Value × mM)} : cV (some (r, h)) k = k r.toList h := rfl
theorem tl_some {v : Value} : (some v).toList = [v] := rfl
theorem tl_none : (none : Option Value).toList = [] := rfl
theorem mZO_0 : mZO 0 = true := rfl
theorem mZO_1 : mZO 1 = true := rfl
theorem mLong_n : mLong none = false := rfl
theorem mLong_i {x : Int32} : mLong (some (.int x)) = false := rfl
theorem mLong_r {x : Nat} : mLong (some (.ref x)) = false := rfl
theorem mCat_0 : mCat [] = 0 := rfl
theorem mCat_i {x : Int32} {s : List Value} : mCat (.int x :: s) = 1 + mCat s := by simp [mCat, Value.category]
theorem mCat_r {x : Nat} {s : List Value} : mCat (.ref x :: s) = 1 + mCat s := by simp [mCat, Value.category]
theorem mCat_l {x : Int64} {s : List Value} : mCat (.long x :: s) = 2 + mCat s := by simp [mCat, Value.category]
def oB (o : Option Nat) (k : Nat → Option (Option Value × mM)) : Option (Option Value × mM) := match o with
  | some b => k b
  | none => none
theorem oB_some {b : Nat} {k : Nat → Option (Option Value × mM)} : oB (some b) k = k b := rfl
def tsF {α : Type} (f : Nat → α) (x : Int32) : List Nat → Int → α → α
  | [], _, z => z
  | t :: ts, k, z => if x.toInt = k then f t else tsF f x ts (k + 1) z
theorem mS1_s {L : mLs} {j : Nat} {v : Value} (hl : mLong (L.getD j none) = false) : mS1 L (j + 1) v = L.set (j + 1) (some v) := by
  have e : mClr L (j + 1) = if mLong (L.getD j none) = true then L.set j none else L := rfl
  unfold mS1
  rw [e, hl]
  rfl
theorem mS2_s {L : mLs} {j : Nat} {v : Value} (hl : mLong (L.getD j none) = false) : mS2 L (j + 1) v = (L.set (j + 1 + 1) none).set (j + 1) (some v) := by
  have e : mClr L (j + 1) = if mLong (L.getD j none) = true then L.set j none else L := rfl
  unfold mS2
  rw [e, hl]
  rfl
section EVS
variable {d mi pc tgt : Nat} {L : mLs} {st : List Value} {h : mM}
theorem ev_if {c : ClassFile.Cond} {off : Int} {x : Int32} (P : Prop) (dP : Decidable P) (hP : mCmp c x 0 = decide P) (hd : decode (cd mi) pc = .ok (.ifCond c off, 3)) (ht : (pc : Int) + off = (tgt : Int)) : ev d mi pc L (.int x :: st) h = if P then ev d mi tgt L st h else ev d mi (pc + 3) L st h := by
  by_cases hc : P
  · rw [if_pos hc]
    refine ev_of hd ?_
    have : mCmp c x 0 = true := by rw [hP]; exact decide_eq_true hc
    simp only [mIns, this, if_true, mTg]
    rw [if_pos (by omega), ht]
    rfl
  · rw [if_neg hc]
    refine ev_of hd ?_
    have : mCmp c x 0 = false := by rw [hP]; exact decide_eq_false hc
    simp [mIns, this, mNx]
theorem ev_ic {c : ClassFile.Cond} {off : Int} {x y : Int32} (P : Prop) (dP : Decidable P) (hP : mCmp c x y = decide P) (hd : decode (cd mi) pc = .ok (.if_icmp c off, 3)) (ht : (pc : Int) + off = (tgt : Int)) : ev d mi pc L (.int y :: .int x :: st) h = if P then ev d mi tgt L st h else ev d mi (pc + 3) L st h := by
  by_cases hc : P
  · rw [if_pos hc]
    refine ev_of hd ?_
    have : mCmp c x y = true := by rw [hP]; exact decide_eq_true hc
    simp only [mIns, this, if_true, mTg]
    rw [if_pos (by omega), ht]
    rfl
  · rw [if_neg hc]
    refine ev_of hd ?_
    have : mCmp c x y = false := by rw [hP]; exact decide_eq_false hc
    simp [mIns, this, mNx]
theorem ev_go {off : Int} (hd : decode (cd mi) pc = .ok (.goto off, 3)) (ht : (pc : Int) + off = (tgt : Int)) : ev d mi pc L st h = ev d mi tgt L st h := by
  refine ev_of hd ?_
  simp only [mIns, mTg, if_true]
  rw [if_pos (by omega), ht]
  rfl
theorem ev_div {x y : Int32} (hd : decode (cd mi) pc = .ok (.idiv, 1)) : ev d mi pc L (.int y :: .int x :: st) h = if y = 0 then none else ev d mi (pc + 1) L (.int (x / y) :: st) h := by
  by_cases hc : y = 0
  · rw [if_pos hc]
    exact ev_no hd (by simp [mIns, hc])
  · rw [if_neg hc]
    exact ev_of hd (by simp [mIns, hc, mNx])
theorem ev_rem {x y : Int32} (hd : decode (cd mi) pc = .ok (.irem, 1)) : ev d mi pc L (.int y :: .int x :: st) h = if y = 0 then none else ev d mi (pc + 1) L (.int (x - x / y * y) :: st) h := by
  by_cases hc : y = 0
  · rw [if_pos hc]
    exact ev_no hd (by simp [mIns, hc])
  · rw [if_neg hc]
    exact ev_of hd (by simp [mIns, hc, mNx])
theorem ev_gI {i a ci k : Nat} (hd : decode (cd mi) pc = .ok (.getfield i, 3)) (hf : fGet (ow mi) i = some (ci, k)) (ht : mIsR (tyN ci k) = false) : ev d mi pc L (.ref a :: st) h = if mK h a = ci then ev d mi (pc + 3) L (.int (mI h a k) :: st) h else none := by
  by_cases hc : mK h a = ci
  · rw [if_pos hc]
    exact ev_of hd (by simp [mIns, mGetF, hf, hc, ht, mNx])
  · rw [if_neg hc]
    exact ev_no hd (by simp [mIns, mGetF, hf, hc])
theorem ev_gR {i a ci k : Nat} (hd : decode (cd mi) pc = .ok (.getfield i, 3)) (hf : fGet (ow mi) i = some (ci, k)) (ht : mIsR (tyN ci k) = true) : ev d mi pc L (.ref a :: st) h = if mK h a = ci then oB (mR h a k) (fun b => ev d mi (pc + 3) L (.ref b :: st) h) else none := by
  by_cases hc : mK h a = ci
  · rw [if_pos hc]
    cases hb : mR h a k with
    | none => exact ev_no hd (by simp [mIns, mGetF, hf, hc, ht, hb])
    | some b => exact ev_of hd (by simp [mIns, mGetF, hf, hc, ht, hb, mNx])
  · rw [if_neg hc]
    exact ev_no hd (by simp [mIns, mGetF, hf, hc])
theorem ev_pI {i a ci k : Nat} {v : Int32} (hd : decode (cd mi) pc = .ok (.putfield i, 3)) (hf : fGet (ow mi) i = some (ci, k)) (ht : tyN ci k = .int) (hn : (TN ci k).2.2.2 = false) : ev d mi pc L (.int v :: .ref a :: st) h = if mK h a = ci then ev d mi (pc + 3) L st (wI h a k v) else none := by
  by_cases hc : mK h a = ci
  · rw [if_pos hc]
    exact ev_of hd (by simp [mIns, mPutF, hf, hc, ht, hn, mNx])
  · rw [if_neg hc]
    exact ev_no hd (by simp [mIns, mPutF, hf, hc])
theorem ev_pZ {i a ci k : Nat} {v : Int32} (hd : decode (cd mi) pc = .ok (.putfield i, 3)) (hf : fGet (ow mi) i = some (ci, k)) (ht : tyN ci k = .boolean) (hn : (TN ci k).2.2.2 = false) : ev d mi pc L (.int v :: .ref a :: st) h = if mK h a = ci ∧ mZO v = true then ev d mi (pc + 3) L st (wI h a k v) else none := by
  by_cases hc : mK h a = ci ∧ mZO v = true
  · rw [if_pos hc]
    exact ev_of hd (by simp [mIns, mPutF, hf, hc, ht, hn, mNx])
  · rw [if_neg hc]
    refine ev_no hd ?_
    simp only [mIns, mPutF, hf, ht, hn, if_true]
    rw [if_neg]
    intro q
    exact hc ⟨q.1, by have := q.2.1; simpa using this⟩
theorem ev_pR {i a ci k b : Nat} (hd : decode (cd mi) pc = .ok (.putfield i, 3)) (hf : fGet (ow mi) i = some (ci, k)) (ht : mIsR (tyN ci k) = true) (hn : (TN ci k).2.2.2 = false ∨ ((TN ci k).2.2.2 = true ∧ (yn mi).name = "<init>" ∧ (TN ci k).1 = RN (ow mi))) : ev d mi pc L (.ref b :: .ref a :: st) h = if mK h a = ci then ev d mi (pc + 3) L st (wR h a k (some b)) else none := by
  by_cases hc : mK h a = ci
  · rw [if_pos hc]
    refine ev_of hd ?_
    simp only [mIns, mPutF, hf, mNx, if_true]
    rw [if_pos ⟨hc, ht, hn⟩]
  · rw [if_neg hc]
    exact ev_no hd (by simp [mIns, mPutF, hf, hc])
theorem ev_ia {a : Nat} {i : Int32} (hd : decode (cd mi) pc = .ok (.iaload, 1)) : ev d mi pc L (.int i :: .ref a :: st) h = if (mK h a = 11 ∨ mK h a = 19) ∧ ixOK i (mL h a) = true then ev d mi (pc + 1) L (.int (mI h a i.toNatClampNeg) :: st) h else none := by
  by_cases hc : (mK h a = 11 ∨ mK h a = 19) ∧ ixOK i (mL h a) = true
  · rw [if_pos hc]
    exact ev_of hd (by simp only [mIns, mNx, if_true]; rw [if_pos hc])
  · rw [if_neg hc]
    exact ev_no hd (by simp only [mIns, if_true]; rw [if_neg hc])
theorem ev_la {a : Nat} {i : Int32} (hd : decode (cd mi) pc = .ok (.laload, 1)) : ev d mi pc L (.int i :: .ref a :: st) h = if mK h a = 12 ∧ ixOK i (mL h a) = true then ev d mi (pc + 1) L (.long (mJ h a i.toNatClampNeg) :: st) h else none := by
  by_cases hc : mK h a = 12 ∧ ixOK i (mL h a) = true
  · rw [if_pos hc]
    exact ev_of hd (by simp only [mIns, mNx, if_true]; rw [if_pos hc])
  · rw [if_neg hc]
    exact ev_no hd (by simp only [mIns, if_true]; rw [if_neg hc])
theorem ev_aa {a : Nat} {i : Int32} (hd : decode (cd mi) pc = .ok (.aaload, 1)) : ev d mi pc L (.int i :: .ref a :: st) h = if (12 < mK h a ∧ mK h a < 19) ∧ ixOK i (mL h a) = true then oB (mR h a i.toNatClampNeg) (fun b => ev d mi (pc + 1) L (.ref b :: st) h) else none := by
  by_cases hc : (12 < mK h a ∧ mK h a < 19) ∧ ixOK i (mL h a) = true
  · rw [if_pos hc]
    cases hb : mR h a i.toNatClampNeg with
    | none => exact ev_no hd (by simp only [mIns, if_true]; rw [if_pos hc, hb])
    | some b => exact ev_of hd (by simp only [mIns, mNx, if_true]; rw [if_pos hc, hb])
  · rw [if_neg hc]
    exact ev_no hd (by simp only [mIns, if_true]; rw [if_neg hc])
theorem ev_is {a : Nat} {i v : Int32} (hd : decode (cd mi) pc = .ok (.iastore, 1)) : ev d mi pc L (.int v :: .int i :: .ref a :: st) h = if mK h a = 11 ∧ ixOK i (mL h a) = true then ev d mi (pc + 1) L st (wI h a i.toNatClampNeg v) else none := by
  by_cases hc : mK h a = 11 ∧ ixOK i (mL h a) = true
  · rw [if_pos hc]
    exact ev_of hd (by simp only [mIns, mNx, if_true]; rw [if_pos hc])
  · rw [if_neg hc]
    exact ev_no hd (by simp only [mIns, if_true]; rw [if_neg hc])
theorem ev_ls {a : Nat} {i : Int32} {v : Int64} (hd : decode (cd mi) pc = .ok (.lastore, 1)) : ev d mi pc L (.long v :: .int i :: .ref a :: st) h = if mK h a = 12 ∧ ixOK i (mL h a) = true then ev d mi (pc + 1) L st (wJ h a i.toNatClampNeg v) else none := by
  by_cases hc : mK h a = 12 ∧ ixOK i (mL h a) = true
  · rw [if_pos hc]
    exact ev_of hd (by simp only [mIns, mNx, if_true]; rw [if_pos hc])
  · rw [if_neg hc]
    exact ev_no hd (by simp only [mIns, if_true]; rw [if_neg hc])
theorem ev_as {a b : Nat} {i : Int32} (hd : decode (cd mi) pc = .ok (.aastore, 1)) : ev d mi pc L (.ref b :: .int i :: .ref a :: st) h = if (12 < mK h a ∧ mK h a < 18) ∧ mK h b = mEl (mK h a) ∧ ixOK i (mL h a) = true then ev d mi (pc + 1) L st (wR h a i.toNatClampNeg (some b)) else none := by
  by_cases hc : (12 < mK h a ∧ mK h a < 18) ∧ mK h b = mEl (mK h a) ∧ ixOK i (mL h a) = true
  · rw [if_pos hc]
    exact ev_of hd (by simp only [mIns, mNx, if_true]; rw [if_pos hc])
  · rw [if_neg hc]
    exact ev_no hd (by simp only [mIns, if_true]; rw [if_neg hc])
theorem ev_len {a : Nat} (hd : decode (cd mi) pc = .ok (.arraylength, 1)) : ev d mi pc L (.ref a :: st) h = if mK h a = 19 then ev d mi (pc + 1) L (.int (Int32.ofNat (mL h a)) :: st) h else none := by
  by_cases hc : mK h a = 19
  · rw [if_pos hc]
    exact ev_of hd (by simp only [mIns, mNx, if_true]; rw [if_pos hc])
  · rw [if_neg hc]
    exact ev_no hd (by simp only [mIns, if_true]; rw [if_neg hc])
theorem ev_max {i mj : Nat} {x y : Int32} (hd : decode (cd mi) pc = .ok (.invokestatic i, 3)) (hf : kGet (ow mi) i = some (6, mj)) (hc : mCat st ≤ 8) : ev d mi pc L (.int y :: .int x :: st) h = ev d mi (pc + 3) L (.int (if x < y then y else x) :: st) h := ev_of hd (by simp [mIns, mCallS, hf, hc, mNx])
theorem ev_min {i mj : Nat} {x y : Int32} (hd : decode (cd mi) pc = .ok (.invokestatic i, 3)) (hf : kGet (ow mi) i = some (7, mj)) (hc : mCat st ≤ 8) : ev d mi pc L (.int y :: .int x :: st) h = ev d mi (pc + 3) L (.int (if y < x then y else x) :: st) h := ev_of hd (by simp [mIns, mCallS, hf, hc, mNx])
theorem ev_abs {i mj : Nat} {x : Int32} (hd : decode (cd mi) pc = .ok (.invokestatic i, 3)) (hf : kGet (ow mi) i = some (8, mj)) (hc : mCat st ≤ 8) : ev d mi pc L (.int x :: st) h = ev d mi (pc + 3) L (.int (if 0 ≤ x then x else 0 - x) :: st) h := ev_of hd (by simp [mIns, mCallS, hf, hc, mNx])
theorem ev_cpy {i mj a b : Nat} {n dp sp : Int32} (hd : decode (cd mi) pc = .ok (.invokestatic i, 3)) (hf : kGet (ow mi) i = some (9, mj)) (hc : mCat st ≤ 8) : ev d mi pc L (.int n :: .int dp :: .ref b :: .int sp :: .ref a :: st) h = if mK h a = 11 ∧ mK h b = 11 ∧ ¬ sp < 0 ∧ ¬ dp < 0 ∧ ¬ n < 0 ∧ sp.toNatClampNeg + n.toNatClampNeg ≤ mL h a ∧ dp.toNatClampNeg + n.toNatClampNeg ≤ mL h b then ev d mi (pc + 3) L st (wC h a b sp.toNatClampNeg dp.toNatClampNeg n.toNatClampNeg) else none := by
  split
  · rename_i hq
    refine ev_of hd ?_
    simp only [mIns, mCallS, hf, mNx, if_true]
    rw [if_neg (by decide), if_neg (by decide), if_neg (by decide), if_pos ⟨hc, hq⟩]
  · rename_i hq
    refine ev_no hd ?_
    simp only [mIns, mCallS, hf, mNx, if_true]
    rw [if_neg (by decide), if_neg (by decide), if_neg (by decide), if_neg (fun z => hq z.2)]
theorem ev_obj {i mj a : Nat} (hd : decode (cd mi) pc = .ok (.invokespecial i, 3)) (hf : kGet (ow mi) i = some (5, mj)) (hc : mCat st ≤ 8) : ev d mi pc L (.ref a :: st) h = ev d mi (pc + 3) L st h := ev_of hd (by simp [mIns, mCallI, hf, hc, mNx])
theorem ev_cs {i mj kd : Nat} {S as rest : List Value} {E : mLs} (hd : decode (cd mi) pc = .ok (.invokestatic i, 3)) (hf : kGet (ow mi) i = some (kd, mj)) (hk : kd = 1 ∨ kd = 3) (ha : (S.take (na mj)).reverse = as) (hr : S.drop (na mj) = rest) (hl : na mj ≤ S.length) (he : mEnt mj as = E) (hm : (as.map Value.category).sum ≤ mx mj) (hc : mCat rest ≤ 8) : ev (d + 1) mi pc L S h = cV (ev d mj 0 E [] h) (fun v h' => ev (d + 1) mi (pc + 3) L (v ++ rest) h') := by
  subst ha
  subst hr
  subst he
  refine ev_cl hd ?_
  simp only [mIns, mCallS, hf, mNx, if_true]
  rw [if_neg (by omega), if_neg (by omega), if_neg (by omega), if_neg (by omega), if_pos ⟨hk, hl, hc, hm⟩]
theorem ev_cv {i mj a : Nat} {S as rest : List Value} {E : mLs} (hd : decode (cd mi) pc = .ok (.invokevirtual i, 3)) (hf : kGet (ow mi) i = some (0, mj)) (ha : (S.take (na mj)).reverse = as) (hr : S.drop (na mj) = .ref a :: rest) (hl : na mj ≤ S.length) (he : mEnt mj (.ref a :: as) = E) (hm : ((Value.ref a :: as).map Value.category).sum ≤ mx mj) (hc : mCat rest ≤ 8) : ev (d + 1) mi pc L S h = if mK h a = ow mj then cV (ev d mj 0 E [] h) (fun v h' => ev (d + 1) mi (pc + 3) L (v ++ rest) h') else none := by
  subst ha
  subst he
  by_cases hq : mK h a = ow mj
  · rw [if_pos hq]
    refine ev_cl hd ?_
    simp only [mIns, mCallV, hf, hr, if_true]
    rw [if_pos ⟨trivial, hq, hl, hc, hm⟩]
  · rw [if_neg hq]
    refine ev_no hd ?_
    simp only [mIns, mCallV, hf, hr, if_true]
    rw [if_neg (fun z => hq z.2.1)]
theorem ev_ci {i mj kd a : Nat} {S as rest : List Value} {E : mLs} (hd : decode (cd mi) pc = .ok (.invokespecial i, 3)) (hf : kGet (ow mi) i = some (kd, mj)) (hk : kd = 2 ∨ kd = 4) (ha : (S.take (na mj)).reverse = as) (hr : S.drop (na mj) = .ref a :: rest) (hl : na mj ≤ S.length) (he : mEnt mj (.ref a :: as) = E) (hm : ((Value.ref a :: as).map Value.category).sum ≤ mx mj) (hc : mCat rest ≤ 8) : ev (d + 1) mi pc L S h = cV (ev d mj 0 E [] h) (fun v h' => ev (d + 1) mi (pc + 3) L (v ++ rest) h') := by
  subst ha
  subst he
  refine ev_cl hd ?_
  simp only [mIns, mCallI, hf, hr, if_true]
  rw [if_neg (by omega), if_pos ⟨hk, hl, hc, hm⟩]
theorem ev_rz {v : Int32} (hd : decode (cd mi) pc = .ok (.ireturn, 1)) (hr : mrt mi = some .boolean) : ev d mi pc L [.int v] h = if mZO v = true then some (some (.int v), h) else none := by
  by_cases hq : mZO v = true
  · rw [if_pos hq]
    exact ev_rt hd (by simp [mIns, hr, hq])
  · rw [if_neg hq]
    exact ev_no hd (by simp [mIns, hr, hq])
theorem ev_ri {v : Int32} (hd : decode (cd mi) pc = .ok (.ireturn, 1)) (hr : mrt mi = some .int) : ev d mi pc L [.int v] h = some (some (.int v), h) := ev_rt hd (by simp [mIns, hr])
theorem ev_rl {v : Int64} (hd : decode (cd mi) pc = .ok (.lreturn, 1)) (hr : mrt mi = some .long) : ev d mi pc L [.long v] h = some (some (.long v), h) := ev_rt hd (by simp [mIns, hr])
theorem ev_rv (hd : decode (cd mi) pc = .ok (.return_, 1)) (hr : mrt mi = none) : ev d mi pc L [] h = some (none, h) := ev_rt hd (by simp [mIns, hr])
theorem ev_na {t : ArrayType} {n : Int32} (hd : decode (cd mi) pc = .ok (.newarray t, 2)) (ht : t = .int ∨ t = .long) (hn : ¬ n < 0) (h1 : n.toNatClampNeg ≤ 1000) : ev d mi pc L (.int n :: st) h = ev d mi (pc + 2) L (.ref (mN h) :: st) (wN h (if t = .int then 11 else 12) n.toNatClampNeg) := ev_of hd (by simp only [mIns, mNx, if_true]; rw [if_pos ⟨ht, hn, h1⟩])
theorem ev_anew {i ci : Nat} {n : Int32} (hd : decode (cd mi) pc = .ok (.anewarray i, 3)) (hf : nGet (ow mi) i = some ci) (ha : ci ∈ aoL) (hn : ¬ n < 0) (h1 : n.toNatClampNeg ≤ 1000) : ev d mi pc L (.int n :: st) h = ev d mi (pc + 3) L (.ref (mN h) :: st) (wN h (mAr ci) n.toNatClampNeg) := ev_of hd (by simp only [mIns, mNx, hf, if_true]; rw [if_pos ⟨ha, hn, h1⟩])
theorem ev_new {i ci : Nat} (hd : decode (cd mi) pc = .ok (.new i, 3)) (hf : nGet (ow mi) i = some ci) : ev d mi pc L st h = ev d mi (pc + 3) L (.ref (mN h) :: st) (wN h ci (nfN ci)) := ev_of hd (by simp [mIns, mNx, hf])
theorem ev_grid {n k : Int32} (hd : decode (cd mi) pc = .ok (.multianewarray 9 2, 4)) (ho : ow mi = 5) (hn : ¬ n < 0) (h1 : n.toNatClampNeg ≤ 1000) (hk : ¬ k < 0) (h2 : k.toNatClampNeg ≤ 1000) : ev d mi pc L (.int k :: .int n :: st) h = ev d mi (pc + 4) L (.ref (mN h) :: st) (wGrid h n.toNatClampNeg k.toNatClampNeg) := ev_of hd (by simp only [mIns, mNx, ho]; rw [if_pos ⟨trivial, trivial, trivial, trivial⟩, if_pos ⟨hn, h1, hk, h2⟩])
theorem ev_st_i {i : Nat} {L' : mLs} {x : Int32} (hd : decode (cd mi) pc = .ok (.istore i, 2)) (hn : i < mx mi) (hL : mS1 L i (.int x) = L') : ev d mi pc L (.int x :: st) h = ev d mi (pc + 2) L' st h := by
  subst hL
  exact ev_of hd (by simp [mIns, mNx, hn])
theorem ev_st_in {i : Fin 4} {L' : mLs} {x : Int32} (hd : decode (cd mi) pc = .ok (.istore_n i, 1)) (hn : i.val < mx mi) (hL : mS1 L i.val (.int x) = L') : ev d mi pc L (.int x :: st) h = ev d mi (pc + 1) L' st h := by
  subst hL
  exact ev_of hd (by simp [mIns, mNx, hn])
theorem ev_st_l {i : Nat} {L' : mLs} {x : Int64} (hd : decode (cd mi) pc = .ok (.lstore i, 2)) (hn : i + 1 < mx mi) (hL : mS2 L i (.long x) = L') : ev d mi pc L (.long x :: st) h = ev d mi (pc + 2) L' st h := by
  subst hL
  exact ev_of hd (by simp [mIns, mNx, hn])
theorem ev_st_ln {i : Fin 4} {L' : mLs} {x : Int64} (hd : decode (cd mi) pc = .ok (.lstore_n i, 1)) (hn : i.val + 1 < mx mi) (hL : mS2 L i.val (.long x) = L') : ev d mi pc L (.long x :: st) h = ev d mi (pc + 1) L' st h := by
  subst hL
  exact ev_of hd (by simp [mIns, mNx, hn])
theorem ev_st_r {i : Nat} {L' : mLs} {x : Nat} (hd : decode (cd mi) pc = .ok (.astore i, 2)) (hn : i < mx mi) (hL : mS1 L i (.ref x) = L') : ev d mi pc L (.ref x :: st) h = ev d mi (pc + 2) L' st h := by
  subst hL
  exact ev_of hd (by simp [mIns, mNx, hn])
theorem ev_st_rn {i : Fin 4} {L' : mLs} {x : Nat} (hd : decode (cd mi) pc = .ok (.astore_n i, 1)) (hn : i.val < mx mi) (hL : mS1 L i.val (.ref x) = L') : ev d mi pc L (.ref x :: st) h = ev d mi (pc + 1) L' st h := by
  subst hL
  exact ev_of hd (by simp [mIns, mNx, hn])
theorem ev_inc {i : Nat} {n : Int} {L' : mLs} {x y : Int32} (hd : decode (cd mi) pc = .ok (.iinc i n, 3)) (hn : i < mx mi) (hv : L.getD i none = some (.int x)) (hy : x + Int32.ofInt n = y) (hL : mS1 L i (.int y) = L') : ev d mi pc L st h = ev d mi (pc + 3) L' st h := by
  subst hL
  subst hy
  refine ev_of hd ?_
  simp only [mIns, mNx, hv]
  rw [if_pos ⟨trivial, hn⟩]
theorem tsF_in {α : Type} {f : Nat → α} {x : Int32} {z : α} : ∀ (ts : List Nat) (lo : Int) (t : Nat), lo ≤ x.toInt → ts[(x.toInt - lo).toNat]? = some t → tsF f x ts lo z = f t
  | [], lo, t, _, h => by simp at h
  | u :: ts, lo, t, h1, h2 => by
    unfold tsF
    by_cases hq : x.toInt = lo
    · rw [if_pos hq]
      rw [hq, Int.sub_self] at h2
      cases h2
      rfl
    · rw [if_neg hq]
      refine tsF_in ts (lo + 1) t (by omega) ?_
      rw [show (x.toInt - lo).toNat = (x.toInt - (lo + 1)).toNat + 1 by omega] at h2
      exact h2
theorem tsF_out {α : Type} {f : Nat → α} {x : Int32} {z : α} : ∀ (ts : List Nat) (lo : Int), (x.toInt < lo ∨ lo + ts.length ≤ x.toInt) → tsF f x ts lo z = z
  | [], lo, _ => rfl
  | u :: ts, lo, h => by
    simp only [List.length_cons] at h
    unfold tsF
    rw [if_neg (by omega)]
    exact tsF_out ts (lo + 1) (by omega)
theorem ev_ts {dflt lo hi : Int} {offs : Array Int} {len tg : Nat} {x : Int32} (ts : List Nat) (hd : decode (cd mi) pc = .ok (.tableswitch dflt lo hi offs, len)) (hts : offs.toList.map (fun o => (pc : Int) + o) = ts.map (fun t : Nat => (t : Int))) (hh : hi = lo + ts.length - 1) (hg : (pc : Int) + dflt = (tg : Int)) : ev d mi pc L (.int x :: st) h = tsF (fun t => ev d mi t L st h) x ts lo (ev d mi tg L st h) := by
  by_cases hq : x.toInt < lo ∨ hi < x.toInt
  · rw [tsF_out ts lo (by omega)]
    refine ev_of hd ?_
    simp only [mIns, mTg]
    rw [if_pos hq, if_pos (by omega), hg]
    rfl
  · have hlen : offs.toList.length = ts.length := by
      have := congrArg List.length hts
      simpa using this
    have hlt : (x.toInt - lo).toNat < ts.length := by omega
    obtain ⟨t, ht⟩ : ∃ t, ts[(x.toInt - lo).toNat]? = some t := ⟨_, List.getElem?_eq_getElem hlt⟩
    rw [tsF_in ts lo t (by omega) ht]
    have h3 : (offs.toList.map (fun o => (pc : Int) + o))[(x.toInt - lo).toNat]? = some (t : Int) := by rw [hts, List.getElem?_map, ht]; rfl
    rw [List.getElem?_map] at h3
    cases ho : offs.toList[(x.toInt - lo).toNat]? with
    | none => rw [ho] at h3; cases h3
    | some off =>
      rw [ho] at h3
      simp only [Option.map_some, Option.some.injEq] at h3
      have ho2 : offs[(x.toInt - lo).toNat]? = some off := by rw [← Array.getElem?_toList]; exact ho
      refine ev_of hd ?_
      simp only [mIns, mTg]
      rw [if_neg hq, ho2]
      simp only
      rw [if_pos (by omega), h3]
      rfl
end EVS
