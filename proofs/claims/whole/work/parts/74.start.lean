-- what a run leaves alone; the start
def Stt (h h1 : mM) : Prop := mN h ≤ mN h1 ∧ (mN h1 = mN h → mZ h1 = mZ h) ∧ (∀ a, a < mN h → h1.2.2.1 a = h.2.2.1 a) ∧ (0 < mN h → ∀ k, mI h1 0 k = mI h 0 k)
theorem Stt.rf {h : mM} : Stt h h := ⟨Nat.le_refl _, fun _ => rfl, fun _ _ => rfl, fun _ _ => rfl⟩
theorem Stt.tr {a b c : mM} (p : Stt a b) (q : Stt b c) : Stt a c := by
  obtain ⟨p1, p2, p3, p4⟩ := p
  obtain ⟨q1, q2, q3, q4⟩ := q
  refine ⟨Nat.le_trans p1 q1, fun e => ?_, fun x hx => ?_, fun h0 k => ?_⟩
  · have e1 : mN b = mN a := by omega
    rw [q2 (by omega), p2 e1]
  · rw [q3 x (by omega), p3 x hx]
  · rw [q4 (by omega) k, p4 h0 k]
theorem Stt.wN {h : mM} {q n : Nat} : Stt h (wN h q n) := ⟨Nat.le_succ _, fun e => absurd e (by show ¬ h.1 + 1 = h.1; omega), fun a (ha : a < h.1) => by
  show (if a = h.1 then (q, n) else h.2.2.1 a) = _
  rw [if_neg (by omega)], fun (h0 : 0 < h.1) k => by
  show (if 0 = h.1 then 0 else h.2.2.2.1 0 k) = _
  rw [if_neg (by omega)]; rfl⟩
theorem Stt.wG {h : mM} {n m : Nat} : Stt h (wGrid h n m) := ⟨by show h.1 ≤ h.1 + 1 + n; omega, fun e => absurd e (by show ¬ h.1 + 1 + n = h.1; omega), fun a (ha : a < h.1) => by
  show (if a = h.1 then (18, n) else if h.1 < a ∧ a < h.1 + 1 + n then (11, m) else h.2.2.1 a) = _
  rw [if_neg (by omega), if_neg (by omega)], fun (h0 : 0 < h.1) k => by
  show (if h.1 ≤ 0 then 0 else h.2.2.2.1 0 k) = _
  rw [if_neg (by omega)]; rfl⟩
theorem mK_0 {h : mM} : mK h 0 = 19 := rfl
theorem mK_n0 {h : mM} {a : Nat} (n : mK h a ≠ 19) : (0 : Nat) ≠ a := fun e => n (by rw [← e]; rfl)
theorem Stt.wI {h : mM} {a k : Nat} {v : Int32} (n : mK h a ≠ 19) : Stt h (wI h a k v) := ⟨Nat.le_refl _, fun _ => rfl, fun _ _ => rfl, fun _ j => by rw [mI_wI, if_neg (fun z => mK_n0 n z.1)]⟩
theorem Stt.wC {h : mM} {a b sp dp n : Nat} (m : mK h b ≠ 19) : Stt h (wC h a b sp dp n) := ⟨Nat.le_refl _, fun _ => rfl, fun _ _ => rfl, fun _ j => by rw [mI_wC, if_neg (fun z => mK_n0 m z.1)]⟩
theorem Stt.wJ {h : mM} {a k : Nat} {v : Int64} : Stt h (wJ h a k v) := ⟨Nat.le_refl _, fun _ => rfl, fun _ _ => rfl, fun _ _ => rfl⟩
theorem Stt.wR {h : mM} {a k : Nat} {v : Option Nat} : Stt h (wR h a k v) := ⟨Nat.le_refl _, fun _ => rfl, fun _ _ => rfl, fun _ _ => rfl⟩
theorem st_nx {pc pc' : Nat} {L L' : mLs} {st st' : List Value} {h h1 h0 : mM} (hs : mNx pc L st h = some (.inl (pc', L', st', h1))) (q : Stt h0 h) : Stt h0 h1 := by
  cases hs
  exact q
theorem st_tg {pc pc' : Nat} {off : Int} {L L' : mLs} {st st' : List Value} {h h1 h0 : mM} (hs : mTg pc off L st h = some (.inl (pc', L', st', h1))) (q : Stt h0 h) : Stt h0 h1 := by
  unfold mTg at hs
  split at hs
  · exact st_nx hs q
  · cases hs
theorem fL_ci : ∀ q ∈ fL, q.2.2.1 ≠ 19 := by decide +kernel
theorem fGet_ne {c i ci k : Nat} (h : fGet c i = some (ci, k)) : ci ≠ 19 := fL_ci _ (fGet_in h)
set_option maxHeartbeats 4000000 in
theorem mIns_st {mi pc pc' len : Nat} {L L' : mLs} {st st' : List Value} {h h1 : mM} {ins : Instr} (hs : mIns mi pc L st h ins len = some (.inl (pc', L', st', h1))) : Stt h h1 := by
  cases ins <;> (first | (cases hs; done) | (simp only [mIns, mGetF, mPutF, mCallV, mCallI, mCallS] at hs; (repeat' split at hs) <;> first | (cases hs; done) | exact st_nx hs Stt.rf | exact st_tg hs Stt.rf | exact st_nx hs Stt.wN | exact st_nx hs Stt.wG | exact st_nx hs Stt.wJ | exact st_nx hs Stt.wR | exact st_nx hs (Stt.wI (by rw [(‹mK _ _ = 11 ∧ _›).1]; decide)) | exact st_nx hs (Stt.wC (by rw [(‹_ ∧ mK _ _ = 11 ∧ mK _ _ = 11 ∧ _›).2.2.1]; decide)) | exact st_nx hs (Stt.wI (by rw [(‹mK _ _ = _ ∧ _›).1]; exact fGet_ne ‹fGet _ _ = some _›))))
theorem mEx_st : ∀ (n d mi pc : Nat) (L : mLs) (st : List Value) (h : mM) (r : Option Value) (h' : mM), mEx n d mi pc L st h = some (r, h') → Stt h h' := by
  intro n
  induction n with
  | zero => intro d mi pc L st h r h' hr; exact absurd hr (by simp [mEx])
  | succ n ih =>
    intro d mi pc L st h r h' hr
    rw [mEx_s] at hr
    cases hs : mStep mi pc L st h with
    | none => rw [hs] at hr; cases hr
    | some x =>
      rw [hs] at hr
      rcases x with x | x | x
      · have h1 := ih _ _ _ _ _ _ _ _ hr
        unfold mStep at hs
        split at hs
        · exact (mIns_st (h1 := x.2.2.2) hs).tr h1
        · cases hs
      · cases hr
        exact Stt.rf
      · cases d with
        | zero => cases hr
        | succ d =>
          simp only at hr
          cases hc : mEx n d x.1 0 (mEnt x.1 x.2.1) [] h with
          | none => rw [hc] at hr; cases hr
          | some y =>
            rw [hc] at hr
            have h1 := ih _ _ _ _ _ _ y.1 y.2 hc
            exact h1.tr (ih _ _ _ _ _ _ _ _ hr)
theorem ev_st {d mi pc : Nat} {L : mLs} {st : List Value} {h h' : mM} {r : Option Value} (e : ev d mi pc L st h = some (r, h')) : Stt h h' := by
  obtain ⟨n, hn⟩ := ev_iff.mp e
  exact mEx_st n d mi pc L st h r h' hn
def IF0 : Nat → Nat → Int32 := mdI (obI (fun _ _ => 0))
def RF0 : Nat → Nat → Option Nat := mdR (obR (fun _ _ => none))
theorem Fr0 : Fr (fun _ _ => 0) (fun _ _ => none) 1 := fun _ _ _ => ⟨rfl, rfl⟩
theorem obR_fr : Fr (obI (fun _ _ => 0)) (obR (fun _ _ => none)) 109 := by
  unfold obR
  exact Fr.r (Fr.r (Fr.r (Fr.r (Fr.r ((ob_fr Fr0).up (by omega)) (by omega)) (by omega)) (by omega)) (by omega)) (by omega)
theorem m0_y {L : Nat} {xs : Nat → Int32} : m0 L xs = yM (m0 L xs) 1 0 (fun _ _ => 0) (fun _ _ => none) := by
  refine y_ext (fun a => ?_) (fun a k => ?_) (fun a k => ?_) (fun a k => ?_)
  · rw [if_neg (by omega)]; rfl
  · rw [if_neg (by omega)]; rfl
  · rw [if_neg (by omega)]; rfl
  · rw [if_neg (by omega)]; rfl
