-- the run without fuel, and its equations
theorem mEx_s {n d mi pc : Nat} {L : mLs} {st : List Value} {h : mM} : mEx (n + 1) d mi pc L st h = (match mStep mi pc L st h with
    | none => none
    | some (.inl x) => mEx n d mi x.1 x.2.1 x.2.2.1 x.2.2.2
    | some (.inr (.inl r)) => some (r, h)
    | some (.inr (.inr x)) => match d with
      | 0 => none
      | d' + 1 => match mEx n d' x.1 0 (mEnt x.1 x.2.1) [] h with
        | none => none
        | some y => mEx n (d' + 1) mi (pc + 3) L (y.1.toList ++ x.2.2) y.2) := by
  cases d <;> rfl
theorem mEx_mono1 : ∀ (n d mi pc : Nat) (L : mLs) (st : List Value) (h : mM) (r : Option Value × mM), mEx n d mi pc L st h = some r → mEx (n + 1) d mi pc L st h = some r := by
  intro n
  induction n with
  | zero => intro d mi pc L st h r hr; exact absurd hr (by simp [mEx])
  | succ n ih =>
    intro d mi pc L st h r hr
    rw [mEx_s] at hr
    rw [mEx_s]
    cases hs : mStep mi pc L st h with
    | none => rw [hs] at hr; exact hr
    | some x =>
      rw [hs] at hr
      rcases x with x | x | x
      · exact ih _ _ _ _ _ _ _ hr
      · exact hr
      · cases d with
        | zero => exact hr
        | succ d =>
          simp only at hr ⊢
          cases hc : mEx n d x.1 0 (mEnt x.1 x.2.1) [] h with
          | none => rw [hc] at hr; exact absurd hr (by simp)
          | some y =>
            rw [hc] at hr
            rw [ih _ _ _ _ _ _ _ hc]
            exact ih _ _ _ _ _ _ _ hr
theorem mEx_mono {n k d mi pc : Nat} {L : mLs} {st : List Value} {h : mM} {r : Option Value × mM} (hk : n ≤ k) (hr : mEx n d mi pc L st h = some r) : mEx k d mi pc L st h = some r := by
  induction k with
  | zero => have : n = 0 := by omega
            subst this; exact hr
  | succ k ih =>
    rcases Nat.lt_or_ge k n with h1 | h1
    · have : n = k + 1 := by omega
      subst this; exact hr
    · exact mEx_mono1 _ _ _ _ _ _ _ _ (ih h1)
def mRuns (d mi pc : Nat) (L : mLs) (st : List Value) (h : mM) (r : Option Value × mM) : Prop := ∃ n, mEx n d mi pc L st h = some r
theorem mRuns.det {d mi pc : Nat} {L : mLs} {st : List Value} {h : mM} {r r' : Option Value × mM} (h1 : mRuns d mi pc L st h r) (h2 : mRuns d mi pc L st h r') : r = r' := by
  obtain ⟨n, h1⟩ := h1
  obtain ⟨k, h2⟩ := h2
  have a := mEx_mono (Nat.le_max_left n k) h1
  have b := mEx_mono (Nat.le_max_right n k) h2
  exact Option.some.inj (a.symm.trans b)
noncomputable def ev (d mi pc : Nat) (L : mLs) (st : List Value) (h : mM) : Option (Option Value × mM) := by
  classical
  exact if hh : ∃ r, mRuns d mi pc L st h r then some (Classical.choose hh) else none
theorem ev_iff {d mi pc : Nat} {L : mLs} {st : List Value} {h : mM} {r : Option Value × mM} : ev d mi pc L st h = some r ↔ mRuns d mi pc L st h r := by
  unfold ev
  constructor
  · intro hr
    split at hr
    · rename_i hh
      have := Option.some.inj hr
      rw [← this]
      exact Classical.choose_spec hh
    · cases hr
  · intro hr
    have hh : ∃ r, mRuns d mi pc L st h r := ⟨r, hr⟩
    rw [dif_pos hh]
    rw [(Classical.choose_spec hh).det hr]
theorem ev_ext {d mi pc d' mi' pc' : Nat} {L L' : mLs} {st st' : List Value} {h h' : mM} (q : ∀ r, mRuns d mi pc L st h r ↔ mRuns d' mi' pc' L' st' h' r) : ev d mi pc L st h = ev d' mi' pc' L' st' h' := by
  apply Option.ext
  intro r
  rw [ev_iff, ev_iff]
  exact q r
theorem ev_next {d mi pc pc' : Nat} {L L' : mLs} {st st' : List Value} {h h' : mM} (hs : mStep mi pc L st h = some (.inl (pc', L', st', h'))) : ev d mi pc L st h = ev d mi pc' L' st' h' := by
  apply ev_ext
  intro r
  constructor
  · rintro ⟨n, hn⟩
    cases n with
    | zero => exact absurd hn (by simp [mEx])
    | succ n => rw [mEx_s, hs] at hn; exact ⟨n, hn⟩
  · rintro ⟨n, hn⟩
    exact ⟨n + 1, by rw [mEx_s, hs]; exact hn⟩
theorem ev_none {d mi pc : Nat} {L : mLs} {st : List Value} {h : mM} (hs : mStep mi pc L st h = none) : ev d mi pc L st h = none := by
  apply Option.eq_none_iff_forall_ne_some.mpr
  intro r hr
  obtain ⟨n, hn⟩ := ev_iff.mp hr
  cases n with
  | zero => exact absurd hn (by simp [mEx])
  | succ n => rw [mEx_s, hs] at hn; cases hn
theorem ev_ret {d mi pc : Nat} {L : mLs} {st : List Value} {h : mM} {v : Option Value} (hs : mStep mi pc L st h = some (.inr (.inl v))) : ev d mi pc L st h = some (v, h) := by
  apply ev_iff.mpr
  exact ⟨1, by rw [mEx_s, hs]⟩
/-- what stands behind a call -/
def cV (o : Option (Option Value × mM)) (k : List Value → mM → Option (Option Value × mM)) : Option (Option Value × mM) := match o with
  | none => none
  | some y => k y.1.toList y.2
theorem ev_call {d mi pc mj : Nat} {L : mLs} {st as rest : List Value} {h : mM} (hs : mStep mi pc L st h = some (.inr (.inr (mj, as, rest)))) : ev (d + 1) mi pc L st h = cV (ev d mj 0 (mEnt mj as) [] h) (fun v h' => ev (d + 1) mi (pc + 3) L (v ++ rest) h') := by
  apply Option.ext
  intro r
  constructor
  · intro hr
    obtain ⟨n, hn⟩ := ev_iff.mp hr
    cases n with
    | zero => exact absurd hn (by simp [mEx])
    | succ n =>
      rw [mEx_s, hs] at hn
      simp only at hn
      cases hc : mEx n d mj 0 (mEnt mj as) [] h with
      | none => rw [hc] at hn; cases hn
      | some y =>
        rw [hc] at hn
        rw [ev_iff.mpr ⟨n, hc⟩]
        exact ev_iff.mpr ⟨n, hn⟩
  · intro hr
    cases hc : ev d mj 0 (mEnt mj as) [] h with
    | none => rw [hc] at hr; cases hr
    | some y =>
      rw [hc] at hr
      obtain ⟨n, hn⟩ := ev_iff.mp hc
      obtain ⟨k, hk⟩ := ev_iff.mp (show ev (d + 1) mi (pc + 3) L (y.1.toList ++ rest) y.2 = some r from hr)
      refine ev_iff.mpr ⟨max n k + 1, ?_⟩
      rw [mEx_s, hs]
      simp only
      rw [mEx_mono (Nat.le_max_left n k) hn]
      exact mEx_mono (Nat.le_max_right n k) hk
