-- the rows that an hour of the reference changes (gen_tau.py)
abbrev T8 : Type := (Nat → Int32) × (Nat → Int32) × (Nat → Int32) × (Nat → Int32) × (Nat → Int64) × (Nat → Int64) × (Nat → Int64) × (Nat → Int64)
def tw (τ : T8) : Nat → Int32 := τ.1
def to (τ : T8) : Nat → Int32 := τ.2.1
def ts (τ : T8) : Nat → Int32 := τ.2.2.1
def tr (τ : T8) : Nat → Int32 := τ.2.2.2.1
def tf (τ : T8) : Nat → Int64 := τ.2.2.2.2.1
def tg (τ : T8) : Nat → Int64 := τ.2.2.2.2.2.1
def tc (τ : T8) : Nat → Int64 := τ.2.2.2.2.2.2.1
def te (τ : T8) : Nat → Int64 := τ.2.2.2.2.2.2.2
def uw (τ : T8) (f : Nat → Int32) : T8 := (f, τ.2.1, τ.2.2.1, τ.2.2.2.1, τ.2.2.2.2.1, τ.2.2.2.2.2.1, τ.2.2.2.2.2.2.1, τ.2.2.2.2.2.2.2)
def uo (τ : T8) (f : Nat → Int32) : T8 := (τ.1, f, τ.2.2.1, τ.2.2.2.1, τ.2.2.2.2.1, τ.2.2.2.2.2.1, τ.2.2.2.2.2.2.1, τ.2.2.2.2.2.2.2)
def us (τ : T8) (f : Nat → Int32) : T8 := (τ.1, τ.2.1, f, τ.2.2.2.1, τ.2.2.2.2.1, τ.2.2.2.2.2.1, τ.2.2.2.2.2.2.1, τ.2.2.2.2.2.2.2)
def ur (τ : T8) (f : Nat → Int32) : T8 := (τ.1, τ.2.1, τ.2.2.1, f, τ.2.2.2.2.1, τ.2.2.2.2.2.1, τ.2.2.2.2.2.2.1, τ.2.2.2.2.2.2.2)
def uf (τ : T8) (f : Nat → Int64) : T8 := (τ.1, τ.2.1, τ.2.2.1, τ.2.2.2.1, f, τ.2.2.2.2.2.1, τ.2.2.2.2.2.2.1, τ.2.2.2.2.2.2.2)
def ug (τ : T8) (f : Nat → Int64) : T8 := (τ.1, τ.2.1, τ.2.2.1, τ.2.2.2.1, τ.2.2.2.2.1, f, τ.2.2.2.2.2.2.1, τ.2.2.2.2.2.2.2)
def uc (τ : T8) (f : Nat → Int64) : T8 := (τ.1, τ.2.1, τ.2.2.1, τ.2.2.2.1, τ.2.2.2.2.1, τ.2.2.2.2.2.1, f, τ.2.2.2.2.2.2.2)
def ue (τ : T8) (f : Nat → Int64) : T8 := (τ.1, τ.2.1, τ.2.2.1, τ.2.2.2.1, τ.2.2.2.2.1, τ.2.2.2.2.2.1, τ.2.2.2.2.2.2.1, f)
theorem tw_uw {τ : T8} {f : Nat → Int32} : tw (uw τ f) = f := rfl
theorem tw_uo {τ : T8} {f : Nat → Int32} : tw (uo τ f) = tw τ := rfl
theorem tw_us {τ : T8} {f : Nat → Int32} : tw (us τ f) = tw τ := rfl
theorem tw_ur {τ : T8} {f : Nat → Int32} : tw (ur τ f) = tw τ := rfl
theorem tw_uf {τ : T8} {f : Nat → Int64} : tw (uf τ f) = tw τ := rfl
theorem tw_ug {τ : T8} {f : Nat → Int64} : tw (ug τ f) = tw τ := rfl
theorem tw_uc {τ : T8} {f : Nat → Int64} : tw (uc τ f) = tw τ := rfl
theorem tw_ue {τ : T8} {f : Nat → Int64} : tw (ue τ f) = tw τ := rfl
theorem to_uw {τ : T8} {f : Nat → Int32} : to (uw τ f) = to τ := rfl
theorem to_uo {τ : T8} {f : Nat → Int32} : to (uo τ f) = f := rfl
theorem to_us {τ : T8} {f : Nat → Int32} : to (us τ f) = to τ := rfl
theorem to_ur {τ : T8} {f : Nat → Int32} : to (ur τ f) = to τ := rfl
theorem to_uf {τ : T8} {f : Nat → Int64} : to (uf τ f) = to τ := rfl
theorem to_ug {τ : T8} {f : Nat → Int64} : to (ug τ f) = to τ := rfl
theorem to_uc {τ : T8} {f : Nat → Int64} : to (uc τ f) = to τ := rfl
theorem to_ue {τ : T8} {f : Nat → Int64} : to (ue τ f) = to τ := rfl
theorem ts_uw {τ : T8} {f : Nat → Int32} : ts (uw τ f) = ts τ := rfl
theorem ts_uo {τ : T8} {f : Nat → Int32} : ts (uo τ f) = ts τ := rfl
theorem ts_us {τ : T8} {f : Nat → Int32} : ts (us τ f) = f := rfl
theorem ts_ur {τ : T8} {f : Nat → Int32} : ts (ur τ f) = ts τ := rfl
theorem ts_uf {τ : T8} {f : Nat → Int64} : ts (uf τ f) = ts τ := rfl
theorem ts_ug {τ : T8} {f : Nat → Int64} : ts (ug τ f) = ts τ := rfl
theorem ts_uc {τ : T8} {f : Nat → Int64} : ts (uc τ f) = ts τ := rfl
theorem ts_ue {τ : T8} {f : Nat → Int64} : ts (ue τ f) = ts τ := rfl
theorem tr_uw {τ : T8} {f : Nat → Int32} : tr (uw τ f) = tr τ := rfl
theorem tr_uo {τ : T8} {f : Nat → Int32} : tr (uo τ f) = tr τ := rfl
theorem tr_us {τ : T8} {f : Nat → Int32} : tr (us τ f) = tr τ := rfl
theorem tr_ur {τ : T8} {f : Nat → Int32} : tr (ur τ f) = f := rfl
theorem tr_uf {τ : T8} {f : Nat → Int64} : tr (uf τ f) = tr τ := rfl
theorem tr_ug {τ : T8} {f : Nat → Int64} : tr (ug τ f) = tr τ := rfl
theorem tr_uc {τ : T8} {f : Nat → Int64} : tr (uc τ f) = tr τ := rfl
theorem tr_ue {τ : T8} {f : Nat → Int64} : tr (ue τ f) = tr τ := rfl
theorem tf_uw {τ : T8} {f : Nat → Int32} : tf (uw τ f) = tf τ := rfl
theorem tf_uo {τ : T8} {f : Nat → Int32} : tf (uo τ f) = tf τ := rfl
theorem tf_us {τ : T8} {f : Nat → Int32} : tf (us τ f) = tf τ := rfl
theorem tf_ur {τ : T8} {f : Nat → Int32} : tf (ur τ f) = tf τ := rfl
theorem tf_uf {τ : T8} {f : Nat → Int64} : tf (uf τ f) = f := rfl
theorem tf_ug {τ : T8} {f : Nat → Int64} : tf (ug τ f) = tf τ := rfl
theorem tf_uc {τ : T8} {f : Nat → Int64} : tf (uc τ f) = tf τ := rfl
theorem tf_ue {τ : T8} {f : Nat → Int64} : tf (ue τ f) = tf τ := rfl
theorem tg_uw {τ : T8} {f : Nat → Int32} : tg (uw τ f) = tg τ := rfl
theorem tg_uo {τ : T8} {f : Nat → Int32} : tg (uo τ f) = tg τ := rfl
theorem tg_us {τ : T8} {f : Nat → Int32} : tg (us τ f) = tg τ := rfl
theorem tg_ur {τ : T8} {f : Nat → Int32} : tg (ur τ f) = tg τ := rfl
theorem tg_uf {τ : T8} {f : Nat → Int64} : tg (uf τ f) = tg τ := rfl
theorem tg_ug {τ : T8} {f : Nat → Int64} : tg (ug τ f) = f := rfl
theorem tg_uc {τ : T8} {f : Nat → Int64} : tg (uc τ f) = tg τ := rfl
theorem tg_ue {τ : T8} {f : Nat → Int64} : tg (ue τ f) = tg τ := rfl
theorem tc_uw {τ : T8} {f : Nat → Int32} : tc (uw τ f) = tc τ := rfl
theorem tc_uo {τ : T8} {f : Nat → Int32} : tc (uo τ f) = tc τ := rfl
theorem tc_us {τ : T8} {f : Nat → Int32} : tc (us τ f) = tc τ := rfl
theorem tc_ur {τ : T8} {f : Nat → Int32} : tc (ur τ f) = tc τ := rfl
theorem tc_uf {τ : T8} {f : Nat → Int64} : tc (uf τ f) = tc τ := rfl
theorem tc_ug {τ : T8} {f : Nat → Int64} : tc (ug τ f) = tc τ := rfl
theorem tc_uc {τ : T8} {f : Nat → Int64} : tc (uc τ f) = f := rfl
theorem tc_ue {τ : T8} {f : Nat → Int64} : tc (ue τ f) = tc τ := rfl
theorem te_uw {τ : T8} {f : Nat → Int32} : te (uw τ f) = te τ := rfl
theorem te_uo {τ : T8} {f : Nat → Int32} : te (uo τ f) = te τ := rfl
theorem te_us {τ : T8} {f : Nat → Int32} : te (us τ f) = te τ := rfl
theorem te_ur {τ : T8} {f : Nat → Int32} : te (ur τ f) = te τ := rfl
theorem te_uf {τ : T8} {f : Nat → Int64} : te (uf τ f) = te τ := rfl
theorem te_ug {τ : T8} {f : Nat → Int64} : te (ug τ f) = te τ := rfl
theorem te_uc {τ : T8} {f : Nat → Int64} : te (uc τ f) = te τ := rfl
theorem te_ue {τ : T8} {f : Nat → Int64} : te (ue τ f) = f := rfl
def wM (h : mM) (a : Nat) (τ : T8) : mM := (h.1, h.2.1, h.2.2.1, fun b k => if b = 130 then tr τ k else if b = 129 then ts τ k else if b = 109 then to τ k else if b = a then tw τ k else h.2.2.2.1 b k, fun b k => if b = 133 then tf τ k else if b = 137 then tg τ k else if b = 131 then tc τ k else if b = 132 then te τ k else h.2.2.2.2.1 b k, h.2.2.2.2.2)
theorem mK_wM {h : mM} {a b : Nat} {τ : T8} : mK (wM h a τ) b = mK h b := rfl
theorem mL_wM {h : mM} {a b : Nat} {τ : T8} : mL (wM h a τ) b = mL h b := rfl
theorem mN_wM {h : mM} {a : Nat} {τ : T8} : mN (wM h a τ) = mN h := rfl
theorem mR_wM {h : mM} {a b j : Nat} {τ : T8} : mR (wM h a τ) b j = mR h b j := rfl
theorem mI_wM {h : mM} {a b j : Nat} {τ : T8} : mI (wM h a τ) b j = if b = 130 then tr τ j else if b = 129 then ts τ j else if b = 109 then to τ j else if b = a then tw τ j else mI h b j := rfl
theorem mJ_wM {h : mM} {a b j : Nat} {τ : T8} : mJ (wM h a τ) b j = if b = 133 then tf τ j else if b = 137 then tg τ j else if b = 131 then tc τ j else if b = 132 then te τ j else mJ h b j := rfl
theorem G.wM {h : mM} {a : Nat} {τ : T8} (g : G h) : G (wM h a τ) := g
/-- the water lies apart from the other rows -/
def aOK (a : Nat) : Prop := ¬ a = 130 ∧ ¬ a = 129 ∧ ¬ a = 109
theorem wI_Mw {h : mM} {a k : Nat} {v : Int32} {τ : T8} (q : aOK a) : wI (wM h a τ) a k v = wM h a (uw τ (upd (tw τ) k v)) := by
  unfold wI wM
  simp only [Prod.mk.injEq, true_and, and_true]
  refine ⟨?_, rfl⟩
  funext b j
  obtain ⟨q1, q2, q3⟩ := q
  simp only [tw_uw, to_uw, ts_uw, tr_uw, upd]
  by_cases e1 : b = 130
  · subst e1
    by_cases e5 : j = k <;> simp [e5, q1, q2, q3, Ne.symm q1]
  · by_cases e2 : b = 129
    · subst e2
      by_cases e5 : j = k <;> simp [e5, q1, q2, q3, Ne.symm q2]
    · by_cases e3 : b = 109
      · subst e3
        by_cases e5 : j = k <;> simp [e5, q1, q2, q3, Ne.symm q3]
      · by_cases e4 : b = a
        · subst e4
          by_cases e5 : j = k <;> simp [e1, e2, e3, e5]
        · simp [e1, e2, e3, e4]
theorem wI_Mo {h : mM} {a k : Nat} {v : Int32} {τ : T8} (q : aOK a) : wI (wM h a τ) 109 k v = wM h a (uo τ (upd (to τ) k v)) := by
  unfold wI wM
  simp only [Prod.mk.injEq, true_and, and_true]
  refine ⟨?_, rfl⟩
  funext b j
  obtain ⟨q1, q2, q3⟩ := q
  simp only [tw_uo, to_uo, ts_uo, tr_uo, upd]
  by_cases e1 : b = 130
  · subst e1
    by_cases e5 : j = k <;> simp [e5, q1, q2, q3, Ne.symm q1]
  · by_cases e2 : b = 129
    · subst e2
      by_cases e5 : j = k <;> simp [e5, q1, q2, q3, Ne.symm q2]
    · by_cases e3 : b = 109
      · subst e3
        by_cases e5 : j = k <;> simp [e5, q1, q2, q3, Ne.symm q3]
      · by_cases e4 : b = a
        · subst e4
          by_cases e5 : j = k <;> simp [e1, e2, e3, e5]
        · simp [e1, e2, e3, e4]
theorem wI_Ms {h : mM} {a k : Nat} {v : Int32} {τ : T8} (q : aOK a) : wI (wM h a τ) 129 k v = wM h a (us τ (upd (ts τ) k v)) := by
  unfold wI wM
  simp only [Prod.mk.injEq, true_and, and_true]
  refine ⟨?_, rfl⟩
  funext b j
  obtain ⟨q1, q2, q3⟩ := q
  simp only [tw_us, to_us, ts_us, tr_us, upd]
  by_cases e1 : b = 130
  · subst e1
    by_cases e5 : j = k <;> simp [e5, q1, q2, q3, Ne.symm q1]
  · by_cases e2 : b = 129
    · subst e2
      by_cases e5 : j = k <;> simp [e5, q1, q2, q3, Ne.symm q2]
    · by_cases e3 : b = 109
      · subst e3
        by_cases e5 : j = k <;> simp [e5, q1, q2, q3, Ne.symm q3]
      · by_cases e4 : b = a
        · subst e4
          by_cases e5 : j = k <;> simp [e1, e2, e3, e5]
        · simp [e1, e2, e3, e4]
theorem wI_Mr {h : mM} {a k : Nat} {v : Int32} {τ : T8} (q : aOK a) : wI (wM h a τ) 130 k v = wM h a (ur τ (upd (tr τ) k v)) := by
  unfold wI wM
  simp only [Prod.mk.injEq, true_and, and_true]
  refine ⟨?_, rfl⟩
  funext b j
  obtain ⟨q1, q2, q3⟩ := q
  simp only [tw_ur, to_ur, ts_ur, tr_ur, upd]
  by_cases e1 : b = 130
  · subst e1
    by_cases e5 : j = k <;> simp [e5, q1, q2, q3, Ne.symm q1]
  · by_cases e2 : b = 129
    · subst e2
      by_cases e5 : j = k <;> simp [e5, q1, q2, q3, Ne.symm q2]
    · by_cases e3 : b = 109
      · subst e3
        by_cases e5 : j = k <;> simp [e5, q1, q2, q3, Ne.symm q3]
      · by_cases e4 : b = a
        · subst e4
          by_cases e5 : j = k <;> simp [e1, e2, e3, e5]
        · simp [e1, e2, e3, e4]
theorem wJ_Mf {h : mM} {a k : Nat} {v : Int64} {τ : T8} : wJ (wM h a τ) 133 k v = wM h a (uf τ (vp_updL (tf τ) k v)) := by
  unfold wJ wM
  simp only [Prod.mk.injEq, true_and, and_true]
  refine ⟨rfl, ?_⟩
  funext b j
  simp only [tf_uf, tg_uf, tc_uf, te_uf, vp_updL]
  by_cases e1 : b = 133
  · subst e1
    by_cases e5 : j = k <;> simp [e5]
  · by_cases e2 : b = 137
    · subst e2
      by_cases e5 : j = k <;> simp [e5]
    · by_cases e3 : b = 131
      · subst e3
        by_cases e5 : j = k <;> simp [e5]
      · by_cases e4 : b = 132
        · subst e4
          by_cases e5 : j = k <;> simp [e5]
        · simp [e1, e2, e3, e4]
theorem wJ_Mg {h : mM} {a k : Nat} {v : Int64} {τ : T8} : wJ (wM h a τ) 137 k v = wM h a (ug τ (vp_updL (tg τ) k v)) := by
  unfold wJ wM
  simp only [Prod.mk.injEq, true_and, and_true]
  refine ⟨rfl, ?_⟩
  funext b j
  simp only [tf_ug, tg_ug, tc_ug, te_ug, vp_updL]
  by_cases e1 : b = 133
  · subst e1
    by_cases e5 : j = k <;> simp [e5]
  · by_cases e2 : b = 137
    · subst e2
      by_cases e5 : j = k <;> simp [e5]
    · by_cases e3 : b = 131
      · subst e3
        by_cases e5 : j = k <;> simp [e5]
      · by_cases e4 : b = 132
        · subst e4
          by_cases e5 : j = k <;> simp [e5]
        · simp [e1, e2, e3, e4]
theorem wJ_Mc {h : mM} {a k : Nat} {v : Int64} {τ : T8} : wJ (wM h a τ) 131 k v = wM h a (uc τ (vp_updL (tc τ) k v)) := by
  unfold wJ wM
  simp only [Prod.mk.injEq, true_and, and_true]
  refine ⟨rfl, ?_⟩
  funext b j
  simp only [tf_uc, tg_uc, tc_uc, te_uc, vp_updL]
  by_cases e1 : b = 133
  · subst e1
    by_cases e5 : j = k <;> simp [e5]
  · by_cases e2 : b = 137
    · subst e2
      by_cases e5 : j = k <;> simp [e5]
    · by_cases e3 : b = 131
      · subst e3
        by_cases e5 : j = k <;> simp [e5]
      · by_cases e4 : b = 132
        · subst e4
          by_cases e5 : j = k <;> simp [e5]
        · simp [e1, e2, e3, e4]
theorem wJ_Me {h : mM} {a k : Nat} {v : Int64} {τ : T8} : wJ (wM h a τ) 132 k v = wM h a (ue τ (vp_updL (te τ) k v)) := by
  unfold wJ wM
  simp only [Prod.mk.injEq, true_and, and_true]
  refine ⟨rfl, ?_⟩
  funext b j
  simp only [tf_ue, tg_ue, tc_ue, te_ue, vp_updL]
  by_cases e1 : b = 133
  · subst e1
    by_cases e5 : j = k <;> simp [e5]
  · by_cases e2 : b = 137
    · subst e2
      by_cases e5 : j = k <;> simp [e5]
    · by_cases e3 : b = 131
      · subst e3
        by_cases e5 : j = k <;> simp [e5]
      · by_cases e4 : b = 132
        · subst e4
          by_cases e5 : j = k <;> simp [e5]
        · simp [e1, e2, e3, e4]
def tau0 (h : mM) (a : Nat) : T8 := (mI h a, mI h 109, mI h 129, mI h 130, mJ h 133, mJ h 137, mJ h 131, mJ h 132)
theorem wM_self {h : mM} {a : Nat} : wM h a (tau0 h a) = h := by
  obtain ⟨h1, h2, h3, h4, h5, h6⟩ := h
  unfold wM tau0 tw to ts tr tf tg tc te mI mJ
  simp only [Prod.mk.injEq, true_and, and_true]
  constructor
  · funext b k
    repeat' split
    all_goals (rename_i e; first | (subst e; rfl) | rfl)
  · funext b k
    repeat' split
    all_goals (rename_i e; first | (subst e; rfl) | rfl)
