-- how the small machine's cells lie in the heap
abbrev mG : Type := Nat × Nat × (Nat → ClassId) × (Nat → Nat → Nat) × (Nat → ClassId)
def gAd (g : mG) (a : Nat) : Nat := if a = 0 then g.1 else g.2.1 + (a - 1)
def gV (g : mG) (v : Value) : Value := match v with
  | .ref a => .ref (gAd g a)
  | w => w
theorem gV_cat (g : mG) (v : Value) : (gV g v).category = v.category := by cases v <;> rfl
def gF (g : mG) (h : mM) (a j : Nat) (t : FieldType) : Value := if mIsR t = true then va_rf ((mR h a j).map (gAd g)) else .int (mI h a j)
def gFs (g : mG) (h : mM) (a ci : Nat) : List Value := (List.range (nfN ci)).map (fun j => gF g h a j (tyN ci j))
def gArr (g : mG) (h : mM) (a q : Nat) : vp_A := (mL h a, if q = 11 then .inl (mI h a) else if q = 12 then .inr (.inl (mJ h a)) else .inr (.inr (.inr (.inr (fun j => (mR h a j).map (gAd g))))))
def gE (g : mG) (h : mM) (a : Nat) : va_E := if mK h a < 11 then .inr (mK h a, gFs g h a (mK h a)) else .inl (g.2.2.2.2 (mK h a), gArr g h a (mK h a))
def gW (g : mG) (h : mM) : va_W := (List.range (mN h - 1)).map (fun i => (g.2.1 + i, gE g h (i + 1)))
def gD (g : mG) : va_G := (g.2.2.1, g.2.2.2.1)
def gT (g : mG) : List (ClassId × FieldType) := [(g.2.2.2.2 11, .int), (g.2.2.2.2 12, .long), (g.2.2.2.2 13, .object (RN 3)), (g.2.2.2.2 14, .object (RN 0)), (g.2.2.2.2 15, .object (RN 2)), (g.2.2.2.2 16, .object (RN 6)), (g.2.2.2.2 17, .object (RN 4)), (g.2.2.2.2 18, .array .int)]
def gA (g : mG) : Nat → Prop := fun q => g.2.1 ≤ q
def gEnv (g : mG) (U : State) : Prop := va_K (gD g) mCl (gT g) U ∧ (∀ w ∈ nestL, va_Nw w U) ∧ (∀ k ∈ aoL, va_AO (RN k) U) ∧ (Cond.arrayOver (.array .int)).before #[] U = true
theorem nestL_form : ∀ w ∈ nestL, ∃ a i x h, w = .methodLinkNest a i x h := by
  intro w hw
  simp only [nestL, List.mem_cons, List.not_mem_nil, or_false] at hw
  repeat' (first | exact ⟨_, _, _, _, hw⟩ | rcases hw with hw | hw)
theorem gEnv.warm {g : mG} {s U : State} (h : gEnv g s) (hW : s.WarmedH U.vm) : gEnv g U := by
  obtain ⟨h1, h2, h3, h4⟩ := h
  refine ⟨h1.moved hW.alike, fun w hw => ?_, fun k hk => (h3 k hk).moved hW.alike, ?_⟩
  · obtain ⟨a, i, x, h, rfl⟩ := nestL_form w hw
    exact va_Nw.warmM hW (h2 _ hw)
  · exact arrayOver_alikeB hW.alike h4
theorem gEnv.same {g : mG} {s U : State} (h : gEnv g s) (hv : s.vm = U.vm) : gEnv g U := by
  obtain ⟨h1, h2, h3, h4⟩ := h
  have hA : s.vm.Alike U.vm := by rw [hv]; exact Vm.Alike.refl _
  refine ⟨h1.moved hA, fun w hw => ?_, fun k hk => (h3 k hk).moved hA, arrayOver_alikeB hA h4⟩
  obtain ⟨a, i, x, h, rfl⟩ := nestL_form w hw
  exact va_Nw.same rfl hv (h2 _ hw)
def gH (g : mG) (h : mM) (U : State) (H : Heap) : Prop := 1 ≤ mN h ∧ va_P (gD g) mCl (gW g h) H ∧ va_X g.1 (mL h 0) (mI h 0) U H ∧ g.1 < g.2.1
theorem gH.move {g : mG} {h : mM} {u U : State} {H : Heap} (hvm : u.vm.Alike U.vm) (q : gH g h u H) : gH g h U H := ⟨q.1, q.2.1, q.2.2.1.moved hvm, q.2.2.2⟩
theorem mK_in {h : mM} {a : Nat} (q : mK h a < 19) : 0 < a ∧ a < mN h := by
  unfold mK at q
  unfold mN
  split at q
  · omega
  · split at q
    · rename_i h1 h2
      exact ⟨by omega, h2.1⟩
    · omega
theorem gAd_pos {g : mG} {a : Nat} (ha : 0 < a) : gAd g a = g.2.1 + (a - 1) := if_neg (by omega)
theorem gW_at {g : mG} {h : mM} {a : Nat} (h1 : 0 < a) (h2 : a < mN h) : (gW g h)[a - 1]? = some (gAd g a, gE g h a) := by
  unfold gW
  rw [List.getElem?_map, List.getElem?_range (by omega), gAd_pos h1]
  simp only [Option.map_some]
  rw [show a - 1 + 1 = a by omega]
theorem gW_get {g : mG} {h : mM} {i : Nat} {q : Nat × va_E} (hq : (gW g h)[i]? = some q) : i + 1 < mN h ∧ q = (g.2.1 + i, gE g h (i + 1)) := by
  unfold gW at hq
  rw [List.getElem?_map] at hq
  by_cases hi : i < mN h - 1
  · rw [List.getElem?_range hi] at hq
    exact ⟨by omega, (Option.some.inj hq).symm⟩
  · rw [List.getElem?_eq_none (by simpa using hi)] at hq
    cases hq
theorem gW_D {g : mG} {h : mM} : va_D (gA g) (gW g h) := by
  refine ⟨fun i j p q hi hj hpq => ?_, fun k q hk => ?_⟩
  · have a := (gW_get hi).2
    have b := (gW_get hj).2
    subst a; subst b
    simp only at hpq
    omega
  · have a := (gW_get hk).2
    subst a
    exact Nat.le_add_right _ _
theorem gW_set {g : mG} {h h' : mM} {a : Nat} (hn : mN h' = mN h) (h1 : 0 < a) (ho : ∀ a', a' ≠ a → gE g h' a' = gE g h a') : (gW g h).set (a - 1) (gAd g a, gE g h' a) = gW g h' := by
  apply List.ext_getElem?
  intro i
  by_cases hi : i = a - 1
  · subst hi
    by_cases h2 : a < mN h
    · rw [List.getElem?_set_self (by unfold gW; simp; omega), gW_at h1 (by omega)]
    · rw [List.getElem?_eq_none (by unfold gW; simp; omega), List.getElem?_eq_none (by unfold gW; simp; omega)]
  · rw [List.getElem?_set_ne (Ne.symm hi)]
    unfold gW
    rw [List.getElem?_map, List.getElem?_map, hn]
    by_cases h2 : i < mN h - 1
    · rw [List.getElem?_range h2]
      simp only [Option.map_some]
      rw [ho (i + 1) (by omega)]
    · rw [List.getElem?_eq_none (by simpa using h2)]
      rfl
theorem mCl_at {ci : Nat} (h : ci < 11) : mCl[ci]? = some (RN ci, TN ci, nfN ci) := by
  unfold mCl
  rw [List.getElem?_map, List.getElem?_range h]
  rfl
theorem gE_obj {g : mG} {h : mM} {a ci : Nat} (hk : mK h a = ci) (hc : ci < 11) : gE g h a = .inr (ci, gFs g h a ci) := by
  unfold gE
  rw [hk, if_pos hc]
theorem gE_arr {g : mG} {h : mM} {a q : Nat} (hk : mK h a = q) (hc : ¬ q < 11) : gE g h a = .inl (g.2.2.2.2 q, gArr g h a q) := by
  unfold gE
  rw [hk, if_neg hc]
theorem gFs_len {g : mG} {h : mM} {a ci : Nat} : (gFs g h a ci).length = nfN ci := by simp [gFs]
theorem gFs_at {g : mG} {h : mM} {a ci k : Nat} (hk : k < nfN ci) : (gFs g h a ci)[k]? = some (gF g h a k (tyN ci k)) := by
  unfold gFs
  rw [List.getElem?_map, List.getElem?_range hk]
  rfl
theorem gFs_set {g : mG} {h h' : mM} {a ci k : Nat} {v : Value} (hk : gF g h' a k (tyN ci k) = v) (ho : ∀ j, j ≠ k → gF g h' a j (tyN ci j) = gF g h a j (tyN ci j)) : (gFs g h a ci).set k v = gFs g h' a ci := by
  apply List.ext_getElem?
  intro i
  by_cases hi : i = k
  · subst hi
    by_cases h2 : i < nfN ci
    · rw [List.getElem?_set_self (by rw [gFs_len]; exact h2), gFs_at h2, hk]
    · rw [List.getElem?_eq_none (by rw [List.length_set, gFs_len]; omega), List.getElem?_eq_none (by rw [gFs_len]; omega)]
  · rw [List.getElem?_set_ne (Ne.symm hi)]
    by_cases h2 : i < nfN ci
    · rw [gFs_at h2, gFs_at h2, ho i hi]
    · rw [List.getElem?_eq_none (by rw [gFs_len]; omega), List.getElem?_eq_none (by rw [gFs_len]; omega)]
-- the places of values in the frame
def gLv (g : mG) (L : mLs) : List (Nat × Value) := (List.range L.length).filterMap (fun j => (L.getD j none).map (fun v => (j, gV g v)))
theorem getD_lt {L : mLs} {j : Nat} {v : Value} (h : L.getD j none = some v) : j < L.length := by
  rcases Nat.lt_or_ge j L.length with h1 | h1
  · exact h1
  · rw [List.getD_eq_getElem?_getD, List.getElem?_eq_none h1] at h
    cases h
theorem gLv_mem {g : mG} {L : mLs} {q : Nat × Value} : q ∈ gLv g L ↔ ∃ v, L.getD q.1 none = some v ∧ q.2 = gV g v := by
  unfold gLv
  rw [List.mem_filterMap]
  constructor
  · rintro ⟨j, -, hj⟩
    cases hv : L.getD j none with
    | none => rw [hv] at hj; cases hj
    | some v =>
      rw [hv] at hj
      cases hj
      exact ⟨v, hv, rfl⟩
  · rintro ⟨v, h1, h2⟩
    refine ⟨q.1, List.mem_range.mpr (getD_lt h1), ?_⟩
    rw [h1]
    simp only [Option.map_some]
    rw [← h2]
def gLs (g : mG) (n : Nat) (ls : Array Slot) (L : mLs) : Prop := lv_has ls n (gLv g L)
theorem gLs_at {g : mG} {n : Nat} {ls : Array Slot} {L : mLs} {j : Nat} {v : Value} (h : gLs g n ls L) (hv : L.getD j none = some v) : ls[j]? = some (.val (gV g v)) := h.2.2 (j, gV g v) (gLv_mem.mpr ⟨v, hv, rfl⟩)
theorem gLs_sub {g : mG} {n : Nat} {ls : Array Slot} {L : mLs} {l : List (Nat × Value)} (h : lv_has ls n l) (hs : ∀ q ∈ gLv g L, q ∈ l) : gLs g n ls L := ⟨h.1, h.2.1, fun q hq => h.2.2 q (hs q hq)⟩
theorem getD_set {L : mLs} {i j : Nat} {o : Option Value} : (L.set i o).getD j none = if j = i ∧ i < L.length then o else L.getD j none := by
  rw [List.getD_eq_getElem?_getD, List.getD_eq_getElem?_getD, List.getElem?_set]
  by_cases h : i = j
  · subst h
    by_cases h2 : i < L.length
    · simp [h2]
    · simp [h2]
  · rw [if_neg h, if_neg (fun q => h q.1.symm)]
theorem mClr_get {L : mLs} {i j : Nat} {u : Value} (h : (mClr L i).getD j none = some u) : L.getD j none = some u ∧ ¬ (j + 1 = i ∧ u.category = 2) := by
  cases i with
  | zero => exact ⟨h, fun q => by omega⟩
  | succ k =>
    have h : (if mLong (L.getD k none) = true then L.set k none else L).getD j none = some u := h
    split at h
    · rw [getD_set] at h
      split at h
      · cases h
      · rename_i h1 h2
        refine ⟨h, fun q => h2 ⟨by omega, ?_⟩⟩
        rw [← show j = k by omega]
        exact getD_lt h
    · rename_i h1
      refine ⟨h, fun q => h1 ?_⟩
      rw [show k = j by omega, h]
      simp [mLong, q.2]
theorem mClr_len {L : mLs} {i : Nat} : (mClr L i).length = L.length := by
  cases i with
  | zero => rfl
  | succ k =>
    show (if mLong (L.getD k none) = true then L.set k none else L).length = L.length
    split <;> simp
theorem gLv_s1 {g : mG} {L : mLs} {i : Nat} {v : Value} : ∀ q ∈ gLv g (mS1 L i v), q ∈ (i, gV g v) :: (gLv g L).filter (fun q => !(q.1 == i) && !(q.1 + 1 == i && q.2.category == 2)) := by
  rintro ⟨j, w⟩ hq
  obtain ⟨u, h1, h2⟩ := gLv_mem.mp hq
  simp only at h1 h2
  subst h2
  unfold mS1 at h1
  rw [getD_set] at h1
  split at h1
  · rename_i h3
    cases h1
    rw [h3.1]
    exact List.mem_cons_self
  · rename_i h3
    obtain ⟨h4, h5⟩ := mClr_get h1
    refine List.mem_cons_of_mem _ (List.mem_filter.mpr ⟨gLv_mem.mpr ⟨u, h4, rfl⟩, ?_⟩)
    have h6 : ¬ j = i := fun e => h3 ⟨e, by have := getD_lt h1; omega⟩
    simp only [gV_cat]
    by_cases h7 : j + 1 = i
    · have : ¬ u.category = 2 := fun e => h5 ⟨h7, e⟩
      simp [h6, this]
    · simp [h6, h7]
theorem gLv_s2 {g : mG} {L : mLs} {i : Nat} {v : Value} : ∀ q ∈ gLv g (mS2 L i v), q ∈ (i, gV g v) :: (gLv g L).filter (fun q => !(q.1 == i) && (!(q.1 == i + 1) && !(q.1 + 1 == i && q.2.category == 2))) := by
  rintro ⟨j, w⟩ hq
  obtain ⟨u, h1, h2⟩ := gLv_mem.mp hq
  simp only at h1 h2
  subst h2
  unfold mS2 at h1
  rw [getD_set] at h1
  split at h1
  · rename_i h3
    cases h1
    rw [h3.1]
    exact List.mem_cons_self
  · rename_i h3
    have h6 : ¬ j = i := fun e => h3 ⟨e, by have := getD_lt h1; omega⟩
    rw [getD_set] at h1
    split at h1
    · cases h1
    · rename_i h8
      obtain ⟨h4, h5⟩ := mClr_get h1
      have h9 : ¬ j = i + 1 := fun e => h8 ⟨e, by have := getD_lt h1; omega⟩
      refine List.mem_cons_of_mem _ (List.mem_filter.mpr ⟨gLv_mem.mpr ⟨u, h4, rfl⟩, ?_⟩)
      simp only [gV_cat]
      by_cases h7 : j + 1 = i
      · have : ¬ u.category = 2 := fun e => h5 ⟨h7, e⟩
        simp [h6, h9, this]
      · simp [h6, h7, h9]
-- tables by their places
theorem fGet_in {c i ci k : Nat} (h : fGet c i = some (ci, k)) : (c, i, ci, k) ∈ fL := by
  unfold fGet at h
  cases hf : fL.find? (fun q => q.1 == c && q.2.1 == i) with
  | none => rw [hf] at h; cases h
  | some q =>
    rw [hf] at h
    have h1 := List.find?_some hf
    have h2 := List.mem_of_find?_eq_some hf
    simp only [Bool.and_eq_true, beq_iff_eq] at h1
    obtain ⟨q1, q2, q3⟩ := q
    simp only [Option.map_some, Option.some.injEq] at h
    simp only at h1
    obtain ⟨rfl, rfl⟩ := h1
    subst h
    exact h2
theorem kGet_in {c i kd k : Nat} (h : kGet c i = some (kd, k)) : (c, i, kd, k) ∈ mLk := by
  unfold kGet at h
  cases hf : mLk.find? (fun q => q.1 == c && q.2.1 == i) with
  | none => rw [hf] at h; cases h
  | some q =>
    rw [hf] at h
    have h1 := List.find?_some hf
    have h2 := List.mem_of_find?_eq_some hf
    simp only [Bool.and_eq_true, beq_iff_eq] at h1
    obtain ⟨q1, q2, q3⟩ := q
    simp only [Option.map_some, Option.some.injEq] at h
    simp only at h1
    obtain ⟨rfl, rfl⟩ := h1
    subst h
    exact h2
theorem cGet_in {c i : Nat} {v : Int32} (h : cGet c i = some v) : (c, i, v) ∈ cL := by
  unfold cGet at h
  cases hf : cL.find? (fun q => q.1 == c && q.2.1 == i) with
  | none => rw [hf] at h; cases h
  | some q =>
    rw [hf] at h
    have h1 := List.find?_some hf
    have h2 := List.mem_of_find?_eq_some hf
    simp only [Bool.and_eq_true, beq_iff_eq] at h1
    obtain ⟨q1, q2, q3⟩ := q
    simp only [Option.map_some, Option.some.injEq] at h
    simp only at h1
    obtain ⟨rfl, rfl⟩ := h1
    subst h
    exact h2
theorem jGet_in {c i : Nat} {v : Int64} (h : jGet c i = some v) : (c, i, v) ∈ cJ := by
  unfold jGet at h
  cases hf : cJ.find? (fun q => q.1 == c && q.2.1 == i) with
  | none => rw [hf] at h; cases h
  | some q =>
    rw [hf] at h
    have h1 := List.find?_some hf
    have h2 := List.mem_of_find?_eq_some hf
    simp only [Bool.and_eq_true, beq_iff_eq] at h1
    obtain ⟨q1, q2, q3⟩ := q
    simp only [Option.map_some, Option.some.injEq] at h
    simp only at h1
    obtain ⟨rfl, rfl⟩ := h1
    subst h
    exact h2
theorem nGet_in {c i v : Nat} (h : nGet c i = some v) : (c, i, v) ∈ nL := by
  unfold nGet at h
  cases hf : nL.find? (fun q => q.1 == c && q.2.1 == i) with
  | none => rw [hf] at h; cases h
  | some q =>
    rw [hf] at h
    have h1 := List.find?_some hf
    have h2 := List.mem_of_find?_eq_some hf
    simp only [Bool.and_eq_true, beq_iff_eq] at h1
    obtain ⟨q1, q2, q3⟩ := q
    simp only [Option.map_some, Option.some.injEq] at h
    simp only at h1
    obtain ⟨rfl, rfl⟩ := h1
    subst h
    exact h2
theorem ixOK_in {i : Int32} {n : Nat} (h : ixOK i n = true) : vp_in i n := by
  unfold ixOK at h
  exact (of_decide_eq_true h : ¬ (i < 0 ∨ n ≤ i.toNatClampNeg))
theorem mK_le {h : mM} {a : Nat} : mK h a < 19 ∨ mK h a = 19 ∧ a = 0 ∨ mK h a = 99 := by
  unfold mK
  split
  · rename_i h1; exact Or.inr (Or.inl ⟨rfl, h1⟩)
  · split
    · rename_i h1 h2; exact Or.inl h2.2
    · exact Or.inr (Or.inr rfl)
