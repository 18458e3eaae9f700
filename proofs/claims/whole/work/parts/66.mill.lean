-- a mill is built: the order by rank
theorem putF_at {rk : Nat → Int32} {num R : Int32} {a : Nat} : ∀ (k : Nat) (o : Nat → Int32), a ≤ k → (∀ i, i < a → ¬ R < rk (o i).toNatClampNeg) → (∀ i, a ≤ i → i < k → R < rk (o i).toNatClampNeg) → ∀ i, putF rk num R k o i = if i < a then o i else if i = a then num else if i ≤ k then o (i - 1) else o i
  | 0, o, ha, h1, h2, i => by
    have e : a = 0 := by omega
    subst e
    show upd o 0 num i = _
    rw [upd_ap, if_neg (Nat.not_lt_zero i)]
    by_cases z : i = 0
    · rw [if_pos z, if_pos z]
    · rw [if_neg z, if_neg z, if_neg (by omega)]
  | k + 1, o, ha, h1, h2, i => by
    show (if R < rk (o k).toNatClampNeg then putF rk num R k (upd o (k + 1) (o k)) else upd o (k + 1) num) i = _
    by_cases c : R < rk (o k).toNatClampNeg
    · have ha2 : a ≤ k := by
        rcases Nat.lt_or_ge k a with z | z
        · exact absurd c (h1 k z)
        · exact z
      rw [if_pos c, putF_at k (upd o (k + 1) (o k)) ha2 (fun j hj => by rw [upd_ap, if_neg (by omega)]; exact h1 j hj) (fun j hj hk => by rw [upd_ap, if_neg (by omega)]; exact h2 j hj (by omega)) i]
      by_cases z1 : i < a
      · rw [if_pos z1, if_pos z1, upd_ap, if_neg (by omega)]
      · rw [if_neg z1, if_neg z1]
        by_cases z2 : i = a
        · rw [if_pos z2, if_pos z2]
        · rw [if_neg z2, if_neg z2]
          by_cases z3 : i ≤ k
          · rw [if_pos z3, if_pos (by omega), upd_ap, if_neg (by omega)]
          · rw [if_neg z3, upd_ap]
            by_cases z4 : i = k + 1
            · rw [if_pos z4, if_pos (by omega), z4]; rfl
            · rw [if_neg z4, if_neg (by omega)]
    · have ha2 : a = k + 1 := by
        rcases Nat.lt_or_ge k a with z | z
        · omega
        · exact absurd (h2 k z (by omega)) c
      rw [if_neg c, upd_ap]
      by_cases z1 : i = k + 1
      · rw [if_pos z1, if_neg (by omega), if_pos (by omega)]
      · rw [if_neg z1]
        by_cases z2 : i < a
        · rw [if_pos z2]
        · rw [if_neg z2, if_neg (by omega), if_neg (by omega)]
def selN (r : Nat → Nat) (k : Nat) : Nat → List Nat
  | 0 => []
  | n + 1 => selN r k n ++ (if r n = k then [n] else [])
def rksN (r : Nat → Nat) (n : Nat) : Nat → List Nat
  | 0 => []
  | k + 1 => rksN r n k ++ selN r k n
def ordL (o : Nat → Nat) : Nat → List Nat
  | 0 => []
  | n + 1 => ordL o n ++ [o n]
theorem fold_ord {S : Type} {f : Nat → S → S} {o : Nat → Nat} : ∀ (n : Nat) (x : S), foldN (fun i => f (o i)) n x = (ordL o n).foldl (fun z m => f m z) x
  | 0, x => rfl
  | n + 1, x => by
    show f (o n) (foldN (fun i => f (o i)) n x) = (ordL o n ++ [o n]).foldl _ x
    rw [fold_ord n x, List.foldl_append]; rfl
theorem fold_sel {S : Type} {f : Nat → S → S} {r : Nat → Nat} {k : Nat} : ∀ (n : Nat) (x : S), foldN (fun m z => if r m = k then f m z else z) n x = (selN r k n).foldl (fun z m => f m z) x
  | 0, x => rfl
  | n + 1, x => by
    show (if r n = k then f n (foldN (fun m z => if r m = k then f m z else z) n x) else (foldN (fun m z => if r m = k then f m z else z) n x)) = (selN r k n ++ (if r n = k then [n] else [])).foldl _ x
    rw [fold_sel n x, List.foldl_append]
    by_cases c : r n = k
    · rw [if_pos c, if_pos c]; rfl
    · rw [if_neg c, if_neg c]; rfl
theorem fold_rks {S : Type} {f : Nat → S → S} {r : Nat → Nat} {n : Nat} : ∀ (k : Nat) (x : S), foldN (fun k y => foldN (fun m z => if r m = k then f m z else z) n y) k x = (rksN r n k).foldl (fun z m => f m z) x
  | 0, x => rfl
  | k + 1, x => by
    show foldN (fun m z => if r m = k then f m z else z) n (foldN (fun k y => foldN (fun m z => if r m = k then f m z else z) n y) k x) = (rksN r n k ++ selN r k n).foldl _ x
    rw [fold_rks k x, fold_sel, List.foldl_append]
theorem foldl_snoc : ∀ (l m : List Nat), l.foldl (fun z a => z ++ [a]) m = m ++ l
  | [], m => (List.append_nil m).symm
  | a :: l, m => by
    show l.foldl _ (m ++ [a]) = _
    rw [foldl_snoc l, List.append_assoc]; rfl
theorem ORD_list {c : Tb} : ORD c ↔ ordL (c 14) (c 0 2) = rksN (c 10) (c 0 2) 10 := by
  constructor
  · intro q
    have e := q (List Nat) (fun m z => z ++ [m]) []
    have e2 := (fold_ord (f := fun m (z : List Nat) => z ++ [m]) (o := c 14) (c 0 2) []).symm.trans (e.trans (fold_rks (f := fun m (z : List Nat) => z ++ [m]) 10 []))
    exact (foldl_snoc (ordL (c 14) (c 0 2)) []).symm.trans (e2.trans (foldl_snoc (rksN (c 10) (c 0 2) 10) []))
  · intro e S f x
    rw [fold_ord, fold_rks, e]
theorem sel_mem {r : Nat → Nat} {k x : Nat} : ∀ {n : Nat}, x ∈ selN r k n → r x = k ∧ x < n
  | 0, h => by cases h
  | n + 1, h => by
    rcases List.mem_append.mp h with z | z
    · have := sel_mem z
      exact ⟨this.1, by omega⟩
    · by_cases c : r n = k
      · rw [if_pos c] at z
        have e := List.mem_singleton.mp z
        subst e
        exact ⟨c, by omega⟩
      · rw [if_neg c] at z; cases z
theorem rks_mem {r : Nat → Nat} {n x : Nat} : ∀ {k : Nat}, x ∈ rksN r n k → r x < k ∧ x < n
  | 0, h => by cases h
  | k + 1, h => by
    rcases List.mem_append.mp h with z | z
    · have := rks_mem z
      exact ⟨by omega, this.2⟩
    · have := sel_mem z
      exact ⟨by omega, this.2⟩
theorem sel_congr {r r' : Nat → Nat} {k : Nat} : ∀ (n : Nat), (∀ m, m < n → r' m = r m) → selN r' k n = selN r k n
  | 0, _ => rfl
  | n + 1, h => by
    show selN r' k n ++ (if r' n = k then [n] else []) = selN r k n ++ (if r n = k then [n] else [])
    rw [sel_congr n (fun m hm => h m (by omega)), h n (by omega)]
theorem rks_lo {r r' : Nat → Nat} {n : Nat} (h : ∀ m, m < n → r' m = r m) : ∀ (k : Nat), k ≤ r' n → rksN r' (n + 1) k = rksN r n k
  | 0, _ => rfl
  | k + 1, hk => by
    show rksN r' (n + 1) k ++ (selN r' k n ++ (if r' n = k then [n] else [])) = rksN r n k ++ selN r k n
    rw [rks_lo h k (by omega), sel_congr n h, if_neg (by omega), List.append_nil]
theorem rks_hi {r r' : Nat → Nat} {n : Nat} (h : ∀ m, m < n → r' m = r m) : ∀ (j : Nat), ∃ B, rksN r n (r' n + 1 + j) = rksN r n (r' n + 1) ++ B ∧ rksN r' (n + 1) (r' n + 1 + j) = rksN r n (r' n + 1) ++ n :: B ∧ ∀ x, x ∈ B → r' n < r x
  | 0 => by
    refine ⟨[], (List.append_nil _).symm, ?_, fun x hx => by cases hx⟩
    show rksN r' (n + 1) (r' n) ++ (selN r' (r' n) n ++ (if r' n = r' n then [n] else [])) = (rksN r n (r' n) ++ selN r (r' n) n) ++ [n]
    rw [rks_lo h _ (Nat.le_refl _), sel_congr n h, if_pos rfl, List.append_assoc]
  | j + 1 => by
    obtain ⟨B, b1, b2, b3⟩ := rks_hi h j
    refine ⟨B ++ selN r (r' n + 1 + j) n, ?_, ?_, fun x hx => ?_⟩
    · show rksN r n (r' n + 1 + j) ++ selN r (r' n + 1 + j) n = _
      rw [b1, List.append_assoc]
    · show rksN r' (n + 1) (r' n + 1 + j) ++ (selN r' (r' n + 1 + j) n ++ (if r' n = r' n + 1 + j then [n] else [])) = _
      rw [b2, sel_congr n h, if_neg (by omega), List.append_nil, List.append_assoc]; rfl
    · rcases List.mem_append.mp hx with z | z
      · exact b3 x z
      · have := (sel_mem z).1
        omega
theorem ordL_at {o : Nat → Nat} : ∀ (n i : Nat), (ordL o n)[i]? = if i < n then some (o i) else none
  | 0, i => by rw [if_neg (Nat.not_lt_zero i)]; rfl
  | n + 1, i => by
    have hl : ∀ n, (ordL o n).length = n := fun n => by
      induction n with
      | zero => rfl
      | succ n ih => show (ordL o n ++ [o n]).length = _; rw [List.length_append, ih]; rfl
    show (ordL o n ++ [o n])[i]? = _
    rw [List.getElem?_append, hl n]
    by_cases z : i < n
    · rw [if_pos z, ordL_at n i, if_pos z, if_pos (by omega)]
    · rw [if_neg z]
      by_cases z2 : i = n
      · subst z2
        rw [Nat.sub_self, if_pos (by omega)]; rfl
      · rw [if_neg (by omega)]
        have : i - n = (i - n - 1) + 1 := by omega
        rw [this]; rfl
theorem ORD_ins {c c' : Tb} {n : Nat} (q : ORD c) (e : c 0 2 = n) (e' : c' 0 2 = n + 1) (hR : c' 10 n ≤ 9) (er : ∀ m, m < n → c' 10 m = c 10 m) (op : ∀ a, a ≤ n → (∀ i, i < a → c 10 (c 14 i) ≤ c' 10 n) → (∀ i, a ≤ i → i < n → c' 10 n < c 10 (c 14 i)) → ∀ i, i ≤ n → c' 14 i = if i < a then c 14 i else if i = a then n else c 14 (i - 1)) : ORD c' := by
  have L := ORD_list.mp q
  rw [e] at L
  apply ORD_list.mpr
  rw [e']
  obtain ⟨B, b1, b2, b3⟩ := rks_hi (r := c 10) (r' := c' 10) er (9 - c' 10 n)
  rw [show c' 10 n + 1 + (9 - c' 10 n) = 10 by omega] at b1 b2
  rw [b2]
  rw [b1] at L
  have hA : ∀ x, x ∈ rksN (c 10) n (c' 10 n + 1) → c 10 x ≤ c' 10 n := fun x hx => by
    have := (rks_mem hx).1
    omega
  generalize rksN (c 10) n (c' 10 n + 1) = A at L hA ⊢
  have at_ : ∀ i, (A ++ B)[i]? = if i < n then some (c 14 i) else none := fun i => by rw [← L]; exact ordL_at n i
  have len : A.length + B.length = n := by
    have h1 : (A ++ B)[n]? = none := by rw [at_ n, if_neg (Nat.lt_irrefl n)]
    have h2 := List.getElem?_eq_none_iff.mp h1
    rw [List.length_append] at h2
    rcases Nat.lt_or_ge (A.length + B.length) n with z | z
    · have h3 := at_ (A.length + B.length)
      rw [if_pos z, List.getElem?_eq_none_iff.mpr (by rw [List.length_append]; omega)] at h3
      cases h3
    · omega
  have o' := op A.length (by omega) (fun i hi => ?_) (fun i hi hn => ?_)
  · apply List.ext_getElem?
    intro i
    rw [ordL_at]
    by_cases z0 : i < n + 1
    · rw [if_pos z0, o' i (by omega), List.getElem?_append]
      by_cases z1 : i < A.length
      · rw [if_pos z1, if_pos z1]
        have := at_ i
        rw [List.getElem?_append, if_pos z1, if_pos (by omega)] at this
        exact this.symm
      · rw [if_neg z1, if_neg z1]
        by_cases z2 : i = A.length
        · rw [if_pos z2, z2, Nat.sub_self]; rfl
        · rw [if_neg z2]
          have := at_ (i - 1)
          rw [List.getElem?_append, if_neg (by omega), if_pos (by omega)] at this
          rw [show i - A.length = (i - 1 - A.length) + 1 by omega]
          exact this.symm
    · rw [if_neg z0, List.getElem?_eq_none_iff.mpr]
      rw [List.length_append, List.length_cons]; omega
  · have := at_ i
    rw [List.getElem?_append, if_pos hi, if_pos (by omega)] at this
    exact hA _ (List.mem_of_getElem? this)
  · have := at_ i
    rw [List.getElem?_append, if_neg (by omega), if_pos hn] at this
    exact b3 _ (List.mem_of_getElem? this)
theorem ORD_cut {c : Tb} {r : Nat} (q : ORD c) : ∃ a, a ≤ c 0 2 ∧ (∀ i, i < a → c 10 (c 14 i) ≤ r) ∧ (∀ i, a ≤ i → i < c 0 2 → r < c 10 (c 14 i)) := by
  have L := ORD_list.mp q
  have cut : ∀ j, ∃ A B, rksN (c 10) (c 0 2) j = A ++ B ∧ (∀ x, x ∈ A → c 10 x ≤ r) ∧ (∀ x, x ∈ B → r < c 10 x) ∧ (j ≤ r + 1 → B = []) := by
    intro j
    induction j with
    | zero => exact ⟨[], [], rfl, fun x hx => (by cases hx), fun x hx => (by cases hx), fun _ => rfl⟩
    | succ j ih =>
      obtain ⟨A, B, e, h1, h2, h3⟩ := ih
      by_cases z : j ≤ r
      · have eB := h3 (by omega)
        subst eB
        refine ⟨A ++ selN (c 10) j (c 0 2), [], ?_, fun x hx => ?_, fun x hx => (by cases hx), fun _ => rfl⟩
        · show rksN (c 10) (c 0 2) j ++ _ = _
          rw [e, List.append_nil, List.append_nil]
        · rcases List.mem_append.mp hx with z2 | z2
          · exact h1 x z2
          · have := (sel_mem z2).1
            omega
      · refine ⟨A, B ++ selN (c 10) j (c 0 2), ?_, h1, fun x hx => ?_, fun z2 => absurd z2 (by omega)⟩
        · show rksN (c 10) (c 0 2) j ++ _ = _
          rw [e, List.append_assoc]
        · rcases List.mem_append.mp hx with z2 | z2
          · exact h2 x z2
          · have := (sel_mem z2).1
            omega
  obtain ⟨A, B, e, h1, h2, _⟩ := cut 10
  rw [e] at L
  have at_ : ∀ i, (A ++ B)[i]? = if i < c 0 2 then some (c 14 i) else none := fun i => by rw [← L]; exact ordL_at _ i
  have len : A.length ≤ c 0 2 := by
    rcases Nat.lt_or_ge (c 0 2) A.length with z | z
    · have h3 := at_ (c 0 2)
      rw [if_neg (Nat.lt_irrefl _), List.getElem?_append, if_pos z] at h3
      have := List.getElem?_eq_none_iff.mp h3
      omega
    · exact z
  refine ⟨A.length, len, fun i hi => ?_, fun i hi hn => ?_⟩
  · have := at_ i
    rw [List.getElem?_append, if_pos hi, if_pos (by omega)] at this
    exact h1 _ (List.mem_of_getElem? this)
  · have := at_ i
    rw [List.getElem?_append, if_neg (by omega), if_pos hn] at this
    exact h2 _ (List.mem_of_getElem? this)
