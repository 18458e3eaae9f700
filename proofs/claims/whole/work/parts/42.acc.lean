-- sacks and accounts over an hour
theorem sumD_app {f : Dn → Nat} : ∀ (a b : List Dn), sumD f (a ++ b) = sumD f a + sumD f b
  | [], b => (Nat.zero_add _).symm
  | s :: a, b => by
    show f s + sumD f (a ++ b) = f s + sumD f a + sumD f b
    rw [sumD_app a b, Nat.add_assoc]
theorem gvQ_lt {x : Nat} {s : Sk} {q : List Sk} (h0 : x ≠ 0) (h : x < s.2.2.1) : gvQ x (s :: q) = ((s.1, s.2.1, s.2.2.1 - x, s.2.2.2) :: q, [], 0) := by
  show (if x = 0 then _ else _) = _
  rw [if_neg h0, if_pos h]
theorem gvQ_ge {x : Nat} {s : Sk} {q : List Sk} (h0 : x ≠ 0) (h : ¬ x < s.2.2.1) : gvQ x (s :: q) = ((gvQ (x - s.2.2.1) q).1, (s.1, s.2.1, s.2.2.2) :: (gvQ (x - s.2.2.1) q).2.1, (gvQ (x - s.2.2.1) q).2.2) := by
  show (if x = 0 then _ else _) = _
  rw [if_neg h0, if_neg h]
theorem gvQ_add : ∀ (q : List Sk) (x y : Nat), (∀ s ∈ q, okS s) → gvQ (x + y) q = ((gvQ y (gvQ x q).1).1, (gvQ x q).2.1 ++ (gvQ y (gvQ x q).1).2.1, (gvQ x q).2.2 + (gvQ y (gvQ x q).1).2.2)
  | [], x, y, _ => rfl
  | s :: q, x, y, hok => by
    have ih := fun x y => gvQ_add q x y (fun z hz => hok z (List.mem_cons_of_mem _ hz))
    have hs := hok s List.mem_cons_self
    by_cases x0 : x = 0
    · subst x0
      rw [gvQ_0, Nat.zero_add, Nat.zero_add, List.nil_append]
    · by_cases b1 : x < s.2.2.1
      · rw [gvQ_lt x0 b1]
        show gvQ (x + y) (s :: q) = ((gvQ y ((s.1, s.2.1, s.2.2.1 - x, s.2.2.2) :: q)).1, [] ++ (gvQ y ((s.1, s.2.1, s.2.2.1 - x, s.2.2.2) :: q)).2.1, 0 + (gvQ y ((s.1, s.2.1, s.2.2.1 - x, s.2.2.2) :: q)).2.2)
        rw [List.nil_append, Nat.zero_add]
        by_cases y0 : y = 0
        · subst y0
          rw [gvQ_0, Nat.add_zero, gvQ_lt x0 b1]
        · by_cases b2 : y < s.2.2.1 - x
          · rw [gvQ_lt (by omega) (by omega)]
            rw [gvQ_lt (s := (s.1, s.2.1, s.2.2.1 - x, s.2.2.2)) y0 b2]
            show (_ :: q, [], 0) = (_ :: q, [], 0)
            rw [Nat.sub_sub]
          · rw [gvQ_ge (by omega) (by omega)]
            rw [gvQ_ge (s := (s.1, s.2.1, s.2.2.1 - x, s.2.2.2)) y0 b2]
            show _ = ((gvQ (y - (s.2.2.1 - x)) q).1, _ :: (gvQ (y - (s.2.2.1 - x)) q).2.1, (gvQ (y - (s.2.2.1 - x)) q).2.2)
            rw [show x + y - s.2.2.1 = y - (s.2.2.1 - x) by omega]
      · rw [gvQ_ge x0 b1, gvQ_ge (by omega) (by omega), show x + y - s.2.2.1 = x - s.2.2.1 + y by omega, ih]
        rfl
theorem gvQ_ok : ∀ (q : List Sk) (x : Nat), (∀ s ∈ q, okS s) → (∀ s ∈ (gvQ x q).1, okS s) ∧ (gvQ x q).1.length ≤ q.length
  | [], x, _ => ⟨fun s hs => (List.not_mem_nil hs).elim, Nat.le_refl _⟩
  | s :: q, x, hok => by
    by_cases x0 : x = 0
    · subst x0
      rw [gvQ_0]
      exact ⟨hok, Nat.le_refl _⟩
    · by_cases b1 : x < s.2.2.1
      · rw [gvQ_lt x0 b1]
        refine ⟨fun z hz => ?_, Nat.le_refl _⟩
        rcases List.mem_cons.mp hz with e | e
        · subst e
          have := hok s List.mem_cons_self
          unfold okS at this ⊢
          show s.1 < 10 ∧ s.2.1 ≤ 2000 ∧ 1 ≤ s.2.2.1 - x ∧ s.2.2.1 - x ≤ 2000
          omega
        · exact hok z (List.mem_cons_of_mem _ e)
      · rw [gvQ_ge x0 b1]
        have ih := gvQ_ok q (x - s.2.2.1) (fun z hz => hok z (List.mem_cons_of_mem _ hz))
        exact ⟨ih.1, Nat.le_trans ih.2 (Nat.le_succ _)⟩
def gbN (g : Nat → Nat) (m : Nat) : Nat := g (3 * m) + g (3 * m + 1) + g (3 * m + 2)
def b1N (x : Nat) : Nat := if 0 < x then 1 else 0
def rcN (g : Nat → Nat) (m : Nat) : Nat := b1N (g (3 * m)) + b1N (g (3 * m + 1)) + b1N (g (3 * m + 2))
theorem gb_same {g : Nat → Nat} {m s x : Nat} (hs : s < 3) (h0 : g (3 * m + s) = 0) : gbN (upN g (3 * m + s) x) m = gbN g m + x := by
  unfold gbN
  simp only [upN_ap]
  rcases (show s = 0 ∨ s = 1 ∨ s = 2 by omega) with e | e | e
  · subst e
    rw [if_pos (by omega), if_neg (by omega), if_neg (by omega)]
    rw [Nat.add_zero] at h0
    omega
  · subst e
    rw [if_neg (by omega), if_pos rfl, if_neg (by omega)]
    omega
  · subst e
    rw [if_neg (by omega), if_neg (by omega), if_pos rfl]
    omega
theorem rc_same {g : Nat → Nat} {m s x : Nat} (hs : s < 3) (h0 : g (3 * m + s) = 0) (hx : 0 < x) : rcN (upN g (3 * m + s) x) m = rcN g m + 1 := by
  have e1 : b1N x = 1 := if_pos hx
  have e0 : b1N 0 = 0 := rfl
  unfold rcN
  simp only [upN_ap]
  rcases (show s = 0 ∨ s = 1 ∨ s = 2 by omega) with e | e | e
  · subst e
    rw [Nat.add_zero] at h0
    rw [if_pos (by omega), if_neg (by omega), if_neg (by omega), e1, h0, e0]
    omega
  · subst e
    rw [if_neg (by omega), if_pos rfl, if_neg (by omega), e1, h0, e0]
    omega
  · subst e
    rw [if_neg (by omega), if_neg (by omega), if_pos rfl, e1, h0, e0]
theorem gb_other {g : Nat → Nat} {m m' s x : Nat} (hs : s < 3) (hm : m' ≠ m) : gbN (upN g (3 * m + s) x) m' = gbN g m' ∧ rcN (upN g (3 * m + s) x) m' = rcN g m' := by
  unfold gbN rcN
  rw [upN_ne (by omega), upN_ne (by omega), upN_ne (by omega)]
  exact ⟨rfl, rfl⟩
def sumN (f : Nat → Nat) : Nat → Nat
  | 0 => 0
  | n + 1 => sumN f n + f n
theorem sumN_congr {f g : Nat → Nat} : ∀ (n : Nat), (∀ i, i < n → f i = g i) → sumN f n = sumN g n
  | 0, _ => rfl
  | n + 1, h => by
    show sumN f n + f n = sumN g n + g n
    rw [sumN_congr n (fun i hi => h i (by omega)), h n (Nat.lt_succ_self n)]
theorem sumN_upd {f g : Nat → Nat} {m x : Nat} : ∀ (n : Nat), m < n → (∀ i, i < n → i ≠ m → g i = f i) → g m = f m + x → sumN g n = sumN f n + x
  | 0, h, _, _ => by omega
  | n + 1, h, hi, hm => by
    show sumN g n + g n = sumN f n + f n + x
    by_cases e : m = n
    · subst e
      rw [sumN_congr m (fun i hi2 => hi i (by omega) (by omega)), hm]
      omega
    · rw [sumN_upd n (by omega) (fun i hi2 => hi i (by omega)) hm, hi n (by omega) (by omega)]
      omega
/-- what an account gains -/
def acD (kd hr : Int32) (x r : Nat) (q : List Sk) (j : Nat) : Nat := if kd = 2 then (if j = 5 then r else 0) else if j = 0 then x else if j = 1 then sumD (tlN kd) (gvQ x q).2.1 else if j = 2 then (gvQ x q).2.1.length else if j = 3 then sumD (ltN hr) (gvQ x q).2.1 else if j = 4 then (gvQ x q).2.2 else 0
def flD (kd : Nat → Int32) (g : Nat → Nat) (qs : Nat → List Sk) (c m : Nat) : Nat := sumD (flN (kd m) c) (gvQ (gbN g m) (qs m)).2.1
/-- the sacks before the hour -/
def QS (kd : Nat → Int32) (nm : Nat) (qs : Nat → List Sk) : Prop := ∀ m, m < nm → (∀ s ∈ qs m, okS s) ∧ (qs m).length ≤ 12 ∧ (kd m = 2 → qs m = [])
/-- accounts within the hour -/
def AC (kd : Nat → Int32) (hr : Int32) (nm : Nat) (qs : Nat → List Sk) (τ0 : T8) (g : Nat → Nat) (τ : T8) : Prop := (∀ m, m < nm → ts τ m = nI (gvQ (gbN g m) (qs m)).1.length ∧ Qr (tr τ) (48 * m) (gvQ (gbN g m) (qs m)).1) ∧ (∀ m, m < nm → ∀ j, j < 6 → tc τ (6 * m + j) = tc τ0 (6 * m + j) + lN (acD (kd m) hr (gbN g m) (rcN g m) (qs m) j)) ∧ (∀ c, te τ c = te τ0 c + lN (sumN (flD kd g qs c) nm))
theorem AC_step {kd : Nat → Int32} {hr : Int32} {nm : Nat} {qs : Nat → List Sk} {τ0 : T8} {g : Nat → Nat} {τ τ1 τ' : T8} (hq : QS kd nm qs) (A : AC kd hr nm qs τ0 g τ) {m s x : Nat} (hm : m < nm) (hs : s < 3) (h0 : g (3 * m + s) = 0) (hx : 0 < x) (hk : ¬ kd m = 2) (h1 : ts τ1 = ts τ ∧ tr τ1 = tr τ ∧ tc τ1 = tc τ ∧ te τ1 = te τ ∧ to τ1 0 = hr) (gv : GV (kd m) m x (gvQ (gbN g m) (qs m)).1 (uc τ1 (vp_updL (tc τ1) (6 * m) (tc τ1 (6 * m) + lN x))) τ') : AC kd hr nm qs τ0 (upN g (3 * m + s) x) τ' := by
  obtain ⟨a1, a2, a3⟩ := A
  obtain ⟨t1, t2, t3, t4, t5⟩ := h1
  obtain ⟨_, _, _, _, g5, g6, g7, g8, g9⟩ := gv
  have ea := gvQ_add (qs m) (gbN g m) x (hq m hm).1
  have eg := gb_same (g := g) (x := x) hs h0
  refine ⟨fun m' hm' => ?_, fun m' hm' j hj => ?_, fun c => ?_⟩
  · by_cases e : m' = m
    · subst e
      rw [eg, ea]
      refine ⟨?_, g6⟩
      rw [g5]
      exact if_pos rfl
    · rw [(gb_other (x := x) hs e).1]
      obtain ⟨b1, b2⟩ := a1 m' hm'
      refine ⟨?_, Qr_congr (fun k k1 k2 => ?_) b2⟩
      · rw [g5]
        show upd (ts τ1) m _ m' = _
        rw [upd_ap, if_neg e, t1]; exact b1
      · have l := (gvQ_ok (qs m') (gbN g m') (hq m' hm').1).2
        have l2 := (hq m' hm').2.1
        rw [g7 k (by omega)]
        show tr τ1 k = _
        rw [t2]
  · rw [g8]
    show vp_updL (tc τ1) (6 * m) (tc τ1 (6 * m) + lN x) (6 * m' + j) + _ = _
    rw [updL_ap, t3]
    by_cases e : m' = m
    · subst e
      rw [eg, show tc τ (6 * m') = tc τ0 (6 * m') + lN (acD (kd m') hr (gbN g m') (rcN g m') (qs m') 0) from a2 m' hm' 0 (by omega), a2 m' hm' j hj]
      unfold acD
      rw [ea]
      have hr0 : ∀ f, to (uc τ1 f) 0 = hr := fun _ => t5
      rw [hr0]
      have c1 : ∀ i, (6 * m' + j = 6 * m' + i) = (j = i) := fun i => propext ⟨fun _ => by omega, fun _ => by omega⟩
      have c0 : (6 * m' + j = 6 * m') = (j = 0) := propext ⟨fun _ => by omega, fun _ => by omega⟩
      simp only [if_neg hk, List.length_append, sumD_app, c1, c0]
      rcases (show j = 0 ∨ j = 1 ∨ j = 2 ∨ j = 3 ∨ j = 4 ∨ j = 5 by omega) with e | e | e | e | e | e <;> subst e <;> simp [lN_sum]
    · obtain ⟨o1, o2⟩ := gb_other (g := g) (x := x) hs e
      rw [o1, o2, if_neg (by omega), if_neg (by omega), if_neg (by omega), if_neg (by omega), if_neg (by omega), lN_0]
      exact a2 m' hm' j hj
  · rw [g9]
    show te τ1 c + _ = _
    rw [t4, a3 c, lN_sum]
    congr 2
    refine (sumN_upd (m := m) nm hm (fun i hi e => ?_) ?_).symm
    · unfold flD
      rw [(gb_other (x := x) hs e).1]
    · unfold flD
      rw [eg, ea, sumD_app]
theorem AC_full {kd : Nat → Int32} {hr : Int32} {nm : Nat} {qs : Nat → List Sk} {τ0 : T8} {g : Nat → Nat} {τ τ1 : T8} (hq : QS kd nm qs) (A : AC kd hr nm qs τ0 g τ) {m s x : Nat} (hm : m < nm) (hs : s < 3) (h0 : g (3 * m + s) = 0) (hx : 0 < x) (hk : kd m = 2) (h1 : ts τ1 = ts τ ∧ tr τ1 = tr τ ∧ tc τ1 = tc τ ∧ te τ1 = te τ) : AC kd hr nm qs τ0 (upN g (3 * m + s) x) (uc τ1 (vp_updL (tc τ1) (6 * m + 5) (tc τ1 (6 * m + 5) + 1))) := by
  obtain ⟨a1, a2, a3⟩ := A
  obtain ⟨t1, t2, t3, t4⟩ := h1
  have e0 := (hq m hm).2.2 hk
  refine ⟨fun m' hm' => ?_, fun m' hm' j hj => ?_, fun c => ?_⟩
  · show ts τ1 m' = _ ∧ Qr (tr τ1) _ _
    rw [t1, t2]
    by_cases e : m' = m
    · subst e
      have := a1 m' hm'
      rw [e0] at this ⊢
      exact this
    · rw [(gb_other (x := x) hs e).1]
      exact a1 m' hm'
  · show vp_updL (tc τ1) (6 * m + 5) (tc τ1 (6 * m + 5) + 1) (6 * m' + j) = _
    rw [updL_ap, t3]
    by_cases e : m' = m
    · subst e
      rw [rc_same hs h0 hx]
      unfold acD
      have z := a2 m' hm' j hj
      unfold acD at z
      rw [if_pos hk] at z ⊢
      by_cases e5 : j = 5
      · subst e5
        rw [if_pos rfl] at z
        rw [if_pos rfl, if_pos rfl, z]
        show _ + lN _ + lN 1 = _
        rw [lN_sum]
      · rw [if_neg e5] at z
        rw [if_neg (by omega), if_neg e5]
        exact z
    · obtain ⟨o1, o2⟩ := gb_other (g := g) (x := x) hs e
      rw [o1, o2, if_neg (by omega)]
      exact a2 m' hm' j hj
  · show te τ1 c = _
    rw [t4, a3 c]
    congr 2
    refine sumN_congr nm (fun i hi => ?_)
    unfold flD
    by_cases e : i = m
    · subst e
      rw [e0]
      rfl
    · rw [(gb_other (x := x) hs e).1]
