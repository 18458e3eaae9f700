-- one HOUR in natural numbers
abbrev Tb : Type := Nat → Nat → Nat
abbrev N3 : Type := (Nat → Nat) × (Nat → Nat) × (Nat → Nat)
def upN (f : Nat → Nat) (k v : Nat) : Nat → Nat := fun j => if j = k then v else f j
theorem upN_ap {f : Nat → Nat} {k v j : Nat} : upN f k v j = if j = k then v else f j := rfl
theorem upN_eq {f : Nat → Nat} {k v : Nat} : upN f k v k = v := if_pos rfl
theorem upN_ne {f : Nat → Nat} {k v j : Nat} (e : ¬ j = k) : upN f k v j = f j := if_neg e
def giN (a wd gt w t : Nat) : Nat := if gt ≠ 0 ∧ w / a < t then min (wd * (t - w / a)) (a * t - w) else 0
def goN (a wd gt w t : Nat) : Nat := if gt = 2 ∧ t < w / a then min (wd * (w / a - t)) (w - a * t) else 0
def gtN (c : Tb) (t p : Nat) (σ : N3) : N3 := (upN σ.1 p (σ.1 p + giN (c 1 p) (c 3 p) (c 4 p) (σ.1 p) t - goN (c 1 p) (c 3 p) (c 4 p) (σ.1 p) t), upN (upN σ.2.1 0 (σ.2.1 0 + giN (c 1 p) (c 3 p) (c 4 p) (σ.1 p) t)) 1 (σ.2.1 1 + goN (c 1 p) (c 3 p) (c 4 p) (σ.1 p) t), σ.2.2)
def ptN (c : Tb) (k x y : Nat) (w : Nat → Nat) : Nat := min (c 7 k * (w x / c 1 x - w y / c 1 y)) ((w x * c 1 y - w y * c 1 x) / (c 1 x + c 1 y))
def ldN (c : Tb) (k x y : Nat) (w : Nat → Nat) : Nat → Nat := upN (upN w x (w x - ptN c k x y w)) y (w y + ptN c k x y w)
def chN (c : Tb) (k : Nat) (σ : N3) : N3 := (if σ.1 (c 6 k) / c 1 (c 6 k) < σ.1 (c 5 k) / c 1 (c 5 k) then ldN c k (c 5 k) (c 6 k) σ.1 else if σ.1 (c 5 k) / c 1 (c 5 k) < σ.1 (c 6 k) / c 1 (c 6 k) then ldN c k (c 6 k) (c 5 k) σ.1 else σ.1, σ.2.1, σ.2.2)
def kpN (c : Tb) (m : Nat) : Nat → Nat
  | 0 => 0
  | n + 1 => if c 9 n = c 9 m ∧ c 10 n < c 10 m then max (kpN c m n) (c 11 n) else kpN c m n
abbrev rnN (c : Tb) (t m s : Nat) (w : Nat → Nat) : Prop := c 19 (3 * m + s) = 1 ∧ c 15 (3 * m + s) + t ≤ w (c 9 m) / c 1 (c 9 m) ∧ c 16 (3 * m + s) ≤ w (c 9 m) ∧ c 1 (c 9 m) * kpN c m (c 0 2) ≤ w (c 9 m) - c 16 (3 * m + s)
def grN (c : Tb) (t m s : Nat) (w : Nat → Nat) : Nat := min ((w (c 9 m) / c 1 (c 9 m) - t) * c 17 (3 * m + s)) (c 18 (3 * m + s))
def stN (c : Tb) (t m s : Nat) (σ : N3) : N3 := if rnN c t m s σ.1 then (upN σ.1 (c 9 m) (σ.1 (c 9 m) - c 16 (3 * m + s)), upN σ.2.1 3 (σ.2.1 3 + c 16 (3 * m + s)), upN σ.2.2 (3 * m + s) (grN c t m s σ.1)) else σ
def mlN (c : Tb) (t r m : Nat) (σ : N3) : N3 := if m = r then σ else foldN (stN c t m) (c 13 m) σ
def rmN (c : Tb) (t r k m : Nat) (σ : N3) : N3 := if c 10 m = k then mlN c t r m σ else σ
def rkN (c : Tb) (t r k : Nat) (σ : N3) : N3 := foldN (rmN c t r k) (c 0 2) σ
def spN (c : Tb) (p : Nat) (σ : N3) : N3 := if c 1 p * c 2 p < σ.1 p then (upN σ.1 p (c 1 p * c 2 p), upN σ.2.1 2 (σ.2.1 2 + (σ.1 p - c 1 p * c 2 p)), σ.2.2) else σ
def HN (c : Tb) (t r : Nat) (w : Nat → Nat) : N3 := foldN (spN c) (c 0 0) (foldN (rkN c t r) 10 (foldN (chN c) (c 0 1) (foldN (gtN c t) (c 0 0) (w, fun _ => 0, fun _ => 0))))
def WB (c : Tb) (w : Nat → Nat) : Prop := ∀ p, p < c 0 0 → w p ≤ 250 * c 1 p
def CK (c : Tb) : Prop := (c 0 0 ≤ 4 ∧ c 0 1 ≤ 4 ∧ c 0 2 ≤ 4) ∧ (∀ p, p < c 0 0 → (1 ≤ c 1 p ∧ c 1 p ≤ 100) ∧ (1 ≤ c 2 p ∧ c 2 p ≤ 250) ∧ c 3 p ≤ 200 ∧ c 4 p ≤ 2) ∧ (∀ k, k < c 0 1 → c 5 k < c 0 0 ∧ c 6 k < c 0 0 ∧ c 5 k ≠ c 6 k ∧ c 7 k ≤ 200) ∧
  (∀ m, m < c 0 2 → c 8 m ≤ 2 ∧ c 9 m < c 0 0 ∧ c 10 m ≤ 9 ∧ c 11 m ≤ 250 ∧ c 12 m ≤ 9 ∧ c 13 m ≤ 3) ∧ (∀ m s, m < c 0 2 → s < c 13 m → (1 ≤ c 15 (3 * m + s) ∧ c 15 (3 * m + s) ≤ 200) ∧ (1 ≤ c 16 (3 * m + s) ∧ c 16 (3 * m + s) ≤ 1000) ∧ (1 ≤ c 17 (3 * m + s) ∧ c 17 (3 * m + s) ≤ 20) ∧ (1 ≤ c 18 (3 * m + s) ∧ c 18 (3 * m + s) ≤ 1000) ∧ c 19 (3 * m + s) ≤ 1)
theorem foldN_inv {σ : Type} {st : Nat → σ → σ} {P : Nat → σ → Prop} : ∀ (n : Nat) (x : σ), P 0 x → (∀ i y, i < n → P i y → P (i + 1) (st i y)) → P n (foldN st n x)
  | 0, _, h0, _ => h0
  | n + 1, x, h0, hs => hs n _ (Nat.lt_succ_self n) (foldN_inv n x h0 (fun i y hi => hs i y (Nat.lt_succ_of_lt hi)))
theorem in_le {a wd gt w t : Nat} (ht : t ≤ 200) (ha : a ≤ 100) : giN a wd gt w t ≤ 25000 ∧ giN a wd gt w t ≤ a * t - w := by
  have h1 : a * t ≤ 100 * 200 := Nat.mul_le_mul ha ht
  unfold giN
  split
  · have := Nat.min_le_right (wd * (t - w / a)) (a * t - w)
    omega
  · omega
theorem out_le {a wd gt w t : Nat} (hw : w ≤ 25000) : goN a wd gt w t ≤ 25000 ∧ goN a wd gt w t ≤ w - a * t := by
  unfold goN
  split
  · have := Nat.min_le_right (wd * (w / a - t)) (w - a * t)
    omega
  · omega
theorem in_out {a wd gt w t : Nat} : giN a wd gt w t = 0 ∨ goN a wd gt w t = 0 := by
  unfold giN goN
  by_cases h1 : t < w / a
  · left
    rw [if_neg (by omega)]
  · right
    rw [if_neg (by omega)]
theorem wb_25 {a w : Nat} (ha : a ≤ 100) (hw : w ≤ 250 * a) : w ≤ 25000 := by omega
theorem gt_wb {a wd gt w t : Nat} (ht : t ≤ 200) (ha : a ≤ 100) (hw : w ≤ 250 * a) : w + giN a wd gt w t - goN a wd gt w t ≤ 250 * a := by
  have h1 := (in_le (wd := wd) (gt := gt) (w := w) ht ha).2
  have h2 : a * t ≤ a * 250 := Nat.mul_le_mul (Nat.le_refl a) (by omega)
  omega
theorem ev_q {wx wy ax ay : Nat} (h : 0 < ax + ay) (bx : wx ≤ 250 * ax) (by_ : wy ≤ 250 * ay) : (wx * ay - wy * ax) / (ax + ay) ≤ wx ∧ wy + (wx * ay - wy * ax) / (ax + ay) ≤ 250 * ay := by
  have h1 := Nat.div_mul_le_self (wx * ay - wy * ax) (ax + ay)
  generalize (wx * ay - wy * ax) / (ax + ay) = q at h1 ⊢
  constructor
  · refine Nat.le_of_mul_le_mul_right ?_ h
    rw [Nat.mul_add wx]
    omega
  · refine Nat.le_of_mul_le_mul_right ?_ h
    have h2 : wx * ay ≤ 250 * ax * ay := Nat.mul_le_mul_right ay bx
    have h3 : wy * ay ≤ 250 * ay * ay := Nat.mul_le_mul_right ay by_
    have h4 : wy * ax ≤ 250 * ay * ax := Nat.mul_le_mul_right ax by_
    have h5 : 250 * ax * ay = 250 * ay * ax := by rw [Nat.mul_assoc, Nat.mul_comm ax, ← Nat.mul_assoc]
    rw [Nat.add_mul wy, Nat.mul_add wy, Nat.mul_add (250 * ay)]
    omega
theorem pt_le {c : Tb} {k x y : Nat} {w : Nat → Nat} (h : 0 < c 1 x + c 1 y) (bx : w x ≤ 250 * c 1 x) (by_ : w y ≤ 250 * c 1 y) : ptN c k x y w ≤ w x ∧ w y + ptN c k x y w ≤ 250 * c 1 y := by
  have h1 := ev_q h bx by_
  have h2 : ptN c k x y w ≤ (w x * c 1 y - w y * c 1 x) / (c 1 x + c 1 y) := Nat.min_le_right _ _
  omega
theorem ld_wb {c : Tb} (ck : CK c) {k x y : Nat} {w : Nat → Nat} (hx : x < c 0 0) (hy : y < c 0 0) (hw : WB c w) : WB c (ldN c k x y w) := by
  intro p hp
  have a1 := (ck.2.1 x hx).1
  have h1 := pt_le (c := c) (k := k) (x := x) (y := y) (by omega) (hw x hx) (hw y hy)
  have h2 := hw p hp
  have h3 := hw x hx
  unfold ldN
  rw [upN_ap]
  by_cases e1 : p = y
  · subst e1
    rw [if_pos rfl]
    exact h1.2
  · rw [if_neg e1, upN_ap]
    by_cases e2 : p = x
    · subst e2
      rw [if_pos rfl]
      omega
    · rw [if_neg e2]
      exact h2
theorem gt_ok {c : Tb} (ck : CK c) {t : Nat} (ht : t ≤ 200) {w : Nat → Nat} (hw : WB c w) : WB c (foldN (gtN c t) (c 0 0) (w, fun _ => 0, fun _ => 0)).1 ∧ (foldN (gtN c t) (c 0 0) (w, fun _ => 0, fun _ => 0)).2.1 0 ≤ 100000 ∧ (foldN (gtN c t) (c 0 0) (w, fun _ => 0, fun _ => 0)).2.1 1 ≤ 100000 ∧ (∀ k, 1 < k → (foldN (gtN c t) (c 0 0) (w, fun _ => 0, fun _ => 0)).2.1 k = 0) ∧ (foldN (gtN c t) (c 0 0) (w, fun _ => 0, fun _ => 0)).2.2 = fun _ => 0 := by
  have h := foldN_inv (st := gtN c t) (P := fun i (σ : N3) => WB c σ.1 ∧ σ.2.1 0 ≤ 25000 * i ∧ σ.2.1 1 ≤ 25000 * i ∧ (∀ k, 1 < k → σ.2.1 k = 0) ∧ σ.2.2 = fun _ => 0) (c 0 0) (w, fun _ => 0, fun _ => 0) ⟨hw, Nat.zero_le _, Nat.zero_le _, fun _ _ => rfl, rfl⟩ (by
    rintro i ⟨y1, y2, y3⟩ hi ⟨p1, p2, p3, p4, p5⟩
    simp only at p1 p2 p3 p4 p5
    have q := ck.2.1 i hi
    have h1 := (in_le (a := c 1 i) (wd := c 3 i) (gt := c 4 i) (w := y1 i) ht q.1.2).1
    have h2 := (out_le (a := c 1 i) (wd := c 3 i) (gt := c 4 i) (w := y1 i) (t := t) (wb_25 q.1.2 (p1 i hi))).1
    refine ⟨fun p hp => ?_, ?_, ?_, fun k hk => ?_, p5⟩
    · show upN y1 i _ p ≤ _
      rw [upN_ap]
      by_cases e : p = i
      · subst e
        rw [if_pos rfl]
        exact gt_wb ht q.1.2 (p1 p hp)
      · rw [if_neg e]; exact p1 p hp
    · show upN (upN y2 0 (y2 0 + giN (c 1 i) (c 3 i) (c 4 i) (y1 i) t)) 1 (y2 1 + goN (c 1 i) (c 3 i) (c 4 i) (y1 i) t) 0 ≤ _
      rw [upN_ap, if_neg (by omega), upN_ap, if_pos rfl]
      omega
    · show upN (upN y2 0 (y2 0 + giN (c 1 i) (c 3 i) (c 4 i) (y1 i) t)) 1 (y2 1 + goN (c 1 i) (c 3 i) (c 4 i) (y1 i) t) 1 ≤ _
      rw [upN_ap, if_pos rfl]
      omega
    · show upN (upN y2 0 (y2 0 + giN (c 1 i) (c 3 i) (c 4 i) (y1 i) t)) 1 (y2 1 + goN (c 1 i) (c 3 i) (c 4 i) (y1 i) t) k = _
      rw [upN_ap, if_neg (by omega), upN_ap, if_neg (by omega)]
      exact p4 k hk)
  have := ck.1.1
  refine ⟨h.1, ?_, ?_, h.2.2.2.1, h.2.2.2.2⟩
  · have := h.2.1; omega
  · have := h.2.2.1; omega
theorem ch_ok {c : Tb} (ck : CK c) {σ : N3} (hw : WB c σ.1) : ∀ (n : Nat), n ≤ c 0 1 → WB c (foldN (chN c) n σ).1 ∧ (foldN (chN c) n σ).2 = σ.2
  | 0, _ => ⟨hw, rfl⟩
  | n + 1, hn => by
    have ih := ch_ok ck hw n (by omega)
    obtain ⟨q1, q2, q3, q4⟩ := ck.2.2.1 n (by omega)
    refine ⟨?_, ih.2⟩
    show WB c (ite _ _ _)
    split
    · exact ld_wb ck q1 q2 ih.1
    · split
      · exact ld_wb ck q2 q1 ih.1
      · exact ih.1
/-- what the stones keep -/
def IS (c : Tb) (b : Nat) (σ0 σ : N3) : Prop := WB c σ.1 ∧ (∀ k, k ≠ 3 → σ.2.1 k = σ0.2.1 k) ∧ σ.2.1 3 ≤ b ∧ (∀ i, σ.2.2 i ≤ 1000)
theorem st_ok {c : Tb} (ck : CK c) {t m s b : Nat} (hm : m < c 0 2) (hs : s < c 13 m) {σ0 σ : N3} (h : IS c b σ0 σ) : IS c (b + 1000) σ0 (stN c t m s σ) := by
  obtain ⟨h1, h2, h3, h4⟩ := h
  have q := ck.2.2.2.2 m s hm hs
  unfold stN
  split
  · refine ⟨fun p hp => ?_, fun k hk => ?_, ?_, fun i => ?_⟩
    · show upN σ.1 _ _ p ≤ _
      rw [upN_ap]
      have := h1 p hp
      split
      · rename_i e; subst e; omega
      · omega
    · show upN σ.2.1 _ _ k = _
      rw [upN_ne hk]; exact h2 k hk
    · show upN σ.2.1 3 (σ.2.1 3 + c 16 (3 * m + s)) 3 ≤ _
      rw [upN_eq]; omega
    · show upN σ.2.2 _ _ i ≤ _
      rw [upN_ap]
      split
      · have := Nat.min_le_right ((σ.1 (c 9 m) / c 1 (c 9 m) - t) * c 17 (3 * m + s)) (c 18 (3 * m + s))
        unfold grN
        omega
      · exact h4 i
  · exact ⟨h1, h2, by omega, h4⟩
theorem ml_ok {c : Tb} (ck : CK c) {t r m b : Nat} (hm : m < c 0 2) {σ0 σ : N3} (h : IS c b σ0 σ) : IS c (b + 3000) σ0 (mlN c t r m σ) := by
  unfold mlN
  split
  · exact ⟨h.1, h.2.1, by have := h.2.2.1; omega, h.2.2.2⟩
  · have := foldN_inv (st := stN c t m) (P := fun i σ => IS c (b + 1000 * i) σ0 σ) (c 13 m) σ h (fun i y hi hy => by rw [show b + 1000 * (i + 1) = b + 1000 * i + 1000 by omega]; exact st_ok ck hm hi hy)
    have h13 := (ck.2.2.2.1 m hm).2.2.2.2.2
    exact ⟨this.1, this.2.1, by have := this.2.2.1; omega, this.2.2.2⟩
theorem rk_ok {c : Tb} (ck : CK c) {t r k b : Nat} {σ0 σ : N3} (h : IS c b σ0 σ) : IS c (b + 12000) σ0 (rkN c t r k σ) := by
  have := foldN_inv (st := rmN c t r k) (P := fun i σ => IS c (b + 3000 * i) σ0 σ) (c 0 2) σ h (fun i y hi hy => by
    unfold rmN
    split
    · rw [show b + 3000 * (i + 1) = b + 3000 * i + 3000 by omega]; exact ml_ok ck hi hy
    · exact ⟨hy.1, hy.2.1, by have := hy.2.2.1; omega, hy.2.2.2⟩)
  have h13 := ck.1.2.2
  exact ⟨this.1, this.2.1, by have := this.2.2.1; unfold rkN; omega, this.2.2.2⟩
theorem rks_ok {c : Tb} (ck : CK c) {t r : Nat} {σ : N3} (hw : WB c σ.1) (hf : σ.2.1 3 = 0) (hg : ∀ i, σ.2.2 i ≤ 1000) : IS c 120000 σ (foldN (rkN c t r) 10 σ) :=
  foldN_inv (st := rkN c t r) (P := fun i x => IS c (12000 * i) σ x) 10 σ ⟨hw, fun _ _ => rfl, by omega, hg⟩ (fun i y _ hy => by rw [show 12000 * (i + 1) = 12000 * i + 12000 by omega]; exact rk_ok ck hy)
theorem sp_ok {c : Tb} (ck : CK c) {σ : N3} (hw : WB c σ.1) : ∀ (n : Nat), n ≤ c 0 0 → (∀ p, p < c 0 0 → (foldN (spN c) n σ).1 p ≤ σ.1 p ∧ (p < n → (foldN (spN c) n σ).1 p ≤ c 1 p * c 2 p)) ∧ (∀ k, k ≠ 2 → (foldN (spN c) n σ).2.1 k = σ.2.1 k) ∧ (foldN (spN c) n σ).2.1 2 ≤ σ.2.1 2 + 25000 * n ∧ (foldN (spN c) n σ).2.2 = σ.2.2
  | 0, _ => ⟨fun p _ => ⟨Nat.le_refl _, fun h => by omega⟩, fun _ _ => rfl, Nat.le_refl _, rfl⟩
  | n + 1, hn => by
    obtain ⟨i1, i2, i3, i4⟩ := sp_ok ck hw n (by omega)
    show (∀ p, p < c 0 0 → (spN c n (foldN (spN c) n σ)).1 p ≤ _ ∧ _) ∧ (∀ k, k ≠ 2 → (spN c n (foldN (spN c) n σ)).2.1 k = _) ∧ (spN c n (foldN (spN c) n σ)).2.1 2 ≤ _ ∧ (spN c n (foldN (spN c) n σ)).2.2 = _
    have hq := (ck.2.1 n (by omega)).1.2
    have hn1 := i1 n (by omega)
    have hn2 := hw n (by omega)
    show (∀ p, p < c 0 0 → (spN c n (foldN (spN c) n σ)).1 p ≤ σ.1 p ∧ (p < n + 1 → (spN c n (foldN (spN c) n σ)).1 p ≤ c 1 p * c 2 p)) ∧ _
    generalize foldN (spN c) n σ = y at i1 i2 i3 i4 hn1 ⊢
    unfold spN
    split
    · rename_i b
      refine ⟨fun p hp => ?_, fun k hk => ?_, ?_, i4⟩
      · show upN y.1 n _ p ≤ _ ∧ (p < n + 1 → upN y.1 n _ p ≤ _)
        rw [upN_ap]
        have j := i1 p hp
        by_cases e : p = n
        · subst e
          rw [if_pos rfl]
          exact ⟨by omega, fun _ => Nat.le_refl _⟩
        · rw [if_neg e]
          exact ⟨j.1, fun z => j.2 (by omega)⟩
      · show upN y.2.1 2 _ k = _
        rw [upN_ne hk]; exact i2 k hk
      · show upN y.2.1 2 (y.2.1 2 + (y.1 n - c 1 n * c 2 n)) 2 ≤ _
        rw [upN_eq]; omega
    · rename_i b
      refine ⟨fun p hp => ?_, i2, by omega, i4⟩
      have j := i1 p hp
      by_cases e : p = n
      · subst e
        exact ⟨j.1, fun _ => by omega⟩
      · exact ⟨j.1, fun z => j.2 (by omega)⟩
theorem HN_ok {c : Tb} (ck : CK c) {t r : Nat} (ht : t ≤ 200) {w : Nat → Nat} (hw : WB c w) : (∀ p, p < c 0 0 → (HN c t r w).1 p ≤ c 1 p * c 2 p) ∧ (∀ k, k < 4 → (HN c t r w).2.1 k ≤ 120000) ∧ (∀ i, (HN c t r w).2.2 i ≤ 1000) := by
  obtain ⟨g1, g2, g3, g4, g5⟩ := gt_ok ck ht hw
  unfold HN
  generalize foldN (gtN c t) (c 0 0) (w, fun _ => 0, fun _ => 0) = σ1 at g1 g2 g3 g4 g5 ⊢
  obtain ⟨c1, c2⟩ := ch_ok ck g1 (c 0 1) (Nat.le_refl _)
  generalize foldN (chN c) (c 0 1) σ1 = σ2 at c1 c2 ⊢
  obtain ⟨k1, k2, k3, k4⟩ := rks_ok ck (t := t) (r := r) c1 (by rw [c2]; exact g4 3 (by omega)) (by rw [c2, g5]; intro i; exact Nat.zero_le _)
  generalize foldN (rkN c t r) 10 σ2 = σ3 at k1 k2 k3 k4 ⊢
  obtain ⟨s1, s2, s3, s4⟩ := sp_ok ck k1 (c 0 0) (Nat.le_refl _)
  have h4 := ck.1.1
  refine ⟨fun p hp => (s1 p hp).2 hp, fun k hk => ?_, fun i => by rw [s4]; exact k4 i⟩
  by_cases e2 : k = 2
  · subst e2
    have e : σ3.2.1 2 = 0 := by rw [k2 2 (by omega), c2]; exact g4 2 (by omega)
    omega
  · rw [s2 k e2]
    by_cases e3 : k = 3
    · subst e3; exact k3
    · rw [k2 k e3, c2]
      have : k = 0 ∨ k = 1 := by omega
      rcases this with e | e <;> subst e <;> omega
theorem wb_bk {c : Tb} (ck : CK c) {w : Nat → Nat} (h : ∀ p, p < c 0 0 → w p ≤ c 1 p * c 2 p) : WB c w := fun p hp => by
  have h1 := h p hp
  have h2 := (ck.2.1 p hp).2.1.2
  have h3 : c 1 p * c 2 p ≤ c 1 p * 250 := Nat.mul_le_mul (Nat.le_refl _) h2
  omega
