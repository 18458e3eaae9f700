-- the reference's hour in natural numbers: gates, channels, banks
/-- water and flows -/
def WF (c : Tb) (mt : Bool) (f0 : Nat → Int64) (n : N3) (τ : T8) : Prop := (∀ p, p < c 0 0 → tw τ p = nI (n.1 p)) ∧ (∀ k, tf τ k = f0 k + lN (if mt = true ∧ k < 4 then n.2.1 k else 0))
/-- the other rows -/
def OT (τ τ' : T8) : Prop := to τ' = to τ ∧ ts τ' = ts τ ∧ tr τ' = tr τ ∧ tg τ' = tg τ ∧ tc τ' = tc τ ∧ te τ' = te τ
theorem OT.tr {a b c : T8} (h : OT a b) (k : OT b c) : OT a c := ⟨k.1.trans h.1, k.2.1.trans h.2.1, k.2.2.1.trans h.2.2.1, k.2.2.2.1.trans h.2.2.2.1, k.2.2.2.2.1.trans h.2.2.2.2.1, k.2.2.2.2.2.trans h.2.2.2.2.2⟩
theorem OT.rf {a : T8} : OT a a := ⟨rfl, rfl, rfl, rfl, rfl, rfl⟩
def MT (mt : Bool) (x : Int32) : Prop := mt = true ↔ ¬ x = 0
theorem mtV_N {mt : Bool} {x : Int32} (h : MT mt x) {v : Nat} (hv : v < 2 ^ 31) : mtV x (nI v) = lN (if mt = true then v else 0) := by
  unfold mtV
  by_cases b : x = 0
  · rw [if_pos b, if_neg (fun z => h.mp z b)]; rfl
  · rw [if_neg b, if_pos (h.mpr b), nI_l hv]
theorem WF_flow {mt : Bool} {f0 : Nat → Int64} {n : Nat → Nat} {f : Nat → Int64} {k v : Nat} (hk : k < 4) (h : ∀ k, f k = f0 k + lN (if mt = true ∧ k < 4 then n k else 0)) (j : Nat) : vp_updL f k (f k + lN (if mt = true then v else 0)) j = f0 j + lN (if mt = true ∧ j < 4 then upN n k (n k + v) j else 0) := by
  rw [updL_ap]
  by_cases e : j = k
  · subst e
    rw [if_pos rfl, h j, lN_sum, upN_eq]
    by_cases b : mt = true
    · rw [if_pos ⟨b, hk⟩, if_pos b, if_pos ⟨b, hk⟩]
    · rw [if_neg (fun z => b z.1), if_neg b, if_neg (fun z => b z.1)]
  · rw [if_neg e, h j, upN_ne e]
theorem upN_self {f : Nat → Nat} {k : Nat} : upN f k (f k) = f := by
  funext j
  rw [upN_ap]
  split
  · rename_i e; rw [e]
  · rfl
theorem gtM_rep {h : mM} (q : CF h) {t : Nat} (ht : t ≤ 200) {mt : Bool} {f0 : Nat → Int64} {n : N3} {τ : T8} (hm : MT mt (to τ 36)) (hw : WB (cfg h) n.1) (R : WF (cfg h) mt f0 n τ) {p : Nat} (hp : p < cfg h 0 0) : WF (cfg h) mt f0 (gtN (cfg h) t p n) (gtM (mI h 111) (mI h 113) (mI h 114) (nI t) p τ) ∧ OT τ (gtM (mI h 111) (mI h 113) (mI h 114) (nI t) p τ) := by
  obtain ⟨r1, r2⟩ := R
  obtain ⟨_, c0, c1, c2, c3⟩ := q.p hp
  obtain ⟨k1, k2, k3, k4⟩ := q.1.2.1 p hp
  have w25 := wb_25 k1.2 (hw p hp)
  have hl : n.1 p / cfg h 1 p ≤ n.1 p := Nat.div_le_self _ _
  have ed : tw τ p / mI h 111 p = nI (n.1 p / cfg h 1 p) := by rw [r1 p hp, c0, pk_div (by omega) (by omega) (by omega)]
  have g0 : 0 < mI h 114 p ↔ cfg h 4 p ≠ 0 := by
    rw [c3, show (0 : Int32) = nI 0 from rfl, nI_ltI (by omega) (by omega)]
    omega
  have g2 : mI h 114 p = 2 ↔ cfg h 4 p = 2 := by
    rw [c3]
    exact nI_eq (b := 2) (by omega) (by omega)
  have l1 : nI (n.1 p / cfg h 1 p) < nI t ↔ n.1 p / cfg h 1 p < t := nI_ltI (by omega) (by omega)
  have l2 : nI t < nI (n.1 p / cfg h 1 p) ↔ t < n.1 p / cfg h 1 p := nI_ltI (by omega) (by omega)
  have a2 : cfg h 1 p * t ≤ 100 * 200 := Nat.mul_le_mul k1.2 ht
  have a3 : cfg h 3 p * (t - n.1 p / cfg h 1 p) ≤ 200 * 200 := Nat.mul_le_mul k3 (Nat.le_trans (Nat.sub_le _ _) ht)
  have a4 : cfg h 3 p * (n.1 p / cfg h 1 p - t) ≤ 200 * 25000 := Nat.mul_le_mul k3 (Nat.le_trans (Nat.sub_le _ _) (by omega))
  unfold gtM gtN
  rw [ed]
  by_cases b1 : cfg h 4 p ≠ 0 ∧ n.1 p / cfg h 1 p < t
  · have b1' : 0 < mI h 114 p ∧ nI (n.1 p / cfg h 1 p) < nI t := ⟨g0.mpr b1.1, l1.mpr b1.2⟩
    have ho : goN (cfg h 1 p) (cfg h 3 p) (cfg h 4 p) (n.1 p) t = 0 := by
      unfold goN
      rw [if_neg (by omega)]
    have hi : giN (cfg h 1 p) (cfg h 3 p) (cfg h 4 p) (n.1 p) t = min (cfg h 3 p * (t - n.1 p / cfg h 1 p)) (cfg h 1 p * t - n.1 p) := if_pos b1
    have hlt : n.1 p < cfg h 1 p * t := by rw [Nat.mul_comm]; exact (Nat.div_lt_iff_lt_mul (by omega)).mp b1.2
    have em : minI (mI h 113 p * (nI t - nI (n.1 p / cfg h 1 p))) (-(tw τ p - mI h 111 p * nI t)) = nI (giN (cfg h 1 p) (cfg h 3 p) (cfg h 4 p) (n.1 p) t) := by
      unfold minI
      rw [hi, r1 p hp, c0, c2, Int32.neg_sub, pk_mul, pk_sub (Nat.le_of_lt hlt), pk_sub (Nat.le_of_lt b1.2), pk_mul, nI_min (by omega) (by omega)]
    have i25 := (in_le (a := cfg h 1 p) (wd := cfg h 3 p) (gt := cfg h 4 p) (w := n.1 p) ht k1.2).1
    rw [if_pos b1', em, ho, Nat.sub_zero, Nat.add_zero]
    refine ⟨⟨fun x hx => ?_, fun k => ?_⟩, OT.rf⟩
    · show upd (tw τ) p (tw τ p + nI _) x = nI (upN n.1 p _ x)
      rw [r1 p hp, nI_add]
      exact upd_nI (r1 x hx)
    · show vp_updL (tf τ) 0 (tf τ 0 + mtV (to τ 36) (nI _)) k = _
      rw [mtV_N hm (by omega), WF_flow (by omega) r2]
      show _ = f0 k + lN (if mt = true ∧ k < 4 then upN (upN n.2.1 0 _) 1 (n.2.1 1) k else 0)
      rw [show upN (upN n.2.1 0 (n.2.1 0 + giN (cfg h 1 p) (cfg h 3 p) (cfg h 4 p) (n.1 p) t)) 1 (n.2.1 1) = upN n.2.1 0 (n.2.1 0 + giN (cfg h 1 p) (cfg h 3 p) (cfg h 4 p) (n.1 p) t) from upN_self]
  · have b1' : ¬ (0 < mI h 114 p ∧ nI (n.1 p / cfg h 1 p) < nI t) := fun z => b1 ⟨g0.mp z.1, l1.mp z.2⟩
    have hi : giN (cfg h 1 p) (cfg h 3 p) (cfg h 4 p) (n.1 p) t = 0 := if_neg b1
    rw [if_neg b1', hi]
    by_cases b2 : cfg h 4 p = 2 ∧ t < n.1 p / cfg h 1 p
    · have b2' : mI h 114 p = 2 ∧ nI t < nI (n.1 p / cfg h 1 p) := ⟨g2.mpr b2.1, l2.mpr b2.2⟩
      have ho : goN (cfg h 1 p) (cfg h 3 p) (cfg h 4 p) (n.1 p) t = min (cfg h 3 p * (n.1 p / cfg h 1 p - t)) (n.1 p - cfg h 1 p * t) := if_pos b2
      have hle : cfg h 1 p * t ≤ n.1 p := by
        have := (Nat.le_div_iff_mul_le (k := cfg h 1 p) (x := t) (y := n.1 p) (by omega)).mp (by omega)
        rw [Nat.mul_comm]; exact this
      have em : minI (mI h 113 p * (nI (n.1 p / cfg h 1 p) - nI t)) (tw τ p - mI h 111 p * nI t) = nI (goN (cfg h 1 p) (cfg h 3 p) (cfg h 4 p) (n.1 p) t) := by
        unfold minI
        rw [ho, r1 p hp, c0, c2, pk_mul, pk_sub hle, pk_sub (Nat.le_of_lt b2.2), pk_mul, nI_min (by omega) (by omega)]
      have o25 := out_le (a := cfg h 1 p) (wd := cfg h 3 p) (gt := cfg h 4 p) (w := n.1 p) (t := t) w25
      rw [if_pos b2', em, Nat.add_zero]
      refine ⟨⟨fun x hx => ?_, fun k => ?_⟩, OT.rf⟩
      · show upd (tw τ) p (tw τ p - nI _) x = nI (upN n.1 p _ x)
        rw [r1 p hp, pk_sub (by omega)]
        exact upd_nI (r1 x hx)
      · show vp_updL (tf τ) 1 (tf τ 1 + mtV (to τ 36) (nI _)) k = _
        rw [mtV_N hm (by omega), WF_flow (by omega) r2]
        show _ = f0 k + lN (if mt = true ∧ k < 4 then upN (upN n.2.1 0 (n.2.1 0)) 1 _ k else 0)
        rw [upN_self]
    · have b2' : ¬ (mI h 114 p = 2 ∧ nI t < nI (n.1 p / cfg h 1 p)) := fun z => b2 ⟨g2.mp z.1, l2.mp z.2⟩
      have ho : goN (cfg h 1 p) (cfg h 3 p) (cfg h 4 p) (n.1 p) t = 0 := if_neg b2
      rw [if_neg b2']
      simp only [ho, Nat.add_zero, Nat.sub_zero, upN_self]
      exact ⟨⟨r1, r2⟩, OT.rf⟩
theorem div_M {h : mM} (q : CF h) {n : Nat → Nat} {w : Nat → Int32} (hw : WB (cfg h) n) (r1 : ∀ p, p < cfg h 0 0 → w p = nI (n p)) {x : Nat} (hx : x < cfg h 0 0) : w x / mI h 111 x = nI (n x / cfg h 1 x) := by
  have kx := (q.1.2.1 x hx).1
  have wx := hw x hx
  rw [r1 x hx, (q.p hx).2.1, pk_div (by omega) (by omega) (by omega)]
theorem evF_rep {h : mM} (q : CF h) {x y k : Nat} (hx : x < cfg h 0 0) (hy : y < cfg h 0 0) (hk : k < cfg h 0 1) {n : Nat → Nat} {w : Nat → Int32} (hw : WB (cfg h) n) (r1 : ∀ p, p < cfg h 0 0 → w p = nI (n p)) {p : Nat} (hp : p < cfg h 0 0) : evF (mI h 111) (mI h 118 k) x y w p = nI ((if n y / cfg h 1 y < n x / cfg h 1 x then ldN (cfg h) k x y n else n) p) := by
  have cx := (q.p hx).2.1
  have cy := (q.p hy).2.1
  have kx := (q.1.2.1 x hx).1
  have ky := (q.1.2.1 y hy).1
  have kc := (q.1.2.2.1 k hk).2.2.2
  have kk := (q.k hk).2.2.2
  have wx := hw x hx
  have wy := hw y hy
  have l1 : n x / cfg h 1 x ≤ n x := Nat.div_le_self _ _
  have l3 : n y / cfg h 1 y ≤ n y := Nat.div_le_self _ _
  have l2 : cfg h 7 k * (n x / cfg h 1 x - n y / cfg h 1 y) ≤ 200 * 25000 := Nat.mul_le_mul kc (Nat.le_trans (Nat.sub_le _ _) (Nat.le_trans l1 (wb_25 kx.2 wx)))
  have pl := pt_le (c := cfg h) (k := k) (x := x) (y := y) (w := n) (by omega) wx wy
  have ez : nI (n x / cfg h 1 x) - nI (n y / cfg h 1 y) ≤ 0 ↔ n x / cfg h 1 x ≤ n y / cfg h 1 y := nI_sub0 (by omega) (by omega)
  unfold evF
  rw [div_M q hw r1 hx, div_M q hw r1 hy]
  by_cases b : n y / cfg h 1 y < n x / cfg h 1 x
  · rw [if_pos b, if_neg (fun z => by have := ez.mp z; omega)]
    unfold minI ldN
    rw [cx, cy, kk, r1 x hx, r1 y hy, pk_sub (Nat.le_of_lt b), pk_mul (cfg h 7 k), lead_N kx ky wx wy b (by omega)]
    show upd (upd w x (nI (n x) - nI (ptN (cfg h) k x y n))) y (nI (n y) + nI (ptN (cfg h) k x y n)) p = _
    rw [pk_sub pl.1, nI_add]
    exact upd_nI (upd_nI (r1 p hp))
  · rw [if_neg b, if_pos (ez.mpr (by omega))]
    exact r1 p hp
theorem chM_rep {h : mM} (q : CF h) {mt : Bool} {f0 : Nat → Int64} {n : N3} {τ : T8} (hw : WB (cfg h) n.1) (R : WF (cfg h) mt f0 n τ) {k : Nat} (hk : k < cfg h 0 1) : WF (cfg h) mt f0 (chN (cfg h) k n) (chM (mI h 111) (cfg h 5) (cfg h 6) (mI h 118) k τ) ∧ OT τ (chM (mI h 111) (cfg h 5) (cfg h 6) (mI h 118) k τ) := by
  obtain ⟨r1, r2⟩ := R
  obtain ⟨ka, kb, kab, kc⟩ := q.1.2.2.1 k hk
  have ea := div_M q hw r1 ka
  have eb := div_M q hw r1 kb
  have wa := hw _ ka
  have wb := hw _ kb
  have ca := (q.1.2.1 _ ka).1
  have cb := (q.1.2.1 _ kb).1
  have la : n.1 (cfg h 5 k) / cfg h 1 (cfg h 5 k) ≤ n.1 (cfg h 5 k) := Nat.div_le_self _ _
  have lb : n.1 (cfg h 6 k) / cfg h 1 (cfg h 6 k) ≤ n.1 (cfg h 6 k) := Nat.div_le_self _ _
  have v1 := fun p (hp : p < cfg h 0 0) => evF_rep q ka kb hk hw r1 hp
  have v2 := fun p (hp : p < cfg h 0 0) => evF_rep q kb ka hk hw r1 hp
  unfold chM
  rw [ea, eb]
  by_cases b1 : n.1 (cfg h 6 k) / cfg h 1 (cfg h 6 k) < n.1 (cfg h 5 k) / cfg h 1 (cfg h 5 k)
  · rw [if_pos (nI_lt b1 (by omega))]
    refine ⟨⟨fun p hp => ?_, r2⟩, OT.rf⟩
    show evF _ _ _ _ _ p = nI ((ite _ _ _ : Nat → Nat) p)
    rw [v1 p hp, if_pos b1, if_pos b1]
  · rw [if_neg (nI_nlt (by omega) (by omega))]
    refine ⟨⟨fun p hp => ?_, r2⟩, OT.rf⟩
    show evF _ _ _ _ _ p = nI ((ite _ _ _ : Nat → Nat) p)
    rw [v2 p hp, if_neg b1]
theorem spM_rep {h : mM} (q : CF h) {mt : Bool} {f0 : Nat → Int64} {n : N3} {τ : T8} (hm : MT mt (to τ 36)) (hw : WB (cfg h) n.1) (R : WF (cfg h) mt f0 n τ) {p : Nat} (hp : p < cfg h 0 0) : WF (cfg h) mt f0 (spN (cfg h) p n) (spM (mI h 111) (mI h 112) p τ) ∧ OT τ (spM (mI h 111) (mI h 112) p τ) := by
  obtain ⟨r1, r2⟩ := R
  obtain ⟨_, c0, c1, c2, c3⟩ := q.p hp
  have k := q.1.2.1 p hp
  have w1 := wb_25 k.1.2 (hw p hp)
  have a1 : cfg h 1 p * cfg h 2 p ≤ 100 * 250 := Nat.mul_le_mul k.1.2 k.2.1.2
  have ez : nI (n.1 p) - nI (cfg h 1 p * cfg h 2 p) ≤ 0 ↔ n.1 p ≤ cfg h 1 p * cfg h 2 p := nI_sub0 (by omega) (by omega)
  refine ⟨?_, OT.rf⟩
  unfold spM spN
  rw [c0, c1, r1 p hp, pk_mul]
  by_cases b : cfg h 1 p * cfg h 2 p < n.1 p
  · have em : mxI 0 (nI (n.1 p) - nI (cfg h 1 p * cfg h 2 p)) = nI (n.1 p - cfg h 1 p * cfg h 2 p) := by
      unfold mxI
      rw [if_pos (Int32.not_le.mp (fun z => by have := ez.mp z; omega)), pk_sub (by omega)]
    have e : n.1 p - (n.1 p - cfg h 1 p * cfg h 2 p) = cfg h 1 p * cfg h 2 p := by omega
    rw [if_pos b, em, pk_sub (by omega), e]
    refine ⟨fun x hx => upd_nI (r1 x hx), fun j => ?_⟩
    show vp_updL (tf τ) 2 (tf τ 2 + mtV (to τ 36) (nI _)) j = _
    rw [mtV_N hm (by omega), WF_flow (by omega) r2]
  · have em : mxI 0 (nI (n.1 p) - nI (cfg h 1 p * cfg h 2 p)) = nI 0 := by
      unfold mxI
      rw [if_neg (Int32.not_lt.mpr (ez.mpr (by omega)))]
      rfl
    rw [if_neg b, em, pk_sub (by omega), Nat.sub_zero]
    refine ⟨fun x hx => ?_, fun j => ?_⟩
    · show upd (tw τ) p _ x = _
      rw [upd_self (r1 p hp)]
      exact r1 x hx
    · show vp_updL (tf τ) 2 (tf τ 2 + mtV (to τ 36) (nI _)) j = _
      rw [mtV_N hm (by omega), WF_flow (by omega) r2, Nat.add_zero, upN_self]
