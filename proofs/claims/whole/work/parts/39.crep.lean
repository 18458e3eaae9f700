-- what the landed file's hour makes, in natural numbers
def cN (x : Int32) : Nat := x.toNatClampNeg
def cfg (h : mM) (a b : Nat) : Nat := match a with
  | 0 => if b = 0 then cN (mI h 109 3) else if b = 1 then cN (mI h 109 9) else cN (mI h 109 13)
  | 1 => cN (mI h 111 b)
  | 2 => cN (mI h 112 b)
  | 3 => cN (mI h 113 b)
  | 4 => cN (mI h 114 b)
  | 5 => cN (mI h 116 b)
  | 6 => cN (mI h 117 b)
  | 7 => cN (mI h 118 b)
  | 8 => cN (mI h 119 b)
  | 9 => cN (mI h 120 b)
  | 10 => cN (mI h 121 b)
  | 11 => cN (mI h 122 b)
  | 12 => cN (mI h 123 b)
  | 13 => cN (mI h 124 b)
  | 14 => cN (mI h 8 b)
  | 15 => cN (mI h 125 b)
  | 16 => cN (mI h 126 b)
  | 17 => cN (mI h 127 b)
  | 18 => cN (mI h 128 b)
  | _ => cN (onM (mI h 109 24) b)
/-- the order of the mills is by rank, then by number -/
def ORD (c : Tb) : Prop := ∀ (S : Type) (f : Nat → S → S) (x : S), foldN (fun i => f (c 14 i)) (c 0 2) x = foldN (fun k y => foldN (fun m z => if c 10 m = k then f m z else z) (c 0 2) y) 10 x
/-- what is built is the same on both sides -/
def CF (h : mM) : Prop := CK (cfg h) ∧ (mI h 4 4 = mI h 109 3 ∧ mI h 4 5 = mI h 109 9 ∧ mI h 4 6 = mI h 109 13) ∧ (mI h 109 3 = nI (cfg h 0 0) ∧ mI h 109 9 = nI (cfg h 0 1) ∧ mI h 109 13 = nI (cfg h 0 2)) ∧
  (∀ p, p < cfg h 0 0 → ∀ j, j < 4 → mI h (9 + p) j = mI h (111 + j) p ∧ mI h (111 + j) p = nI (cfg h (1 + j) p)) ∧
  (∀ k, k < cfg h 0 1 → ∀ j, j < 3 → mI h (13 + k) j = mI h (116 + j) k ∧ mI h (116 + j) k = nI (cfg h (5 + j) k)) ∧
  (∀ m, m < cfg h 0 2 → ∀ j, j < 6 → mI h (17 + 18 * m) (2 + j) = mI h (119 + j) m ∧ mI h (119 + j) m = nI (cfg h (8 + j) m)) ∧
  (∀ m s, m < cfg h 0 2 → s < cfg h 13 m → (∀ j, j < 4 → mI h (20 + 18 * m + s) j = mI h (125 + j) (3 * m + s) ∧ mI h (125 + j) (3 * m + s) = nI (cfg h (15 + j) (3 * m + s))) ∧ mI h (20 + 18 * m + s) 4 = onM (mI h 109 24) (3 * m + s) ∧ onM (mI h 109 24) (3 * m + s) = nI (cfg h 19 (3 * m + s))) ∧
  (∀ i, i < cfg h 0 2 → mI h 8 i = nI (cfg h 14 i) ∧ cfg h 14 i < cfg h 0 2) ∧ ORD (cfg h)
theorem CF.p {h : mM} (q : CF h) {p : Nat} (hp : p < cfg h 0 0) : (mI h (9 + p) 0 = nI (cfg h 1 p) ∧ mI h (9 + p) 1 = nI (cfg h 2 p) ∧ mI h (9 + p) 2 = nI (cfg h 3 p) ∧ mI h (9 + p) 3 = nI (cfg h 4 p)) ∧ (mI h 111 p = nI (cfg h 1 p) ∧ mI h 112 p = nI (cfg h 2 p) ∧ mI h 113 p = nI (cfg h 3 p) ∧ mI h 114 p = nI (cfg h 4 p)) := by
  have e := q.2.2.2.1 p hp
  have e0 := e 0 (by omega)
  have e1 := e 1 (by omega)
  have e2 := e 2 (by omega)
  have e3 := e 3 (by omega)
  exact ⟨⟨e0.1.trans e0.2, e1.1.trans e1.2, e2.1.trans e2.2, e3.1.trans e3.2⟩, ⟨e0.2, e1.2, e2.2, e3.2⟩⟩
theorem CF.k {h : mM} (q : CF h) {p : Nat} (hp : p < cfg h 0 1) : (mI h (13 + p) 0 = nI (cfg h 5 p) ∧ mI h (13 + p) 1 = nI (cfg h 6 p) ∧ mI h (13 + p) 2 = nI (cfg h 7 p)) ∧ (mI h 116 p = nI (cfg h 5 p) ∧ mI h 117 p = nI (cfg h 6 p) ∧ mI h 118 p = nI (cfg h 7 p)) := by
  have e := q.2.2.2.2.1 p hp
  have e0 := e 0 (by omega)
  have e1 := e 1 (by omega)
  have e2 := e 2 (by omega)
  exact ⟨⟨e0.1.trans e0.2, e1.1.trans e1.2, e2.1.trans e2.2⟩, ⟨e0.2, e1.2, e2.2⟩⟩
theorem CF.m {h : mM} (q : CF h) {m : Nat} (hm : m < cfg h 0 2) : (mI h (17 + 18 * m) 2 = nI (cfg h 8 m) ∧ mI h (17 + 18 * m) 3 = nI (cfg h 9 m) ∧ mI h (17 + 18 * m) 4 = nI (cfg h 10 m) ∧ mI h (17 + 18 * m) 5 = nI (cfg h 11 m) ∧ mI h (17 + 18 * m) 6 = nI (cfg h 12 m) ∧ mI h (17 + 18 * m) 7 = nI (cfg h 13 m)) ∧ (mI h 119 m = nI (cfg h 8 m) ∧ mI h 120 m = nI (cfg h 9 m) ∧ mI h 121 m = nI (cfg h 10 m) ∧ mI h 122 m = nI (cfg h 11 m) ∧ mI h 123 m = nI (cfg h 12 m) ∧ mI h 124 m = nI (cfg h 13 m)) := by
  have e := q.2.2.2.2.2.1 m hm
  have e0 := e 0 (by omega)
  have e1 := e 1 (by omega)
  have e2 := e 2 (by omega)
  have e3 := e 3 (by omega)
  have e4 := e 4 (by omega)
  have e5 := e 5 (by omega)
  exact ⟨⟨e0.1.trans e0.2, e1.1.trans e1.2, e2.1.trans e2.2, e3.1.trans e3.2, e4.1.trans e4.2, e5.1.trans e5.2⟩, ⟨e0.2, e1.2, e2.2, e3.2, e4.2, e5.2⟩⟩
theorem CF.s {h : mM} (q : CF h) {m s : Nat} (hm : m < cfg h 0 2) (hs : s < cfg h 13 m) : (stC h m s 0 = nI (cfg h 15 (3 * m + s)) ∧ stC h m s 1 = nI (cfg h 16 (3 * m + s)) ∧ stC h m s 2 = nI (cfg h 17 (3 * m + s)) ∧ stC h m s 3 = nI (cfg h 18 (3 * m + s)) ∧ stC h m s 4 = nI (cfg h 19 (3 * m + s))) ∧ (mI h 125 (3 * m + s) = nI (cfg h 15 (3 * m + s)) ∧ mI h 126 (3 * m + s) = nI (cfg h 16 (3 * m + s)) ∧ mI h 127 (3 * m + s) = nI (cfg h 17 (3 * m + s)) ∧ mI h 128 (3 * m + s) = nI (cfg h 18 (3 * m + s)) ∧ onM (mI h 109 24) (3 * m + s) = nI (cfg h 19 (3 * m + s))) := by
  have e := q.2.2.2.2.2.2.1 m s hm hs
  have e0 := e.1 0 (by omega)
  have e1 := e.1 1 (by omega)
  have e2 := e.1 2 (by omega)
  have e3 := e.1 3 (by omega)
  exact ⟨⟨e0.1.trans e0.2, e1.1.trans e1.2, e2.1.trans e2.2, e3.1.trans e3.2, e.2.1.trans e.2.2⟩, ⟨e0.2, e1.2, e2.2, e3.2, e.2.2⟩⟩
theorem CF.c {h : mM} (q : CF h) : (mI h 4 4 = nI (cfg h 0 0) ∧ mI h 4 5 = nI (cfg h 0 1) ∧ mI h 4 6 = nI (cfg h 0 2)) ∧ (mI h 109 3 = nI (cfg h 0 0) ∧ mI h 109 9 = nI (cfg h 0 1) ∧ mI h 109 13 = nI (cfg h 0 2)) := by
  obtain ⟨a1, a2, a3⟩ := q.2.1
  obtain ⟨b1, b2, b3⟩ := q.2.2.1
  exact ⟨⟨a1.trans b1, a2.trans b2, a3.trans b3⟩, b1, b2, b3⟩
theorem nI_0lt {n : Nat} (h0 : 1 ≤ n) (h : n < 2 ^ 31) : (0 : Int32) < nI n := nI_lt (a := 0) (by omega) h
theorem CF.PR {h : mM} (q : CF h) : PR h (cfg h 0 0) (cfg h 0 1) (cfg h 0 2) (cfg h 5) (cfg h 6) (cfg h 9) (cfg h 13) (cfg h 14) := by
  obtain ⟨⟨a1, a2, a3⟩, b⟩ := q.c
  have ck := q.1
  refine ⟨⟨a1, ck.1.1⟩, ⟨a2, ck.1.2.1⟩, ⟨a3, ck.1.2.2⟩, fun p hp => ?_, fun x y hx hy => ?_, fun k hk => ?_, fun m hm => ?_, q.2.2.2.2.2.2.2.1⟩
  · rw [(q.p hp).1.1]
    have := ck.2.1 p hp
    exact nI_0lt this.1.1 (by omega)
  · rw [(q.p hx).1.1, (q.p hy).1.1, nI_add]
    have := ck.2.1 x hx
    have := ck.2.1 y hy
    exact nI_0lt (by omega) (by omega)
  · have := (q.k hk).1
    have z := ck.2.2.1 k hk
    exact ⟨this.1, this.2.1, z.1, z.2.1, z.2.2.1⟩
  · have := (q.m hm).1
    have z := ck.2.2.2.1 m hm
    exact ⟨this.2.1, z.2.1, this.2.2.2.2.2, z.2.2.2.2.2⟩
theorem CF.PM {h : mM} (q : CF h) : PMr h (cfg h 0 0) (cfg h 0 1) (cfg h 0 2) (cfg h 5) (cfg h 6) (cfg h 9) (cfg h 13) := by
  have ck := q.1
  refine ⟨ck.1.1, ck.1.2.1, ck.1.2.2, fun p hp => ?_, fun x y hx hy => ?_, fun k hk => ?_, fun m hm => ?_⟩
  · rw [(q.p hp).2.1]
    have := ck.2.1 p hp
    exact nI_0lt this.1.1 (by omega)
  · rw [(q.p hx).2.1, (q.p hy).2.1, nI_add]
    have := ck.2.1 x hx
    have := ck.2.1 y hy
    exact nI_ne0 (by omega) (by omega)
  · have := (q.k hk).2
    have z := ck.2.2.1 k hk
    exact ⟨this.1, this.2.1, z.1, z.2.1, z.2.2.1⟩
  · have := (q.m hm).2
    have z := ck.2.2.2.1 m hm
    exact ⟨this.2.1, z.2.1, this.2.2.2.2.2, z.2.2.2.2.2⟩
theorem nI_min {a b : Nat} (ha : a < 2 ^ 31) (hb : b < 2 ^ 31) : (if nI b < nI a then nI b else nI a) = nI (min a b) := by
  by_cases q : b < a
  · rw [if_pos (nI_lt q ha), Nat.min_eq_right (by omega)]
  · rw [if_neg (nI_nlt (by omega) hb), Nat.min_eq_left (by omega)]
theorem nI_sub0 {a b : Nat} (ha : a < 2 ^ 30) (hb : b < 2 ^ 30) : (nI a - nI b ≤ 0) ↔ a ≤ b := by
  rw [Int32.le_iff_toInt_le, pk_sub_toInt ha hb]
  show (a : Int) - b ≤ 0 ↔ _
  omega
theorem inF_N {a wd gt w t : Nat} (ha : 1 ≤ a ∧ a ≤ 100) (hd : wd ≤ 200) (hg : gt ≤ 2) (hw : w ≤ 25000) (ht : t ≤ 200) : inF (nI a) (nI wd) (nI gt) (nI w) (nI t) = nI (giN a wd gt w t) := by
  have hl : w / a ≤ w := Nat.div_le_self w a
  have ez : nI t - nI (w / a) ≤ 0 ↔ t ≤ w / a := nI_sub0 (by omega) (by omega)
  unfold inF giN
  rw [pk_div (by omega) (by omega) (by omega)]
  by_cases g0 : gt = 0
  · subst g0
    rw [if_pos nI_0, if_neg (fun z => z.1 rfl)]
    rfl
  · rw [if_neg (nI_ne0 (by omega) (by omega))]
    by_cases b : t ≤ w / a
    · rw [if_pos (ez.mpr b), if_neg (fun z => by omega)]
      rfl
    · have b1 : ¬ nI t - nI (w / a) ≤ 0 := fun z => b (ez.mp z)
      have b2 : gt ≠ 0 ∧ w / a < t := ⟨g0, by omega⟩
      rw [if_neg b1, if_pos b2]
      have h1 : w < a * t := by rw [Nat.mul_comm]; exact (Nat.div_lt_iff_lt_mul (by omega)).mp (by omega)
      have h2 : a * t ≤ 100 * 200 := Nat.mul_le_mul ha.2 ht
      have h3 : wd * (t - w / a) ≤ 200 * 200 := Nat.mul_le_mul hd (Nat.le_trans (Nat.sub_le _ _) ht)
      rw [pk_mul, pk_sub (Nat.le_of_lt h1), pk_sub (by omega), pk_mul, nI_min (by omega) (by omega)]
theorem outF_N {a wd gt w t : Nat} (ha : 1 ≤ a ∧ a ≤ 100) (hd : wd ≤ 200) (hg : gt ≤ 2) (hw : w ≤ 25000) (ht : t ≤ 200) : outF (nI a) (nI wd) (nI gt) (nI w) (nI t) = nI (goN a wd gt w t) := by
  have hl : w / a ≤ w := Nat.div_le_self w a
  have ez : nI (w / a) - nI t ≤ 0 ↔ w / a ≤ t := nI_sub0 (by omega) (by omega)
  unfold outF goN
  rw [pk_div (by omega) (by omega) (by omega)]
  by_cases g0 : gt = 2
  · subst g0
    rw [if_neg (fun z => z rfl)]
    by_cases b : w / a ≤ t
    · rw [if_pos (ez.mpr b), if_neg (fun z => by omega)]
      rfl
    · have b1 : ¬ nI (w / a) - nI t ≤ 0 := fun z => b (ez.mp z)
      have b2 : 2 = 2 ∧ t < w / a := ⟨rfl, by omega⟩
      rw [if_neg b1, if_pos b2]
      have h1 : a * t ≤ w := by
        have := (Nat.le_div_iff_mul_le (k := a) (x := t) (y := w) (by omega)).mp (by omega)
        rw [Nat.mul_comm]; exact this
      have h3 : wd * (w / a - t) ≤ 200 * 25000 := Nat.mul_le_mul hd (Nat.le_trans (Nat.sub_le _ _) (by omega))
      rw [pk_mul, pk_sub h1, pk_sub (by omega), pk_mul, nI_min (by omega) (by omega)]
  · have b1 : ¬ nI gt = 2 := nI_ne (b := 2) g0 (by omega) (by omega)
    rw [if_pos b1, if_neg (fun z => g0 z.1)]
    rfl
/-- the class's rows hold these numbers -/
def RC (c : Tb) (n : N3) (σ : S3) : Prop := (∀ p, p < c 0 0 → σ.1 p = nI (n.1 p)) ∧ (∀ k, k < 4 → σ.2.1 (2 + k) = nI (n.2.1 k)) ∧ (∀ i, i < 12 → σ.2.2 i = nI (n.2.2 i))
def RC2 (c : Tb) (n : N3) (σ : S3) : Prop := (∀ p, p < c 0 0 → σ.1 p = nI (n.1 p)) ∧ (∀ k, k < 4 → σ.2.1 (2 + k) = nI (n.2.1 k))
theorem upd_nI {f : Nat → Int32} {g : Nat → Nat} {p v j : Nat} (h : f j = nI (g j)) : upd f p (nI v) j = nI (upN g p v j) := by
  rw [upd_ap, upN_ap]
  split
  · rfl
  · exact h
theorem gt_rep {h : mM} (q : CF h) {t : Nat} (ht : t ≤ 200) {n : N3} {σ : S3} (hw : WB (cfg h) n.1) (R : RC2 (cfg h) n σ) {p : Nat} (hp : p < cfg h 0 0) : RC2 (cfg h) (gtN (cfg h) t p n) (gtS (arC h) (wdC h) (gtC h) (nI t) p σ) := by
  obtain ⟨r1, r2⟩ := R
  obtain ⟨⟨c0, c1, c2, c3⟩, _⟩ := q.p hp
  obtain ⟨k1, k2, k3, k4⟩ := q.1.2.1 p hp
  have w1 := hw p hp
  have w25 := wb_25 k1.2 w1
  have ei : inF (arC h p) (wdC h p) (gtC h p) (σ.1 p) (nI t) = nI (giN (cfg h 1 p) (cfg h 3 p) (cfg h 4 p) (n.1 p) t) := by
    unfold arC wdC gtC
    rw [c0, c2, c3, r1 p hp, inF_N k1 k3 k4 w25 ht]
  have eo : outF (arC h p) (wdC h p) (gtC h p) (σ.1 p) (nI t) = nI (goN (cfg h 1 p) (cfg h 3 p) (cfg h 4 p) (n.1 p) t) := by
    unfold arC wdC gtC
    rw [c0, c2, c3, r1 p hp, outF_N k1 k3 k4 w25 ht]
  have o1 := (out_le (a := cfg h 1 p) (wd := cfg h 3 p) (gt := cfg h 4 p) (t := t) w25).2
  unfold gtS gtN
  rw [ei, eo]
  refine ⟨fun x hx => ?_, fun k hk => ?_⟩
  · show upd σ.1 p (σ.1 p + (nI _ - nI _)) x = nI (upN n.1 p _ x)
    have e : σ.1 p + (nI (giN (cfg h 1 p) (cfg h 3 p) (cfg h 4 p) (n.1 p) t) - nI (goN (cfg h 1 p) (cfg h 3 p) (cfg h 4 p) (n.1 p) t)) = nI (n.1 p + giN (cfg h 1 p) (cfg h 3 p) (cfg h 4 p) (n.1 p) t - goN (cfg h 1 p) (cfg h 3 p) (cfg h 4 p) (n.1 p) t) := by
      rw [r1 p hp, ← pk_sub (by omega), ← nI_add, Int32.sub_eq_add_neg, Int32.sub_eq_add_neg, Int32.add_assoc]
    rw [e]
    exact upd_nI (r1 x hx)
  · show upd (upd σ.2.1 2 _) 3 _ (2 + k) = nI (upN (upN n.2.1 0 _) 1 _ k)
    have a2 := r2 0 (by omega)
    have a3 := r2 1 (by omega)
    rw [show σ.2.1 2 = nI (n.2.1 0) from a2, show σ.2.1 3 = nI (n.2.1 1) from a3, nI_add, nI_add]
    simp only [upd_ap, upN_ap]
    by_cases e1 : k = 1
    · subst e1; rfl
    · rw [if_neg (by omega), if_neg e1]
      by_cases e0 : k = 0
      · subst e0; rfl
      · rw [if_neg (by omega), if_neg e0]
        exact r2 k hk
theorem lead_N {wx wy ax ay at_ : Nat} (hx : 1 ≤ ax ∧ ax ≤ 100) (hy : 1 ≤ ay ∧ ay ≤ 100) (bx : wx ≤ 250 * ax) (by_ : wy ≤ 250 * ay) (hl : wy / ay < wx / ax) (ha : at_ < 2 ^ 31) : (if (nI wx * nI ay - nI wy * nI ax) / (nI ax + nI ay) < nI at_ then (nI wx * nI ay - nI wy * nI ax) / (nI ax + nI ay) else nI at_) = nI (min at_ ((wx * ay - wy * ax) / (ax + ay))) := by
  have h1 : wy * ax ≤ wx * ay := by
    have z1 : wy < (wy / ay + 1) * ay := by
      have := Nat.div_add_mod wy ay
      have := Nat.mod_lt wy (show 0 < ay by omega)
      rw [Nat.add_mul, Nat.mul_comm (wy / ay) ay]
      omega
    have z2 : wx / ax * ax ≤ wx := Nat.div_mul_le_self wx ax
    have z3 : wy * ax ≤ (wy / ay + 1) * ay * ax := Nat.mul_le_mul (Nat.le_of_lt z1) (Nat.le_refl ax)
    have z4 : (wy / ay + 1) * ay * ax ≤ wx / ax * ay * ax := Nat.mul_le_mul (Nat.mul_le_mul hl (Nat.le_refl ay)) (Nat.le_refl ax)
    have z5 : wx / ax * ay * ax = wx / ax * ax * ay := by rw [Nat.mul_assoc, Nat.mul_comm ay, ← Nat.mul_assoc]
    have z6 : wx / ax * ax * ay ≤ wx * ay := Nat.mul_le_mul z2 (Nat.le_refl ay)
    omega
  have h2 : wx * ay ≤ 25000 * 100 := Nat.mul_le_mul (by omega) hy.2
  have h3 : (wx * ay - wy * ax) / (ax + ay) ≤ wx * ay - wy * ax := Nat.div_le_self _ _
  rw [pk_mul, pk_mul, pk_sub h1, nI_add, pk_div (by omega) (by omega) (by omega), nI_min ha (by omega)]
theorem lead_rep {h : mM} (q : CF h) {x y k : Nat} (hx : x < cfg h 0 0) (hy : y < cfg h 0 0) (hxy : x ≠ y) (hk : k < cfg h 0 1) {n : Nat → Nat} {w : Nat → Int32} (hw : WB (cfg h) n) (r1 : ∀ p, p < cfg h 0 0 → w p = nI (n p)) (hl : n y / cfg h 1 y < n x / cfg h 1 x) {p : Nat} (hp : p < cfg h 0 0) : leadF (arC h x) (arC h y) (cwC h k * (nI (n x / cfg h 1 x) - nI (n y / cfg h 1 y))) x y w p = nI (ldN (cfg h) k x y n p) := by
  obtain ⟨⟨cx, _⟩, _⟩ := q.p hx
  obtain ⟨⟨cy, _⟩, _⟩ := q.p hy
  have kx := (q.1.2.1 x hx).1
  have ky := (q.1.2.1 y hy).1
  have kc := (q.1.2.2.1 k hk).2.2.2
  have kk := (q.k hk).1.2.2
  have wx := hw x hx
  have wy := hw y hy
  have l1 : n x / cfg h 1 x ≤ n x := Nat.div_le_self _ _
  have l2 : cfg h 7 k * (n x / cfg h 1 x - n y / cfg h 1 y) ≤ 200 * 25000 := Nat.mul_le_mul kc (Nat.le_trans (Nat.sub_le _ _) (Nat.le_trans l1 (wb_25 kx.2 wx)))
  have pl := pt_le (c := cfg h) (k := k) (x := x) (y := y) (w := n) (by omega) wx wy
  unfold leadF ldN arC cwC
  rw [cx, cy, kk, r1 x hx, r1 y hy, pk_sub (Nat.le_of_lt hl), pk_mul (cfg h 7 k), lead_N kx ky wx wy hl (by omega)]
  show upd (upd w x (nI (n x) - nI (ptN (cfg h) k x y n))) y (nI (n y) + nI (ptN (cfg h) k x y n)) p = _
  rw [pk_sub pl.1, nI_add]
  exact upd_nI (upd_nI (r1 p hp))
theorem div_N {h : mM} (q : CF h) {n : Nat → Nat} {w : Nat → Int32} (hw : WB (cfg h) n) (r1 : ∀ p, p < cfg h 0 0 → w p = nI (n p)) {x : Nat} (hx : x < cfg h 0 0) : w x / arC h x = nI (n x / cfg h 1 x) := by
  have kx := (q.1.2.1 x hx).1
  have wx := hw x hx
  unfold arC
  rw [r1 x hx, (q.p hx).1.1, pk_div (by omega) (by omega) (by omega)]
theorem ch_rep {h : mM} (q : CF h) {n : N3} {σ : S3} (hw : WB (cfg h) n.1) (R : RC2 (cfg h) n σ) {k : Nat} (hk : k < cfg h 0 1) : RC2 (cfg h) (chN (cfg h) k n) (chS (arC h) (cfg h 5) (cfg h 6) (cwC h) k σ) := by
  obtain ⟨r1, r2⟩ := R
  obtain ⟨ka, kb, kab, kc⟩ := q.1.2.2.1 k hk
  have ea := div_N q hw r1 ka
  have eb := div_N q hw r1 kb
  have wa := hw _ ka
  have wb := hw _ kb
  have ca := (q.1.2.1 _ ka).1
  have cb := (q.1.2.1 _ kb).1
  have la : n.1 (cfg h 5 k) / cfg h 1 (cfg h 5 k) ≤ n.1 (cfg h 5 k) := Nat.div_le_self _ _
  have lb : n.1 (cfg h 6 k) / cfg h 1 (cfg h 6 k) ≤ n.1 (cfg h 6 k) := Nat.div_le_self _ _
  refine ⟨fun p hp => ?_, r2⟩
  show (ite _ _ _ : Nat → Int32) p = nI ((ite _ _ _ : Nat → Nat) p)
  rw [ea, eb]
  by_cases b1 : n.1 (cfg h 6 k) / cfg h 1 (cfg h 6 k) < n.1 (cfg h 5 k) / cfg h 1 (cfg h 5 k)
  · rw [if_pos b1, if_pos (nI_lt b1 (by omega))]
    exact lead_rep q ka kb kab hk hw r1 b1 hp
  · rw [if_neg b1, if_neg (nI_nlt (by omega) (by omega))]
    by_cases b2 : n.1 (cfg h 5 k) / cfg h 1 (cfg h 5 k) < n.1 (cfg h 6 k) / cfg h 1 (cfg h 6 k)
    · rw [if_pos b2, if_pos (nI_lt b2 (by omega))]
      exact lead_rep q kb ka (fun e => kab e.symm) hk hw r1 b2 hp
    · rw [if_neg b2, if_neg (nI_nlt (by omega) (by omega))]
      exact r1 p hp
