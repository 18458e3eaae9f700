-- the landed file's hour in natural numbers: stones, banks, the whole hour
theorem dec_nI {a b : Nat} (ha : a < 2 ^ 31) (hb : b < 2 ^ 31) : decide (nI a = nI b) = decide (a = b) := decide_eq_decide.mpr (nI_eq ha hb)
theorem dlt_nI {a b : Nat} (ha : a < 2 ^ 31) (hb : b < 2 ^ 31) : decide (nI a < nI b) = decide (a < b) := decide_eq_decide.mpr (nI_ltI ha hb)
theorem kp_gen {c : Tb} (ck : CK c) {m : Nat} {kc : Nat → Bool} {kv : Nat → Int32} (hc : ∀ j, j < c 0 2 → kc j = (decide (c 9 j = c 9 m) && decide (c 10 j < c 10 m)) ∧ kv j = nI (c 11 j)) : ∀ (n : Nat), n ≤ c 0 2 → kpF kc kv n = nI (kpN c m n) ∧ kpN c m n ≤ 250
  | 0, _ => ⟨rfl, Nat.zero_le _⟩
  | n + 1, hn => by
    obtain ⟨i1, i2⟩ := kp_gen ck hc n (by omega)
    obtain ⟨h1, h2⟩ := hc n (by omega)
    have k := (ck.2.2.2.1 n (by omega)).2.2.2.1
    show (if kc n = true then (if kpF kc kv n < kv n then kv n else kpF kc kv n) else kpF kc kv n) = nI (if c 9 n = c 9 m ∧ c 10 n < c 10 m then max (kpN c m n) (c 11 n) else kpN c m n) ∧ (if c 9 n = c 9 m ∧ c 10 n < c 10 m then max (kpN c m n) (c 11 n) else kpN c m n) ≤ 250
    rw [h1, h2, i1]
    by_cases b : c 9 n = c 9 m ∧ c 10 n < c 10 m
    · have b' : (decide (c 9 n = c 9 m) && decide (c 10 n < c 10 m)) = true := by simp [b]
      rw [if_pos b, if_pos b']
      by_cases b2 : kpN c m n < c 11 n
      · rw [if_pos (nI_lt b2 (by omega)), Nat.max_eq_right (by omega)]
        exact ⟨rfl, k⟩
      · rw [if_neg (nI_nlt (by omega) (by omega)), Nat.max_eq_left (by omega)]
        exact ⟨rfl, i2⟩
    · have b' : ¬ (decide (c 9 n = c 9 m) && decide (c 10 n < c 10 m)) = true := by
        simp only [Bool.and_eq_true, decide_eq_true_eq]
        exact b
      rw [if_neg b, if_neg b']
      exact ⟨rfl, i2⟩
theorem kept_C {h : mM} (q : CF h) {m : Nat} (hm : m < cfg h 0 2) : keptC h (cfg h 0 2) m (cfg h 9 m) = nI (cfg h 1 (cfg h 9 m) * kpN (cfg h) m (cfg h 0 2)) ∧ cfg h 1 (cfg h 9 m) * kpN (cfg h) m (cfg h 0 2) ≤ 25000 := by
  have k := q.1.2.2.2.1 m hm
  have ka := (q.1.2.1 _ k.2.1).1
  have n4 := q.1.1
  obtain ⟨e1, e2⟩ := kp_gen q.1 (m := m) (kc := kcC h m) (kv := kvC h) (fun j hj => by
    have z := (q.m hj).1
    have y := (q.m hm).1
    have kj := q.1.2.2.2.1 j hj
    unfold kcC kvC
    rw [z.2.1, y.2.1, z.2.2.1, y.2.2.1, z.2.2.2.1, dec_nI (by omega) (by omega), dlt_nI (by omega) (by omega)]
    exact ⟨rfl, rfl⟩) (cfg h 0 2) (Nat.le_refl _)
  refine ⟨?_, Nat.le_trans (Nat.mul_le_mul ka.2 e2) (by omega)⟩
  unfold keptC
  rw [e1, (q.p k.2.1).1.1, pk_mul]
theorem nI_zI {n : Nat} (h : n < 2 ^ 31) : nI n = 0 ↔ n = 0 := nI_eq (b := 0) h (by omega)
theorem run_N {on le dr l t w kp : Nat} (h1 : on ≤ 1) (h2 : le ≤ 200) (h3 : dr ≤ 1000) (h4 : l ≤ 25000) (h5 : t ≤ 200) (h6 : w ≤ 25000) (h7 : kp ≤ 25000) : runB (nI on) (nI le) (nI dr) (nI l - nI t) (nI w) (nI kp) = decide (on = 1 ∧ le + t ≤ l ∧ dr ≤ w ∧ kp ≤ w - dr) := by
  have e1 : nI on = 0 ↔ on = 0 := nI_zI (by omega)
  have e2 : nI le ≤ nI l - nI t ↔ le + t ≤ l := by
    rw [Int32.le_iff_toInt_le, pk_sub_toInt (by omega) (by omega), nI_toInt (by omega)]
    omega
  have e3 : nI dr ≤ nI w ↔ dr ≤ w := nI_leI (by omega) (by omega)
  rw [Bool.eq_iff_iff]
  unfold runB
  simp only [Bool.and_eq_true, Bool.not_eq_true', decide_eq_false_iff_not, decide_eq_true_eq, e1, e2, e3]
  constructor
  · rintro ⟨a1, a2, a3, a4⟩
    rw [pk_sub a3, nI_leI (by omega) (by omega)] at a4
    exact ⟨by omega, a2, a3, a4⟩
  · rintro ⟨a1, a2, a3, a4⟩
    rw [pk_sub a3, nI_leI (by omega) (by omega)]
    exact ⟨by omega, a2, a3, a4⟩
theorem gr_N {ra mo l t : Nat} (h1 : ra ≤ 20) (h2 : mo ≤ 1000) (h4 : l ≤ 25000) (h5 : t ≤ l) : grF (nI ra) (nI mo) (nI l - nI t) = nI (min ((l - t) * ra) mo) := by
  have : (l - t) * ra ≤ 25000 * 20 := Nat.mul_le_mul (by omega) h1
  unfold grF
  rw [pk_sub h5, pk_mul, nI_min (by omega) (by omega)]
theorem st_rep {h : mM} (q : CF h) {t : Nat} (ht : t ≤ 200) {n : N3} {σ : S3} (hw : WB (cfg h) n.1) (R : RC (cfg h) n σ) {m s : Nat} (hm : m < cfg h 0 2) (hs : s < cfg h 13 m) : RC (cfg h) (stN (cfg h) t m s n) (stS (arC h) (stC h) (keptC h (cfg h 0 2) m (cfg h 9 m)) (nI t) (cfg h 9 m) m s σ) := by
  obtain ⟨r1, r2, r3⟩ := R
  have k := q.1.2.2.2.1 m hm
  have kp := k.2.1
  have ks := q.1.2.2.2.2 m s hm hs
  obtain ⟨⟨s0, s1, s2, s3, s4⟩, _⟩ := q.s hm hs
  obtain ⟨e1, e2⟩ := kept_C q hm
  have ka := (q.1.2.1 _ kp).1
  have w1 := wb_25 ka.2 (hw _ kp)
  have l1 : n.1 (cfg h 9 m) / cfg h 1 (cfg h 9 m) ≤ n.1 (cfg h 9 m) := Nat.div_le_self _ _
  have ed := div_N q hw r1 kp
  have hn4 := q.1.1
  unfold stS stN
  rw [ed, s0, s1, s2, s3, s4, e1, r1 _ kp, run_N (by omega) (by omega) (by omega) (by omega) ht w1 e2]
  by_cases b : rnN (cfg h) t m s n.1
  · rw [if_pos b, if_pos (decide_eq_true b), gr_N (by omega) (by omega) (by omega) (by omega), pk_sub b.2.2.1]
    refine ⟨fun p hp => upd_nI (r1 p hp), fun j hj => ?_, fun i hi => upd_nI (r3 i hi)⟩
    show upd σ.2.1 5 (σ.2.1 5 + _) (2 + j) = nI (upN n.2.1 3 _ j)
    rw [show σ.2.1 5 = nI (n.2.1 3) from r2 3 (by omega), nI_add, upd_ap, upN_ap]
    by_cases e : j = 3
    · subst e; rfl
    · rw [if_neg (by omega), if_neg e]; exact r2 j hj
  · have b' : ¬ decide (rnN (cfg h) t m s n.1) = true := fun z => b (of_decide_eq_true z)
    rw [if_neg b, if_neg b']
    exact ⟨r1, r2, r3⟩
theorem foldN_inv2 {α β : Type} {f : Nat → α → α} {g : Nat → β → β} {P : α → β → Prop} : ∀ (n : Nat) (x : α) (y : β), P x y → (∀ i x y, i < n → P x y → P (f i x) (g i y)) → P (foldN f n x) (foldN g n y)
  | 0, _, _, h0, _ => h0
  | n + 1, x, y, h0, hs => hs n _ _ (Nat.lt_succ_self n) (foldN_inv2 n x y h0 (fun i x y hi => hs i x y (Nat.lt_succ_of_lt hi)))
theorem stN_wb {c : Tb} {t m s : Nat} {n : N3} (hw : WB c n.1) : WB c (stN c t m s n).1 := by
  unfold stN
  split
  · intro p hp
    show upN n.1 _ _ p ≤ _
    rw [upN_ap]
    have := hw p hp
    split
    · rename_i e; subst e; omega
    · omega
  · exact hw
theorem sp_rep {h : mM} (q : CF h) {n : N3} {σ : S3} (hw : WB (cfg h) n.1) (R : RC (cfg h) n σ) {p : Nat} (hp : p < cfg h 0 0) : RC (cfg h) (spN (cfg h) p n) (spS (arC h) (bkC h) p σ) := by
  obtain ⟨r1, r2, r3⟩ := R
  obtain ⟨⟨c0, c1, c2, c3⟩, _⟩ := q.p hp
  have k := q.1.2.1 p hp
  have w1 := wb_25 k.1.2 (hw p hp)
  have a1 : cfg h 1 p * cfg h 2 p ≤ 100 * 250 := Nat.mul_le_mul k.1.2 k.2.1.2
  have ez : nI (n.1 p) - nI (cfg h 1 p * cfg h 2 p) ≤ 0 ↔ n.1 p ≤ cfg h 1 p * cfg h 2 p := nI_sub0 (by omega) (by omega)
  unfold spS spN arC bkC
  rw [c0, c1, r1 p hp, pk_mul]
  by_cases b : cfg h 1 p * cfg h 2 p < n.1 p
  · rw [if_pos b, if_neg (fun z => by have := ez.mp z; omega), pk_sub (by omega), pk_sub (by omega)]
    have e : n.1 p - (n.1 p - cfg h 1 p * cfg h 2 p) = cfg h 1 p * cfg h 2 p := by omega
    rw [e]
    refine ⟨fun x hx => upd_nI (r1 x hx), fun j hj => ?_, r3⟩
    show upd σ.2.1 4 (σ.2.1 4 + _) (2 + j) = nI (upN n.2.1 2 _ j)
    rw [show σ.2.1 4 = nI (n.2.1 2) from r2 2 (by omega), nI_add, upd_ap, upN_ap]
    by_cases e : j = 2
    · subst e; rfl
    · rw [if_neg (by omega), if_neg e]; exact r2 j hj
  · rw [if_neg b, if_pos (ez.mpr (by omega))]
    exact ⟨r1, r2, r3⟩
theorem spN_wb {c : Tb} {p : Nat} {n : N3} (hw : WB c n.1) : WB c (spN c p n).1 := by
  unfold spN
  split
  · intro x hx
    show upN n.1 _ _ x ≤ _
    rw [upN_ap]
    have := hw x hx
    split
    · rename_i e; subst e; omega
    · omega
  · exact hw
theorem zr_zero : ∀ (n : Nat) (σ : S3), (foldN zrS n σ).1 = σ.1 ∧ (foldN zrS n σ).2.1 = σ.2.1 ∧ ∀ i, i < n → (foldN zrS n σ).2.2 i = 0
  | 0, σ => ⟨rfl, rfl, fun i hi => by omega⟩
  | n + 1, σ => by
    obtain ⟨i1, i2, i3⟩ := zr_zero n σ
    refine ⟨i1, i2, fun i hi => ?_⟩
    show upd (foldN zrS n σ).2.2 n 0 i = 0
    rw [upd_ap]
    split
    · rfl
    · exact i3 i (by omega)
theorem foldN_congr {σ : Type} {f g : Nat → σ → σ} : ∀ (n : Nat) (x : σ), (∀ i y, i < n → f i y = g i y) → foldN f n x = foldN g n x
  | 0, _, _ => rfl
  | n + 1, x, h => by
    show f n (foldN f n x) = g n (foldN g n x)
    rw [foldN_congr n x (fun i y hi => h i y (by omega)), h n _ (Nat.lt_succ_self n)]
/-- which mill rests: a number, or none -/
def RS (r : Int32) (rn : Nat) : Prop := ∀ m, m < 4 → (nI m = r ↔ m = rn)
theorem RS_none : RS (-1) 4 := fun m hm => ⟨fun e => by
  have h2 : ¬ nI m < 0 := nI_pos (by omega)
  rw [e] at h2
  exact absurd (show (-1 : Int32) < 0 by decide) h2, fun e => by omega⟩
theorem RS_some {m : Nat} (hm : m < 4) : RS (nI m) m := fun x hx => nI_eq (by omega) (by omega)
theorem hr_rep {h : mM} (q : CF h) {t rn : Nat} {r : Int32} (ht : t ≤ 200) (hr : RS r rn) {w : Nat → Nat} {w32 f gr : Nat → Int32} (hw : WB (cfg h) w) (hw2 : ∀ p, p < cfg h 0 0 → w32 p = nI (w p)) : RC (cfg h) (HN (cfg h) t rn w) (hrC h (cfg h 0 0) (cfg h 0 1) (cfg h 0 2) (cfg h 5) (cfg h 6) (cfg h 9) (cfg h 13) (cfg h 14) (nI t) r w32 f gr) := by
  have n4 := q.1.1
  unfold hrC
  have g := foldN_inv2 (f := gtN (cfg h) t) (g := gtS (arC h) (wdC h) (gtC h) (nI t)) (P := fun n σ => WB (cfg h) n.1 ∧ RC2 (cfg h) n σ) (cfg h 0 0) (w, fun _ => 0, fun _ => 0) (w32, upd (upd (upd (upd f 2 0) 3 0) 4 0) 5 0, gr) ⟨hw, hw2, fun k hk => by
    rcases (show k = 0 ∨ k = 1 ∨ k = 2 ∨ k = 3 by omega) with e | e | e | e <;> subst e <;> rfl⟩ (fun p n σ hp z => ⟨by
      intro x hx
      show upN n.1 p _ x ≤ _
      rw [upN_ap]
      split
      · rename_i e; subst e
        exact gt_wb ht (q.1.2.1 x hx).1.2 (z.1 x hx)
      · exact z.1 x hx, gt_rep q ht z.1 z.2 hp⟩)
  unfold HN
  have gg := (gt_ok q.1 ht hw).2.2.2.2
  generalize foldN (gtN (cfg h) t) (cfg h 0 0) (w, fun _ => 0, fun _ => 0) = n1 at g gg ⊢
  generalize foldN (gtS (arC h) (wdC h) (gtC h) (nI t)) (cfg h 0 0) (w32, upd (upd (upd (upd f 2 0) 3 0) 4 0) 5 0, gr) = σ1 at g ⊢
  have c := foldN_inv2 (f := chN (cfg h)) (g := chS (arC h) (cfg h 5) (cfg h 6) (cwC h)) (P := fun n σ => WB (cfg h) n.1 ∧ RC2 (cfg h) n σ) (cfg h 0 1) n1 σ1 g (fun p n σ hp z => ⟨by
    obtain ⟨k1, k2, k3, k4⟩ := q.1.2.2.1 p hp
    show WB (cfg h) (ite _ _ _)
    split
    · exact ld_wb q.1 k1 k2 z.1
    · split
      · exact ld_wb q.1 k2 k1 z.1
      · exact z.1, ch_rep q z.1 z.2 hp⟩)
  have cc := (ch_ok q.1 g.1 (cfg h 0 1) (Nat.le_refl _)).2
  generalize foldN (chN (cfg h)) (cfg h 0 1) n1 = n2 at c cc ⊢
  generalize foldN (chS (arC h) (cfg h 5) (cfg h 6) (cwC h)) (cfg h 0 1) σ1 = σ2 at c ⊢
  obtain ⟨z1, z2, z3⟩ := zr_zero 12 σ2
  have zr : RC (cfg h) n2 (foldN zrS 12 σ2) := ⟨fun p hp => by rw [z1]; exact c.2.1 p hp, fun k hk => by rw [z2]; exact c.2.2 k hk, fun i hi => by rw [z3 i hi, cc, gg]; rfl⟩
  generalize foldN zrS 12 σ2 = σ3 at zr ⊢
  have o := q.2.2.2.2.2.2.2.2 N3 (mlN (cfg h) t rn) n2
  have o2 : foldN (fun k y => foldN (fun m z => if cfg h 10 m = k then mlN (cfg h) t rn m z else z) (cfg h 0 2) y) 10 n2 = foldN (rkN (cfg h) t rn) 10 n2 := rfl
  rw [o2] at o
  rw [← o]
  have ml := foldN_inv2 (f := fun i => mlN (cfg h) t rn (cfg h 14 i)) (g := mlS h (cfg h 0 2) (cfg h 9) (cfg h 13) (cfg h 14) (nI t) r) (P := fun n σ => WB (cfg h) n.1 ∧ RC (cfg h) n σ) (cfg h 0 2) n2 σ3 ⟨c.1, zr⟩ (fun i n σ hi z => by
    have ho := (q.2.2.2.2.2.2.2.1 i hi).2
    have hrm := hr (cfg h 14 i) (by omega)
    show WB (cfg h) (mlN (cfg h) t rn (cfg h 14 i) n).1 ∧ RC (cfg h) (mlN (cfg h) t rn (cfg h 14 i) n) (mlS h (cfg h 0 2) (cfg h 9) (cfg h 13) (cfg h 14) (nI t) r i σ)
    unfold mlN mlS
    by_cases b : cfg h 14 i = rn
    · rw [if_pos b, if_pos (hrm.mpr b)]
      exact z
    · rw [if_neg b, if_neg (fun e => b (hrm.mp e))]
      exact foldN_inv2 (f := stN (cfg h) t (cfg h 14 i)) (g := stS (arC h) (stC h) (keptC h (cfg h 0 2) (cfg h 14 i) (cfg h 9 (cfg h 14 i))) (nI t) (cfg h 9 (cfg h 14 i)) (cfg h 14 i)) (P := fun n σ => WB (cfg h) n.1 ∧ RC (cfg h) n σ) (cfg h 13 (cfg h 14 i)) n σ z (fun s n σ hs z => ⟨stN_wb z.1, st_rep q ht z.1 z.2 ho hs⟩))
  generalize foldN (fun i => mlN (cfg h) t rn (cfg h 14 i)) (cfg h 0 2) n2 = n3 at ml ⊢
  generalize foldN (mlS h (cfg h 0 2) (cfg h 9) (cfg h 13) (cfg h 14) (nI t) r) (cfg h 0 2) σ3 = σ4 at ml ⊢
  exact (foldN_inv2 (f := spN (cfg h)) (g := spS (arC h) (bkC h)) (P := fun n σ => WB (cfg h) n.1 ∧ RC (cfg h) n σ) (cfg h 0 0) n3 σ4 ml (fun p n σ hp z => ⟨spN_wb z.1, sp_rep q z.1 z.2 hp⟩)).2
