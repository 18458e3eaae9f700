-- mill: both sides (gen_build.py)
theorem G_wF {h : mM} {a : Nat} {f : Nat → Int32} (g : G h) : G (wF h a f) := g
theorem G_mill5 {h : mM} {n : Nat} {k p r e c : Int32} (g : G h) : G (mill5 h n k p r e c) := G.wI (G.wI (G.wI (G.wI (G.wI (G.wI g)))))
theorem mI_mill5 {h : mM} {n : Nat} {k p r e c : Int32} {x j : Nat} : mI (mill5 h n k p r e c) x j = mI (wI (wI (wI (wI (wI (wI h (17 + 18 * n) 2 k) (17 + 18 * n) 3 p) (17 + 18 * n) 4 r) (17 + 18 * n) 5 e) (17 + 18 * n) 6 c) 4 6 (nI (n + 1))) x j := rfl
theorem mJ_mill5 {h : mM} {n : Nat} {k p r e c : Int32} {x j : Nat} : mJ (mill5 h n k p r e c) x j = mJ h x j := rfl
theorem mR_mill5 {h : mM} {n : Nat} {k p r e c : Int32} {x j : Nat} : mR (mill5 h n k p r e c) x j = mR h x j := rfl
theorem mill_rel {h h' : mM} {k K P R E C : Nat} {rk : Nat → Int32} (q : RLN h k) (h9 : cfg h 0 2 < 4) (b0 : K ≤ 2) (b1 : P < cfg h 0 0) (b2 : R ≤ 9) (b3 : E ≤ 250) (b4 : C ≤ 9) (g : G h') (f : ∀ x j, ¬ ((x = 17 + 18 * cfg h 0 2 ∧ 2 ≤ j ∧ j ≤ 6) ∨ (x = 4 ∧ j = 6) ∨ x = 8 ∨ (119 ≤ x ∧ x ≤ 123 ∧ j = cfg h 0 2) ∨ (x = 109 ∧ j = 13)) → mI h' x j = mI h x j) (fj : ∀ a j, mJ h' a j = mJ h a j) (fr : ∀ a j, mR h' a j = mR h a j) (v0 : mI h' (17 + 18 * cfg h 0 2) 2 = nI K) (v1 : mI h' (17 + 18 * cfg h 0 2) 3 = nI P) (v2 : mI h' (17 + 18 * cfg h 0 2) 4 = nI R) (v3 : mI h' (17 + 18 * cfg h 0 2) 5 = nI E) (v4 : mI h' (17 + 18 * cfg h 0 2) 6 = nI C) (v6 : mI h' 4 6 = nI (cfg h 0 2 + 1)) (m0 : mI h' 119 (cfg h 0 2) = nI K) (m1 : mI h' 120 (cfg h 0 2) = nI P) (m2 : mI h' 121 (cfg h 0 2) = nI R) (m3 : mI h' 122 (cfg h 0 2) = nI E) (m4 : mI h' 123 (cfg h 0 2) = nI C) (m6 : mI h' 109 13 = nI (cfg h 0 2 + 1)) (ho : ∀ i, mI h' 8 i = putF rk (nI (cfg h 0 2)) (nI R) (cfg h 0 2) (mI h 8) i) (hrk : ∀ m, m < cfg h 0 2 → rk m = mI h (17 + 18 * m) 4) : RLN h' (k + 1) := by
  have q0 := q
  obtain ⟨⟨a4, a5, a6⟩, ⟨c3, c9, c13⟩, n4, n5, n6⟩ := q.cnt
  obtain ⟨_, q2, _, hr, _, _, _, q6, _⟩ := q
  have pp : ∀ p, p < cfg h 0 0 → PPn h' p := fun p hp => (PP_congr (h := h) (fun j hj => f (9 + p) j (by omega)) (fun j hj => f (111 + j) p (by omega)) (q2.pp hp)).1
  have e1 : ∀ p, p < cfg h 0 0 → cfg h' 1 p = cfg h 1 p ∧ cfg h' 2 p = cfg h 2 p := fun p hp => ⟨congrArg cN (f 111 p (by omega)), congrArg cN (f 112 p (by omega))⟩
  have pk : ∀ p, p < cfg h 0 1 → PKn (cfg h 0 0) h' p := fun p hp => PK_congr (h := h) (by omega) (fun j hj => f (13 + p) j (by omega)) (fun j hj => f (116 + j) p (by omega)) (q2.pk hp)
  have z67 := q6.2.1 (cfg h 0 2) h9 (Nat.le_refl _)
  have new := PM_new (h := h') (np := cfg h 0 0) (p := cfg h 0 2) (v5 := 0) n4 b0 b1 b2 b3 b4 (by omega) v0 v1 v2 v3 v4 (by rw [f (17 + 18 * cfg h 0 2) 7 (by omega)]; exact z67.1) m0 m1 m2 m3 m4 (by rw [f 124 (cfg h 0 2) (by omega)]; exact z67.2)
  have pm : ∀ m, m < cfg h 0 2 + 1 → PMn (cfg h 0 0) h' m := fun m hm => by
    rcases Nat.lt_or_ge m (cfg h 0 2) with z | z
    · exact (PM_congr (h := h) (by omega) (fun j hj => f (17 + 18 * m) (2 + j) (by omega)) (fun j hj => f (119 + j) m (by omega)) (q2.pm z)).1
    · have e : m = cfg h 0 2 := by omega
      rw [e]; exact new.1
  have e13 : ∀ m, cfg h' 13 m = cfg h 13 m := fun m => congrArg cN (f 124 m (by omega))
  have e10 : ∀ m, m < cfg h 0 2 → cfg h' 10 m = cfg h 10 m := fun m hm => congrArg cN (f 121 m (by omega))
  have pt : ∀ m s, m < cfg h 0 2 + 1 → s < cfg h' 13 m → PTn h' m s := fun m s hm hs => by
    rcases Nat.lt_or_ge m (cfg h 0 2) with z | z
    · rw [e13 m] at hs
      have h3 := (q2.1.2.2.2.1 m z).2.2.2.2.2
      exact PT_congr (fun j hj => f (20 + 18 * m + s) j (by omega)) (fun j hj => f (125 + j) (3 * m + s) (by omega)) (by rw [f 109 24 (by omega)]) (q2.pt z hs)
    · have e : m = cfg h 0 2 := by omega
      rw [e, new.2.1] at hs
      exact absurd hs (Nat.not_lt_zero s)
  have od := q2.2.2.2.2.2.2.2.1
  have rkO : ∀ i, i < cfg h 0 2 → rk (mI h 8 i).toNatClampNeg = nI (cfg h 10 (cfg h 14 i)) := fun i hi => by
    show rk (cfg h 14 i) = _
    rw [hrk _ (od i hi).2]
    exact (q2.m (od i hi).2).1.2.2.1
  have rk9 : ∀ i, i < cfg h 0 2 → cfg h 10 (cfg h 14 i) ≤ 9 := fun i hi => (q2.1.2.2.2.1 _ (od i hi).2).2.2.1
  have op : ∀ a, a ≤ cfg h 0 2 → (∀ i, i < a → cfg h 10 (cfg h 14 i) ≤ R) → (∀ i, a ≤ i → i < cfg h 0 2 → R < cfg h 10 (cfg h 14 i)) → ∀ i, i ≤ cfg h 0 2 → mI h' 8 i = (if i < a then mI h 8 i else if i = a then nI (cfg h 0 2) else mI h 8 (i - 1)) ∧ cfg h' 14 i = if i < a then cfg h 14 i else if i = a then cfg h 0 2 else cfg h 14 (i - 1) := fun a ha h1 h2 i hi => by
    have e := ho i
    rw [putF_at (a := a) (cfg h 0 2) (mI h 8) ha (fun j hj => ?_) (fun j hj hn => ?_) i] at e
    · have e0 : mI h' 8 i = (if i < a then mI h 8 i else if i = a then nI (cfg h 0 2) else mI h 8 (i - 1)) := by
        rw [e, if_pos hi]
      refine ⟨e0, ?_⟩
      show cN (mI h' 8 i) = _
      rw [e0]
      by_cases z1 : i < a
      · rw [if_pos z1, if_pos z1]; rfl
      · rw [if_neg z1, if_neg z1]
        by_cases z2 : i = a
        · rw [if_pos z2, if_pos z2]; exact cN_nI (by omega)
        · rw [if_neg z2, if_neg z2]; rfl
    · rw [rkO j (by omega)]
      have := h1 j hj
      have := rk9 j (by omega)
      exact fun z => by
        have := (nI_ltI (by omega) (by omega)).mp z
        omega
    · rw [rkO j hn]
      have := rk9 j hn
      exact (nI_ltI (by omega) (by omega)).mpr (h2 j hj hn)
  have po : ∀ i, i < cfg h 0 2 + 1 → mI h' 8 i = nI (cfg h' 14 i) ∧ cfg h' 14 i < cfg h 0 2 + 1 := fun i hi => by
    obtain ⟨a, a0, a1, a2⟩ := ORD_cut (r := R) q2.2.2.2.2.2.2.2.2
    obtain ⟨o1, o2⟩ := op a a0 a1 a2 i (by omega)
    rw [o1, o2]
    by_cases z1 : i < a
    · rw [if_pos z1, if_pos z1]
      have := od i (by omega)
      exact ⟨this.1, by omega⟩
    · rw [if_neg z1, if_neg z1]
      by_cases z2 : i = a
      · rw [if_pos z2, if_pos z2]; exact ⟨rfl, by omega⟩
      · rw [if_neg z2, if_neg z2]
        have := od (i - 1) (by omega)
        exact ⟨this.1, by omega⟩
  obtain ⟨cf, E0, E1, E2⟩ := CF_of (h := h') (np := cfg h 0 0) (nc := cfg h 0 1) (nm := cfg h 0 2 + 1) ⟨by omega, by omega, by omega⟩ ⟨by rw [f 4 4 (by omega)]; exact a4, by rw [f 4 5 (by omega)]; exact a5, v6⟩ ⟨by rw [f 109 3 (by omega)]; exact c3, by rw [f 109 9 (by omega)]; exact c9, m6⟩ pp pk pm pt po (fun e2 => ORD_ins (n := cfg h 0 2) q2.2.2.2.2.2.2.2.2 rfl e2 (by rw [new.2.2]; exact b2) e10 (by rw [new.2.2]; exact fun a a0 a1 a2 i hi => (op a a0 a1 a2 i hi).2))
  refine RL_build q0 g (fun x j z => f x j (by unfold FB F3 F4 F5 F7 F8 F9 F10 F11 F12 isM isK at z; omega)) fj fr cf (by omega) e1 (by omega) (fun m hm => ?_) (B6_of q6 (by omega) (by omega) (fun p hp z => f (9 + p) 3 (by omega)) (fun m hm z => ⟨f (17 + 18 * m) 7 (by omega), f 124 m (by omega)⟩) (fun m s hm hs z => ?_))
  · rcases Nat.lt_or_ge m (cfg h 0 2) with z | z
    · exact Or.inl (f 119 m (by omega))
    · exact Or.inr z
  · rw [e13 m] at z
    exact ⟨z, f (20 + 18 * m + s) 4 (by omega)⟩
theorem cust_eq {k c : Int32} : (if k = 1 then 0 ≤ c ∧ c ≤ 9 else c = 0) ↔ (if k = 1 then 0 ≤ c ∧ c ≤ 9 else 0 ≤ c ∧ c ≤ 0) := by
  by_cases e : k = 1
  · rw [if_pos e, if_pos e]
  · rw [if_neg e, if_neg e]
    exact ⟨fun z => by subst z; decide, fun z => Int32.le_antisymm z.2 z.1⟩
theorem k47 {d : Nat} {h : mM} {k : Nat} (hk : k < 1000) (q : RLN h k) {K P R E C : Int32} : OKc d 47 93 [some (.int K), some (.int P), some (.int R), some (.int E), some (.int C), none, none] [some (.int K), some (.int P), some (.int R), some (.int E), some (.int C)] h k := by
  have q0 := q
  have g := q.1
  have q2 := q.2.1
  obtain ⟨⟨a4, a5, a6⟩, ⟨c3, c9, c13⟩, n4, n5, n6⟩ := q.cnt
  have ec : mI h 109 3 = mI h 4 4 := c3.trans a4.symm
  by_cases bb : millOK h K P R E C
  · have b9 : (0 ≤ K ∧ K ≤ 2) ∧ (0 ≤ P ∧ P ≤ mI h 109 3 - 1) ∧ (0 ≤ R ∧ R ≤ 9) ∧ (0 ≤ E ∧ E ≤ 250) ∧ (if K = 1 then 0 ≤ C ∧ C ≤ 9 else 0 ≤ C ∧ C ≤ 0) := by
      rw [ec]
      exact ⟨bb.1, bb.2.1, bb.2.2.1, bb.2.2.2.1, cust_eq.mp bb.2.2.2.2⟩
    by_cases h4 : cfg h 0 2 < 4
    · have b0 := bb
      have bC : 0 ≤ C ∧ C ≤ 9 := by
        have := bb.2.2.2.2
        by_cases e : K = 1
        · rw [if_pos e] at this; exact this
        · rw [if_neg e] at this; subst this; decide
      obtain ⟨x, e1, _, x2⟩ := in_nI (lo := 0) (hi := 2) bb.1.1 bb.1.2 (by omega) (by omega)
      obtain ⟨p, e2, hp⟩ := in_cnt a4 (by omega) bb.2.1.1 bb.2.1.2
      obtain ⟨y, e3, _, y2⟩ := in_nI (lo := 0) (hi := 9) bb.2.2.1.1 bb.2.2.1.2 (by omega) (by omega)
      obtain ⟨z, e4, _, z2⟩ := in_nI (lo := 0) (hi := 250) bb.2.2.2.1.1 bb.2.2.2.1.2 (by omega) (by omega)
      obtain ⟨u, e5, _, u2⟩ := in_nI (lo := 0) (hi := 9) bC.1 bC.2 (by omega) (by omega)
      subst e1 e2 e3 e4 e5
      have ho : ∀ j, j < cfg h 0 2 → ∃ m, m < 4 ∧ mI h 8 j = nI m := fun j hj => by
        have := q2.2.2.2.2.2.2.2.1 j hj
        exact ⟨_, by omega, this.1⟩
      have C1 := c47_ok (d := d + 27) g b0 a6 h4 ho
      refine ⟨nI (cfg h 0 2), _, _, C1, r93_ok (d := d + 27) (h := wF (mill5 h (cfg h 0 2) (nI x) (nI p) (nI y) (nI z) (nI u)) 8 (putF (fun m => mI (mill5 h (cfg h 0 2) (nI x) (nI p) (nI y) (nI z) (nI u)) (17 + 18 * m) 4) (nI (cfg h 0 2)) (nI y) (cfg h 0 2) (mI h 8))) (G_wF (G_mill5 g)) (by rw [mI_wF, if_neg (by omega), mI_mill5, mI_wI, if_neg (by omega), mI_wI, if_neg (by omega), mI_wI, if_neg (by omega), mI_wI, if_neg (by omega), mI_wI, if_neg (by omega), mI_wI, if_neg (by omega)]; exact b9) (n := cfg h 0 2) (by rw [mI_wF, if_neg (by omega), mI_mill5, mI_wI, if_neg (by omega), mI_wI, if_neg (by omega), mI_wI, if_neg (by omega), mI_wI, if_neg (by omega), mI_wI, if_neg (by omega), mI_wI, if_neg (by omega)]; exact c13) h4, G_wF (G_mill5 g), ?_⟩
      have G2 := G.wI (a := 109) (k := 13) (v := nI (cfg h 0 2 + 1)) (G.wI (a := 123) (k := cfg h 0 2) (v := nI u) (G.wI (a := 122) (k := cfg h 0 2) (v := nI z) (G.wI (a := 121) (k := cfg h 0 2) (v := nI y) (G.wI (a := 120) (k := cfg h 0 2) (v := nI p) (G.wI (a := 119) (k := cfg h 0 2) (v := nI x) (G_wF (a := 8) (f := putF (fun m => mI (mill5 h (cfg h 0 2) (nI x) (nI p) (nI y) (nI z) (nI u)) (17 + 18 * m) 4) (nI (cfg h 0 2)) (nI y) (cfg h 0 2) (mI h 8)) (G_mill5 (n := cfg h 0 2) (k := nI x) (p := nI p) (r := nI y) (e := nI z) (c := nI u) g)))))))
      refine mill_rel (rk := fun m => mI (mill5 h (cfg h 0 2) (nI x) (nI p) (nI y) (nI z) (nI u)) (17 + 18 * m) 4) q h4 x2 hp y2 z2 u2 G2 (fun x j hn => by rw [mI_wI, if_neg (by omega), mI_wI, if_neg (by omega), mI_wI, if_neg (by omega), mI_wI, if_neg (by omega), mI_wI, if_neg (by omega), mI_wI, if_neg (by omega), mI_wF, if_neg (by omega), mI_mill5, mI_wI, if_neg (by omega), mI_wI, if_neg (by omega), mI_wI, if_neg (by omega), mI_wI, if_neg (by omega), mI_wI, if_neg (by omega), mI_wI, if_neg (by omega)]) (fun _ _ => by simp only [mJ_wI, mJ_wF, mJ_mill5]) (fun _ _ => by simp only [mR_wI, mR_wF, mR_mill5]) (by rw [mI_wI, if_neg (by omega), mI_wI, if_neg (by omega), mI_wI, if_neg (by omega), mI_wI, if_neg (by omega), mI_wI, if_neg (by omega), mI_wI, if_neg (by omega), mI_wF, if_neg (by omega), mI_mill5, mI_wI, if_neg (by omega), mI_wI, if_neg (by omega), mI_wI, if_neg (by omega), mI_wI, if_neg (by omega), mI_wI, if_neg (by omega), mI_wI, if_pos ⟨rfl, rfl⟩]) (by rw [mI_wI, if_neg (by omega), mI_wI, if_neg (by omega), mI_wI, if_neg (by omega), mI_wI, if_neg (by omega), mI_wI, if_neg (by omega), mI_wI, if_neg (by omega), mI_wF, if_neg (by omega), mI_mill5, mI_wI, if_neg (by omega), mI_wI, if_neg (by omega), mI_wI, if_neg (by omega), mI_wI, if_neg (by omega), mI_wI, if_pos ⟨rfl, rfl⟩]) (by rw [mI_wI, if_neg (by omega), mI_wI, if_neg (by omega), mI_wI, if_neg (by omega), mI_wI, if_neg (by omega), mI_wI, if_neg (by omega), mI_wI, if_neg (by omega), mI_wF, if_neg (by omega), mI_mill5, mI_wI, if_neg (by omega), mI_wI, if_neg (by omega), mI_wI, if_neg (by omega), mI_wI, if_pos ⟨rfl, rfl⟩]) (by rw [mI_wI, if_neg (by omega), mI_wI, if_neg (by omega), mI_wI, if_neg (by omega), mI_wI, if_neg (by omega), mI_wI, if_neg (by omega), mI_wI, if_neg (by omega), mI_wF, if_neg (by omega), mI_mill5, mI_wI, if_neg (by omega), mI_wI, if_neg (by omega), mI_wI, if_pos ⟨rfl, rfl⟩]) (by rw [mI_wI, if_neg (by omega), mI_wI, if_neg (by omega), mI_wI, if_neg (by omega), mI_wI, if_neg (by omega), mI_wI, if_neg (by omega), mI_wI, if_neg (by omega), mI_wF, if_neg (by omega), mI_mill5, mI_wI, if_neg (by omega), mI_wI, if_pos ⟨rfl, rfl⟩]) (by rw [mI_wI, if_neg (by omega), mI_wI, if_neg (by omega), mI_wI, if_neg (by omega), mI_wI, if_neg (by omega), mI_wI, if_neg (by omega), mI_wI, if_neg (by omega), mI_wF, if_neg (by omega), mI_mill5, mI_wI, if_pos ⟨rfl, rfl⟩]) (by rw [mI_wI, if_neg (by omega), mI_wI, if_neg (by omega), mI_wI, if_neg (by omega), mI_wI, if_neg (by omega), mI_wI, if_neg (by omega), mI_wI, if_pos ⟨rfl, rfl⟩]) (by rw [mI_wI, if_neg (by omega), mI_wI, if_neg (by omega), mI_wI, if_neg (by omega), mI_wI, if_neg (by omega), mI_wI, if_pos ⟨rfl, rfl⟩]) (by rw [mI_wI, if_neg (by omega), mI_wI, if_neg (by omega), mI_wI, if_neg (by omega), mI_wI, if_pos ⟨rfl, rfl⟩]) (by rw [mI_wI, if_neg (by omega), mI_wI, if_neg (by omega), mI_wI, if_pos ⟨rfl, rfl⟩]) (by rw [mI_wI, if_neg (by omega), mI_wI, if_pos ⟨rfl, rfl⟩]) (by rw [mI_wI, if_pos ⟨rfl, rfl⟩]) ?_ (fun m hm => ?_)
      · intro i
        rw [mI_wI, if_neg (by omega), mI_wI, if_neg (by omega), mI_wI, if_neg (by omega), mI_wI, if_neg (by omega), mI_wI, if_neg (by omega), mI_wI, if_neg (by omega), mI_wF, if_pos rfl]
      · show mI (mill5 h (cfg h 0 2) (nI x) (nI p) (nI y) (nI z) (nI u)) (17 + 18 * m) 4 = _
        rw [mI_mill5, mI_wI, if_neg (by omega), mI_wI, if_neg (by omega), mI_wI, if_neg (by omega), mI_wI, if_neg (by omega), mI_wI, if_neg (by omega), mI_wI, if_neg (by omega)]
    · have e4 : cfg h 0 2 = 4 := by omega
      rw [e4] at a6 c13
      exact OK_bad hk q0 (j := 4) (by omega) (by omega) lo4 (c47_full (d := d + 27) g bb a6) (r93_full (d := d + 27) (h := fC h 4) g (by rw [mI_fC (by decide)]; exact b9) (by rw [mI_fC (by decide)]; exact c13))
  · refine OK_bad hk q0 (j := 1) (by omega) (by omega) lo1 (c47_bad (d := d + 27) g bb) (r93_bad (d := d + 27) (h := fC h 1) g (fun z => bb ?_))
    rw [mI_fC (by decide), ec] at z
    exact ⟨z.1, z.2.1, z.2.2.1, z.2.2.2.1, cust_eq.mpr z.2.2.2.2⟩
