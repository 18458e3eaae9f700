-- pond, gate, channel, widen, stone, on: both sides (gen_build.py)
theorem pond_rel {h h' : mM} {k : Nat} (q : RLN h k) {a b w : Nat} (h9 : cfg h 0 0 < 4) (b1 : 1 ≤ a ∧ a ≤ 100) (b2 : 1 ≤ b ∧ b ≤ 250) (b3 : w ≤ 200) (g : G h') (f : ∀ x j, ¬ ((x = 9 + cfg h 0 0 ∧ j < 3) ∨ (x = 4 ∧ j = 4) ∨ (111 ≤ x ∧ x ≤ 114 ∧ j = cfg h 0 0) ∨ (x = 109 ∧ j = 3)) → mI h' x j = mI h x j) (fj : ∀ a j, mJ h' a j = mJ h a j) (fr : ∀ a j, mR h' a j = mR h a j) (v0 : mI h' (9 + cfg h 0 0) 0 = nI a) (v1 : mI h' (9 + cfg h 0 0) 1 = nI b) (v2 : mI h' (9 + cfg h 0 0) 2 = nI w) (v4 : mI h' 4 4 = nI (cfg h 0 0 + 1)) (m0 : mI h' 111 (cfg h 0 0) = nI a) (m1 : mI h' 112 (cfg h 0 0) = nI b) (m2 : mI h' 113 (cfg h 0 0) = nI w) (m3 : mI h' 114 (cfg h 0 0) = nI 1) (m4 : mI h' 109 3 = nI (cfg h 0 0 + 1)) : RLN h' (k + 1) := by
  have q0 := q
  obtain ⟨⟨a4, a5, a6⟩, ⟨c3, c9, c13⟩, n4, n5, n6⟩ := q.cnt
  obtain ⟨_, q2, _, hr, _, _, _, q6, _⟩ := q
  have pp : ∀ p, p < cfg h 0 0 + 1 → PPn h' p := fun p hp => by
    rcases Nat.lt_or_ge p (cfg h 0 0) with z | z
    · exact (PP_congr (h := h) (fun j hj => f (9 + p) j (by omega)) (fun j hj => f (111 + j) p (by omega)) (q2.pp z)).1
    · have e : p = cfg h 0 0 := by omega
      rw [e]
      exact PP_new b1 b2 b3 (by omega) v0 v1 v2 (by rw [f (9 + cfg h 0 0) 3 (by omega)]; exact q6.1 _ h9 (Nat.le_refl _)) m0 m1 m2 m3
  have e1 : ∀ p, p < cfg h 0 0 → cfg h' 1 p = cfg h 1 p ∧ cfg h' 2 p = cfg h 2 p := fun p hp => ⟨congrArg cN (f 111 p (by omega)), congrArg cN (f 112 p (by omega))⟩
  have pk : ∀ p, p < cfg h 0 1 → PKn (cfg h 0 0 + 1) h' p := fun p hp => by
    exact PK_congr (h := h) (by omega) (fun j hj => f (13 + p) j (by omega)) (fun j hj => f (116 + j) p (by omega)) (q2.pk hp)
  have pm : ∀ m, m < cfg h 0 2 → PMn (cfg h 0 0 + 1) h' m := fun m hm => by
    exact (PM_congr (h := h) (by omega) (fun j hj => f (17 + 18 * m) (2 + j) (by omega)) (fun j hj => f (119 + j) m (by omega)) (q2.pm hm)).1
  have e13 : ∀ m, m < 4 → cfg h' 13 m = cfg h 13 m := fun m hm => congrArg cN (f 124 m (by omega))
  have pt : ∀ m s, m < cfg h 0 2 → s < cfg h' 13 m → PTn h' m s := fun m s hm hs => by
    rw [e13 m (by omega)] at hs
    have h3 := (q2.1.2.2.2.1 m hm).2.2.2.2.2
    exact PT_congr (fun j hj => f (20 + 18 * m + s) j (by omega)) (fun j hj => f (125 + j) (3 * m + s) (by omega)) (by rw [f 109 24 (by omega)]) (q2.pt hm hs)
  have po : ∀ i, i < cfg h 0 2 → mI h' 8 i = nI (cfg h' 14 i) ∧ cfg h' 14 i < cfg h 0 2 := fun i hi => by
    have e : cfg h' 14 i = cfg h 14 i := congrArg cN (f 8 i (by omega))
    rw [f 8 i (by omega), e]
    exact q2.2.2.2.2.2.2.2.1 i hi
  obtain ⟨cf, E0, E1, E2⟩ := CF_of (h := h') (np := cfg h 0 0 + 1) (nc := cfg h 0 1) (nm := cfg h 0 2) ⟨by omega, by omega, by omega⟩ ⟨v4, by rw [f 4 5 (by omega)]; exact a5, by rw [f 4 6 (by omega)]; exact a6⟩ ⟨m4, by rw [f 109 9 (by omega)]; exact c9, by rw [f 109 13 (by omega)]; exact c13⟩ pp pk pm pt po (fun e2 => ORD_congr e2 (fun i hi => congrArg cN (f 8 i (by omega))) (fun m hm => congrArg cN (f 121 m (by omega))) q2.2.2.2.2.2.2.2.2)
  refine RL_build q0 g (fun x j z => f x j (by unfold FB F3 F4 F5 F7 F8 F9 F10 F11 F12 isM isK at z; omega)) fj fr cf (by omega) e1 (by omega) (fun m hm => Or.inl (f 119 m (by omega))) (B6_of q6 (by omega) (by omega) (fun p hp z => f (9 + p) 3 (by omega)) (fun m hm z => ⟨f (17 + 18 * m) 7 (by omega), f 124 m (by omega)⟩) (fun m s hm hs z => ?_))
  rw [e13 m hm] at z
  exact ⟨z, f (20 + 18 * m + s) 4 (by omega)⟩
theorem gate_rel {h h' : mM} {k : Nat} (q : RLN h k) {P v : Nat} (hP : P < cfg h 0 0) (b1 : v ≤ 2) (g : G h') (f : ∀ x j, ¬ ((x = 9 + P ∧ j = 3) ∨ (x = 114 ∧ j = P)) → mI h' x j = mI h x j) (fj : ∀ a j, mJ h' a j = mJ h a j) (fr : ∀ a j, mR h' a j = mR h a j) (v3 : mI h' (9 + P) 3 = nI v) (m3 : mI h' 114 P = nI v) : RLN h' (k + 1) := by
  have q0 := q
  obtain ⟨⟨a4, a5, a6⟩, ⟨c3, c9, c13⟩, n4, n5, n6⟩ := q.cnt
  obtain ⟨_, q2, _, hr, _, _, _, q6, _⟩ := q
  have pp : ∀ p, p < cfg h 0 0 → PPn h' p := fun p hp => by
    by_cases z : p = P
    · subst z
      obtain ⟨⟨c0, c1, c2, _⟩, d0, d1, d2, _⟩ := q2.p hp
      have b := (q2.pp hp).1
      exact PP_new b.1 b.2.1 b.2.2.1 b1 (by rw [f (9 + p) 0 (by omega)]; exact c0) (by rw [f (9 + p) 1 (by omega)]; exact c1) (by rw [f (9 + p) 2 (by omega)]; exact c2) v3 (by rw [f 111 p (by omega)]; exact d0) (by rw [f 112 p (by omega)]; exact d1) (by rw [f 113 p (by omega)]; exact d2) m3
    · exact (PP_congr (h := h) (fun j hj => f (9 + p) j (by omega)) (fun j hj => f (111 + j) p (by omega)) (q2.pp hp)).1
  have e1 : ∀ p, p < cfg h 0 0 → cfg h' 1 p = cfg h 1 p ∧ cfg h' 2 p = cfg h 2 p := fun p hp => ⟨congrArg cN (f 111 p (by omega)), congrArg cN (f 112 p (by omega))⟩
  have pk : ∀ p, p < cfg h 0 1 → PKn (cfg h 0 0) h' p := fun p hp => by
    exact PK_congr (h := h) (by omega) (fun j hj => f (13 + p) j (by omega)) (fun j hj => f (116 + j) p (by omega)) (q2.pk hp)
  have pm : ∀ m, m < cfg h 0 2 → PMn (cfg h 0 0) h' m := fun m hm => by
    exact (PM_congr (h := h) (by omega) (fun j hj => f (17 + 18 * m) (2 + j) (by omega)) (fun j hj => f (119 + j) m (by omega)) (q2.pm hm)).1
  have e13 : ∀ m, m < 4 → cfg h' 13 m = cfg h 13 m := fun m hm => congrArg cN (f 124 m (by omega))
  have pt : ∀ m s, m < cfg h 0 2 → s < cfg h' 13 m → PTn h' m s := fun m s hm hs => by
    rw [e13 m (by omega)] at hs
    have h3 := (q2.1.2.2.2.1 m hm).2.2.2.2.2
    exact PT_congr (fun j hj => f (20 + 18 * m + s) j (by omega)) (fun j hj => f (125 + j) (3 * m + s) (by omega)) (by rw [f 109 24 (by omega)]) (q2.pt hm hs)
  have po : ∀ i, i < cfg h 0 2 → mI h' 8 i = nI (cfg h' 14 i) ∧ cfg h' 14 i < cfg h 0 2 := fun i hi => by
    have e : cfg h' 14 i = cfg h 14 i := congrArg cN (f 8 i (by omega))
    rw [f 8 i (by omega), e]
    exact q2.2.2.2.2.2.2.2.1 i hi
  obtain ⟨cf, E0, E1, E2⟩ := CF_of (h := h') (np := cfg h 0 0) (nc := cfg h 0 1) (nm := cfg h 0 2) ⟨by omega, by omega, by omega⟩ ⟨by rw [f 4 4 (by omega)]; exact a4, by rw [f 4 5 (by omega)]; exact a5, by rw [f 4 6 (by omega)]; exact a6⟩ ⟨by rw [f 109 3 (by omega)]; exact c3, by rw [f 109 9 (by omega)]; exact c9, by rw [f 109 13 (by omega)]; exact c13⟩ pp pk pm pt po (fun e2 => ORD_congr e2 (fun i hi => congrArg cN (f 8 i (by omega))) (fun m hm => congrArg cN (f 121 m (by omega))) q2.2.2.2.2.2.2.2.2)
  refine RL_build q0 g (fun x j z => f x j (by unfold FB F3 F4 F5 F7 F8 F9 F10 F11 F12 isM isK at z; omega)) fj fr cf (by omega) e1 (by omega) (fun m hm => Or.inl (f 119 m (by omega))) (B6_of q6 (by omega) (by omega) (fun p hp z => f (9 + p) 3 (by omega)) (fun m hm z => ⟨f (17 + 18 * m) 7 (by omega), f 124 m (by omega)⟩) (fun m s hm hs z => ?_))
  rw [e13 m hm] at z
  exact ⟨z, f (20 + 18 * m + s) 4 (by omega)⟩
theorem chan_rel {h h' : mM} {k : Nat} (q : RLN h k) {a b w : Nat} (h9 : cfg h 0 1 < 4) (b1 : a < cfg h 0 0) (b2 : b < cfg h 0 0) (b3 : a ≠ b) (b4 : w ≤ 200) (g : G h') (f : ∀ x j, ¬ ((x = 13 + cfg h 0 1 ∧ j < 3) ∨ (x = 4 ∧ j = 5) ∨ (116 ≤ x ∧ x ≤ 118 ∧ j = cfg h 0 1) ∨ (x = 109 ∧ j = 9)) → mI h' x j = mI h x j) (fj : ∀ a j, mJ h' a j = mJ h a j) (fr : ∀ a j, mR h' a j = mR h a j) (v0 : mI h' (13 + cfg h 0 1) 0 = nI a) (v1 : mI h' (13 + cfg h 0 1) 1 = nI b) (v2 : mI h' (13 + cfg h 0 1) 2 = nI w) (v4 : mI h' 4 5 = nI (cfg h 0 1 + 1)) (m0 : mI h' 116 (cfg h 0 1) = nI a) (m1 : mI h' 117 (cfg h 0 1) = nI b) (m2 : mI h' 118 (cfg h 0 1) = nI w) (m4 : mI h' 109 9 = nI (cfg h 0 1 + 1)) : RLN h' (k + 1) := by
  have q0 := q
  obtain ⟨⟨a4, a5, a6⟩, ⟨c3, c9, c13⟩, n4, n5, n6⟩ := q.cnt
  obtain ⟨_, q2, _, hr, _, _, _, q6, _⟩ := q
  have pp : ∀ p, p < cfg h 0 0 → PPn h' p := fun p hp => by
    exact (PP_congr (h := h) (fun j hj => f (9 + p) j (by omega)) (fun j hj => f (111 + j) p (by omega)) (q2.pp hp)).1
  have e1 : ∀ p, p < cfg h 0 0 → cfg h' 1 p = cfg h 1 p ∧ cfg h' 2 p = cfg h 2 p := fun p hp => ⟨congrArg cN (f 111 p (by omega)), congrArg cN (f 112 p (by omega))⟩
  have pk : ∀ p, p < cfg h 0 1 + 1 → PKn (cfg h 0 0) h' p := fun p hp => by
    rcases Nat.lt_or_ge p (cfg h 0 1) with z | z
    · exact PK_congr (h := h) (by omega) (fun j hj => f (13 + p) j (by omega)) (fun j hj => f (116 + j) p (by omega)) (q2.pk z)
    · have e : p = cfg h 0 1 := by omega
      rw [e]
      exact PK_new n4 b1 b2 b3 b4 v0 v1 v2 m0 m1 m2
  have pm : ∀ m, m < cfg h 0 2 → PMn (cfg h 0 0) h' m := fun m hm => by
    exact (PM_congr (h := h) (by omega) (fun j hj => f (17 + 18 * m) (2 + j) (by omega)) (fun j hj => f (119 + j) m (by omega)) (q2.pm hm)).1
  have e13 : ∀ m, m < 4 → cfg h' 13 m = cfg h 13 m := fun m hm => congrArg cN (f 124 m (by omega))
  have pt : ∀ m s, m < cfg h 0 2 → s < cfg h' 13 m → PTn h' m s := fun m s hm hs => by
    rw [e13 m (by omega)] at hs
    have h3 := (q2.1.2.2.2.1 m hm).2.2.2.2.2
    exact PT_congr (fun j hj => f (20 + 18 * m + s) j (by omega)) (fun j hj => f (125 + j) (3 * m + s) (by omega)) (by rw [f 109 24 (by omega)]) (q2.pt hm hs)
  have po : ∀ i, i < cfg h 0 2 → mI h' 8 i = nI (cfg h' 14 i) ∧ cfg h' 14 i < cfg h 0 2 := fun i hi => by
    have e : cfg h' 14 i = cfg h 14 i := congrArg cN (f 8 i (by omega))
    rw [f 8 i (by omega), e]
    exact q2.2.2.2.2.2.2.2.1 i hi
  obtain ⟨cf, E0, E1, E2⟩ := CF_of (h := h') (np := cfg h 0 0) (nc := cfg h 0 1 + 1) (nm := cfg h 0 2) ⟨by omega, by omega, by omega⟩ ⟨by rw [f 4 4 (by omega)]; exact a4, v4, by rw [f 4 6 (by omega)]; exact a6⟩ ⟨by rw [f 109 3 (by omega)]; exact c3, m4, by rw [f 109 13 (by omega)]; exact c13⟩ pp pk pm pt po (fun e2 => ORD_congr e2 (fun i hi => congrArg cN (f 8 i (by omega))) (fun m hm => congrArg cN (f 121 m (by omega))) q2.2.2.2.2.2.2.2.2)
  refine RL_build q0 g (fun x j z => f x j (by unfold FB F3 F4 F5 F7 F8 F9 F10 F11 F12 isM isK at z; omega)) fj fr cf (by omega) e1 (by omega) (fun m hm => Or.inl (f 119 m (by omega))) (B6_of q6 (by omega) (by omega) (fun p hp z => f (9 + p) 3 (by omega)) (fun m hm z => ⟨f (17 + 18 * m) 7 (by omega), f 124 m (by omega)⟩) (fun m s hm hs z => ?_))
  rw [e13 m hm] at z
  exact ⟨z, f (20 + 18 * m + s) 4 (by omega)⟩
theorem widen_rel {h h' : mM} {k : Nat} (q : RLN h k) {P v : Nat} (hP : P < cfg h 0 1) (b1 : v ≤ 200) (g : G h') (f : ∀ x j, ¬ ((x = 13 + P ∧ j = 2) ∨ (x = 118 ∧ j = P)) → mI h' x j = mI h x j) (fj : ∀ a j, mJ h' a j = mJ h a j) (fr : ∀ a j, mR h' a j = mR h a j) (v3 : mI h' (13 + P) 2 = nI v) (m3 : mI h' 118 P = nI v) : RLN h' (k + 1) := by
  have q0 := q
  obtain ⟨⟨a4, a5, a6⟩, ⟨c3, c9, c13⟩, n4, n5, n6⟩ := q.cnt
  obtain ⟨_, q2, _, hr, _, _, _, q6, _⟩ := q
  have pp : ∀ p, p < cfg h 0 0 → PPn h' p := fun p hp => by
    exact (PP_congr (h := h) (fun j hj => f (9 + p) j (by omega)) (fun j hj => f (111 + j) p (by omega)) (q2.pp hp)).1
  have e1 : ∀ p, p < cfg h 0 0 → cfg h' 1 p = cfg h 1 p ∧ cfg h' 2 p = cfg h 2 p := fun p hp => ⟨congrArg cN (f 111 p (by omega)), congrArg cN (f 112 p (by omega))⟩
  have pk : ∀ p, p < cfg h 0 1 → PKn (cfg h 0 0) h' p := fun p hp => by
    by_cases z : p = P
    · subst z
      obtain ⟨⟨c0, c1, _⟩, d0, d1, _⟩ := q2.k hp
      have b := (q2.pk hp).1
      exact PK_new n4 b.1 b.2.1 b.2.2.1 b1 (by rw [f (13 + p) 0 (by omega)]; exact c0) (by rw [f (13 + p) 1 (by omega)]; exact c1) v3 (by rw [f 116 p (by omega)]; exact d0) (by rw [f 117 p (by omega)]; exact d1) m3
    · exact PK_congr (h := h) (by omega) (fun j hj => f (13 + p) j (by omega)) (fun j hj => f (116 + j) p (by omega)) (q2.pk hp)
  have pm : ∀ m, m < cfg h 0 2 → PMn (cfg h 0 0) h' m := fun m hm => by
    exact (PM_congr (h := h) (by omega) (fun j hj => f (17 + 18 * m) (2 + j) (by omega)) (fun j hj => f (119 + j) m (by omega)) (q2.pm hm)).1
  have e13 : ∀ m, m < 4 → cfg h' 13 m = cfg h 13 m := fun m hm => congrArg cN (f 124 m (by omega))
  have pt : ∀ m s, m < cfg h 0 2 → s < cfg h' 13 m → PTn h' m s := fun m s hm hs => by
    rw [e13 m (by omega)] at hs
    have h3 := (q2.1.2.2.2.1 m hm).2.2.2.2.2
    exact PT_congr (fun j hj => f (20 + 18 * m + s) j (by omega)) (fun j hj => f (125 + j) (3 * m + s) (by omega)) (by rw [f 109 24 (by omega)]) (q2.pt hm hs)
  have po : ∀ i, i < cfg h 0 2 → mI h' 8 i = nI (cfg h' 14 i) ∧ cfg h' 14 i < cfg h 0 2 := fun i hi => by
    have e : cfg h' 14 i = cfg h 14 i := congrArg cN (f 8 i (by omega))
    rw [f 8 i (by omega), e]
    exact q2.2.2.2.2.2.2.2.1 i hi
  obtain ⟨cf, E0, E1, E2⟩ := CF_of (h := h') (np := cfg h 0 0) (nc := cfg h 0 1) (nm := cfg h 0 2) ⟨by omega, by omega, by omega⟩ ⟨by rw [f 4 4 (by omega)]; exact a4, by rw [f 4 5 (by omega)]; exact a5, by rw [f 4 6 (by omega)]; exact a6⟩ ⟨by rw [f 109 3 (by omega)]; exact c3, by rw [f 109 9 (by omega)]; exact c9, by rw [f 109 13 (by omega)]; exact c13⟩ pp pk pm pt po (fun e2 => ORD_congr e2 (fun i hi => congrArg cN (f 8 i (by omega))) (fun m hm => congrArg cN (f 121 m (by omega))) q2.2.2.2.2.2.2.2.2)
  refine RL_build q0 g (fun x j z => f x j (by unfold FB F3 F4 F5 F7 F8 F9 F10 F11 F12 isM isK at z; omega)) fj fr cf (by omega) e1 (by omega) (fun m hm => Or.inl (f 119 m (by omega))) (B6_of q6 (by omega) (by omega) (fun p hp z => f (9 + p) 3 (by omega)) (fun m hm z => ⟨f (17 + 18 * m) 7 (by omega), f 124 m (by omega)⟩) (fun m s hm hs z => ?_))
  rw [e13 m hm] at z
  exact ⟨z, f (20 + 18 * m + s) 4 (by omega)⟩
theorem onM_set {x : Int32} {s s' : Nat} (hs : s < 32) (hs' : s' < 32) : onM (x ||| (1 : Int32) <<< (nI s &&& 31)) s' = if s' = s then nI 1 else onM x s' := by
  rw [onM_bt hs', b_or, bt_bit hs hs']
  by_cases e : s' = s
  · rw [if_pos e, decide_eq_true e, Bool.or_true, if_pos rfl]
  · rw [if_neg e, decide_eq_false e, Bool.or_false, onM_bt hs']
theorem onM_put {x : Int32} {s s' i : Nat} (hs : s < 32) (hs' : s' < 32) (hi : i ≤ 1) : onM (x &&& ((1 : Int32) <<< (nI s &&& 31) ^^^ (-1)) ||| nI i <<< (nI s &&& 31)) s' = if s' = s then nI i else onM x s' := by
  rw [onM_bt hs', b_or, b_and, b_xor, bt_bit hs hs', b_m1 s' hs', b_shl s hs (nI i) hs']
  by_cases e : s' = s
  · subst e
    rw [if_pos rfl, decide_eq_true rfl, decide_eq_true (Nat.le_refl s'), Nat.sub_self]
    rcases (show i = 0 ∨ i = 1 by omega) with z | z <;> subst z
    · rw [show bt (nI 0) 0 = false from by decide +kernel, Bool.and_false, Bool.or_false, show (true ^^ true) = false from rfl, Bool.and_false, if_neg (by decide)]
    · rw [show bt (nI 1) 0 = true from by decide +kernel, Bool.and_true, Bool.or_true, if_pos rfl]
  · rw [if_neg e, decide_eq_false e, Bool.false_xor, Bool.and_true, onM_bt hs']
    have z : (decide (s ≤ s') && bt (nI i) (s' - s)) = false := by
      by_cases z1 : s ≤ s'
      · rcases (show i = 0 ∨ i = 1 by omega) with z | z <;> subst z
        · rw [show bt (nI 0) (s' - s) = false from b_0 _, Bool.and_false]
        · rw [show bt (nI 1) (s' - s) = decide (s' - s = 0) from bt_one _ (by omega), decide_eq_true z1, Bool.true_and, decide_eq_false (by omega)]
      · rw [decide_eq_false z1, Bool.false_and]
    rw [z, Bool.or_false]
theorem stone_rel {h h' : mM} {k : Nat} (q : RLN h k) {M a b c e : Nat} (hM : M < cfg h 0 2) (h3 : cfg h 13 M < 3) (b1 : 1 ≤ a ∧ a ≤ 200) (b2 : 1 ≤ b ∧ b ≤ 1000) (b3 : 1 ≤ c ∧ c ≤ 20) (b4 : 1 ≤ e ∧ e ≤ 1000) (g : G h') (f : ∀ x j, ¬ ((x = 20 + 18 * M + cfg h 13 M ∧ j < 4) ∨ (x = 17 + 18 * M ∧ j = 7) ∨ (125 ≤ x ∧ x ≤ 128 ∧ j = 3 * M + cfg h 13 M) ∨ (x = 124 ∧ j = M) ∨ (x = 109 ∧ j = 24)) → mI h' x j = mI h x j) (fj : ∀ a j, mJ h' a j = mJ h a j) (fr : ∀ a j, mR h' a j = mR h a j) (v0 : mI h' (20 + 18 * M + cfg h 13 M) 0 = nI a) (v1 : mI h' (20 + 18 * M + cfg h 13 M) 1 = nI b) (v2 : mI h' (20 + 18 * M + cfg h 13 M) 2 = nI c) (v3 : mI h' (20 + 18 * M + cfg h 13 M) 3 = nI e) (v7 : mI h' (17 + 18 * M) 7 = nI (cfg h 13 M + 1)) (m0 : mI h' 125 (3 * M + cfg h 13 M) = nI a) (m1 : mI h' 126 (3 * M + cfg h 13 M) = nI b) (m2 : mI h' 127 (3 * M + cfg h 13 M) = nI c) (m3 : mI h' 128 (3 * M + cfg h 13 M) = nI e) (m7 : mI h' 124 M = nI (cfg h 13 M + 1)) (m24 : mI h' 109 24 = mI h 109 24 ||| (1 : Int32) <<< (nI (3 * M + cfg h 13 M) &&& 31)) : RLN h' (k + 1) := by
  have q0 := q
  obtain ⟨⟨a4, a5, a6⟩, ⟨c3, c9, c13⟩, n4, n5, n6⟩ := q.cnt
  obtain ⟨_, q2, _, hr, _, _, _, q6, _⟩ := q
  have pp : ∀ p, p < cfg h 0 0 → PPn h' p := fun p hp => by
    exact (PP_congr (h := h) (fun j hj => f (9 + p) j (by omega)) (fun j hj => f (111 + j) p (by omega)) (q2.pp hp)).1
  have e1 : ∀ p, p < cfg h 0 0 → cfg h' 1 p = cfg h 1 p ∧ cfg h' 2 p = cfg h 2 p := fun p hp => ⟨congrArg cN (f 111 p (by omega)), congrArg cN (f 112 p (by omega))⟩
  have pk : ∀ p, p < cfg h 0 1 → PKn (cfg h 0 0) h' p := fun p hp => by
    exact PK_congr (h := h) (by omega) (fun j hj => f (13 + p) j (by omega)) (fun j hj => f (116 + j) p (by omega)) (q2.pk hp)
  have pm : ∀ m, m < cfg h 0 2 → PMn (cfg h 0 0) h' m := fun m hm => by
    by_cases z : m = M
    · subst z
      obtain ⟨⟨x0, x1, x2, x3, x4, _⟩, y0, y1, y2, y3, y4, _⟩ := q2.m hm
      have b := (q2.pm hm).1
      exact (PM_new n4 b.1 b.2.1 b.2.2.1 b.2.2.2.1 b.2.2.2.2.1 (by omega) (by rw [f (17 + 18 * m) 2 (by omega)]; exact x0) (by rw [f (17 + 18 * m) 3 (by omega)]; exact x1) (by rw [f (17 + 18 * m) 4 (by omega)]; exact x2) (by rw [f (17 + 18 * m) 5 (by omega)]; exact x3) (by rw [f (17 + 18 * m) 6 (by omega)]; exact x4) v7 (by rw [f 119 m (by omega)]; exact y0) (by rw [f 120 m (by omega)]; exact y1) (by rw [f 121 m (by omega)]; exact y2) (by rw [f 122 m (by omega)]; exact y3) (by rw [f 123 m (by omega)]; exact y4) m7).1
    · exact (PM_congr (h := h) (by omega) (fun j hj => f (17 + 18 * m) (2 + j) (by omega)) (fun j hj => f (119 + j) m (by omega)) (q2.pm hm)).1
  have e13 : ∀ m, m < 4 → m ≠ M → cfg h' 13 m = cfg h 13 m := fun m hm hn => congrArg cN (f 124 m (by omega))
  have e13M : cfg h' 13 M = cfg h 13 M + 1 := (congrArg cN m7).trans (cN_nI (by omega))
  have pt : ∀ m s, m < cfg h 0 2 → s < cfg h' 13 m → PTn h' m s := fun m s hm hs => by
    have h3m := (q2.1.2.2.2.1 m hm).2.2.2.2.2
    by_cases z : m = M
    · subst z
      rw [e13M] at hs
      by_cases z2 : s = cfg h 13 m
      · rw [z2]
        exact PT_new (v4 := 1) b1 b2 b3 b4 (Nat.le_refl 1) v0 v1 v2 v3 (by rw [f (20 + 18 * m + cfg h 13 m) 4 (by omega)]; exact q6.2.2 m _ (by omega) h3 (Nat.le_refl _)) m0 m1 m2 m3 (by rw [m24, onM_set (by omega) (by omega), if_pos rfl])
      · exact PT_congr (fun j hj => f (20 + 18 * m + s) j (by omega)) (fun j hj => f (125 + j) (3 * m + s) (by omega)) (by rw [m24, onM_set (by omega) (by omega), if_neg (by omega)]) (q2.pt hm (by omega))
    · rw [e13 m (by omega) z] at hs
      exact PT_congr (fun j hj => f (20 + 18 * m + s) j (by omega)) (fun j hj => f (125 + j) (3 * m + s) (by omega)) (by rw [m24, onM_set (by omega) (by omega), if_neg (by omega)]) (q2.pt hm hs)
  have po : ∀ i, i < cfg h 0 2 → mI h' 8 i = nI (cfg h' 14 i) ∧ cfg h' 14 i < cfg h 0 2 := fun i hi => by
    have e : cfg h' 14 i = cfg h 14 i := congrArg cN (f 8 i (by omega))
    rw [f 8 i (by omega), e]
    exact q2.2.2.2.2.2.2.2.1 i hi
  obtain ⟨cf, E0, E1, E2⟩ := CF_of (h := h') (np := cfg h 0 0) (nc := cfg h 0 1) (nm := cfg h 0 2) ⟨by omega, by omega, by omega⟩ ⟨by rw [f 4 4 (by omega)]; exact a4, by rw [f 4 5 (by omega)]; exact a5, by rw [f 4 6 (by omega)]; exact a6⟩ ⟨by rw [f 109 3 (by omega)]; exact c3, by rw [f 109 9 (by omega)]; exact c9, by rw [f 109 13 (by omega)]; exact c13⟩ pp pk pm pt po (fun e2 => ORD_congr e2 (fun i hi => congrArg cN (f 8 i (by omega))) (fun m hm => congrArg cN (f 121 m (by omega))) q2.2.2.2.2.2.2.2.2)
  refine RL_build q0 g (fun x j z => f x j (by unfold FB F3 F4 F5 F7 F8 F9 F10 F11 F12 isM isK at z; omega)) fj fr cf (by omega) e1 (by omega) (fun m hm => Or.inl (f 119 m (by omega))) (B6_of q6 (by omega) (by omega) (fun p hp z => f (9 + p) 3 (by omega)) (fun m hm z => ⟨f (17 + 18 * m) 7 (by omega), f 124 m (by omega)⟩) (fun m s hm hs z => ?_))
  by_cases z2 : m = M
  · subst z2
    rw [e13M] at z
    exact ⟨by omega, f (20 + 18 * m + s) 4 (by omega)⟩
  · rw [e13 m hm z2] at z
    exact ⟨z, f (20 + 18 * m + s) 4 (by omega)⟩
theorem on_rel {h h' : mM} {k : Nat} (q : RLN h k) {M S i : Nat} (hM : M < cfg h 0 2) (hS : S < cfg h 13 M) (b1 : i ≤ 1) (g : G h') (f : ∀ x j, ¬ ((x = 20 + 18 * M + S ∧ j = 4) ∨ (x = 109 ∧ j = 24)) → mI h' x j = mI h x j) (fj : ∀ a j, mJ h' a j = mJ h a j) (fr : ∀ a j, mR h' a j = mR h a j) (v4 : mI h' (20 + 18 * M + S) 4 = nI i) (m24 : mI h' 109 24 = (mI h 109 24 &&& ((1 : Int32) <<< (nI (3 * M + S) &&& 31) ^^^ (-1)) ||| nI i <<< (nI (3 * M + S) &&& 31))) : RLN h' (k + 1) := by
  have q0 := q
  obtain ⟨⟨a4, a5, a6⟩, ⟨c3, c9, c13⟩, n4, n5, n6⟩ := q.cnt
  obtain ⟨_, q2, _, hr, _, _, _, q6, _⟩ := q
  have hS3 := (q2.1.2.2.2.1 M hM).2.2.2.2.2
  have pp : ∀ p, p < cfg h 0 0 → PPn h' p := fun p hp => by
    exact (PP_congr (h := h) (fun j hj => f (9 + p) j (by omega)) (fun j hj => f (111 + j) p (by omega)) (q2.pp hp)).1
  have e1 : ∀ p, p < cfg h 0 0 → cfg h' 1 p = cfg h 1 p ∧ cfg h' 2 p = cfg h 2 p := fun p hp => ⟨congrArg cN (f 111 p (by omega)), congrArg cN (f 112 p (by omega))⟩
  have pk : ∀ p, p < cfg h 0 1 → PKn (cfg h 0 0) h' p := fun p hp => by
    exact PK_congr (h := h) (by omega) (fun j hj => f (13 + p) j (by omega)) (fun j hj => f (116 + j) p (by omega)) (q2.pk hp)
  have pm : ∀ m, m < cfg h 0 2 → PMn (cfg h 0 0) h' m := fun m hm => by
    exact (PM_congr (h := h) (by omega) (fun j hj => f (17 + 18 * m) (2 + j) (by omega)) (fun j hj => f (119 + j) m (by omega)) (q2.pm hm)).1
  have e13 : ∀ m, m < 4 → cfg h' 13 m = cfg h 13 m := fun m hm => congrArg cN (f 124 m (by omega))
  have pt : ∀ m s, m < cfg h 0 2 → s < cfg h' 13 m → PTn h' m s := fun m s hm hs => by
    rw [e13 m (by omega)] at hs
    have h3 := (q2.1.2.2.2.1 m hm).2.2.2.2.2
    by_cases z : m = M ∧ s = S
    · obtain ⟨z1, z2⟩ := z
      subst z1 z2
      obtain ⟨⟨x0, x1, x2, x3, _⟩, y0, y1, y2, y3, _⟩ := q2.s hm hs
      have b := (q2.pt hm hs).1
      exact PT_new b.1 b.2.1 b.2.2.1 b.2.2.2.1 b1 (by rw [f (20 + 18 * m + s) 0 (by omega)]; exact x0) (by rw [f (20 + 18 * m + s) 1 (by omega)]; exact x1) (by rw [f (20 + 18 * m + s) 2 (by omega)]; exact x2) (by rw [f (20 + 18 * m + s) 3 (by omega)]; exact x3) v4 (by rw [f 125 (3 * m + s) (by omega)]; exact y0) (by rw [f 126 (3 * m + s) (by omega)]; exact y1) (by rw [f 127 (3 * m + s) (by omega)]; exact y2) (by rw [f 128 (3 * m + s) (by omega)]; exact y3) (by rw [m24, onM_put (by omega) (by omega) b1, if_pos rfl])
    · exact PT_congr (fun j hj => f (20 + 18 * m + s) j (by omega)) (fun j hj => f (125 + j) (3 * m + s) (by omega)) (by rw [m24, onM_put (by omega) (by omega) b1, if_neg (by omega)]) (q2.pt hm hs)
  have po : ∀ i, i < cfg h 0 2 → mI h' 8 i = nI (cfg h' 14 i) ∧ cfg h' 14 i < cfg h 0 2 := fun i hi => by
    have e : cfg h' 14 i = cfg h 14 i := congrArg cN (f 8 i (by omega))
    rw [f 8 i (by omega), e]
    exact q2.2.2.2.2.2.2.2.1 i hi
  obtain ⟨cf, E0, E1, E2⟩ := CF_of (h := h') (np := cfg h 0 0) (nc := cfg h 0 1) (nm := cfg h 0 2) ⟨by omega, by omega, by omega⟩ ⟨by rw [f 4 4 (by omega)]; exact a4, by rw [f 4 5 (by omega)]; exact a5, by rw [f 4 6 (by omega)]; exact a6⟩ ⟨by rw [f 109 3 (by omega)]; exact c3, by rw [f 109 9 (by omega)]; exact c9, by rw [f 109 13 (by omega)]; exact c13⟩ pp pk pm pt po (fun e2 => ORD_congr e2 (fun i hi => congrArg cN (f 8 i (by omega))) (fun m hm => congrArg cN (f 121 m (by omega))) q2.2.2.2.2.2.2.2.2)
  refine RL_build q0 g (fun x j z => f x j (by unfold FB F3 F4 F5 F7 F8 F9 F10 F11 F12 isM isK at z; omega)) fj fr cf (by omega) e1 (by omega) (fun m hm => Or.inl (f 119 m (by omega))) (B6_of q6 (by omega) (by omega) (fun p hp z => f (9 + p) 3 (by omega)) (fun m hm z => ⟨f (17 + 18 * m) 7 (by omega), f 124 m (by omega)⟩) (fun m s hm hs z => ?_))
  rw [e13 m hm] at z
  by_cases zz : m = M
  · subst zz
    exact ⟨z, f (20 + 18 * m + s) 4 (by omega)⟩
  · exact ⟨z, f (20 + 18 * m + s) 4 (by omega)⟩
