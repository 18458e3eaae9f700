-- what is built, part by part (gen_build.py)
def PPn (h : mM) (p : Nat) : Prop := ((1 ≤ cfg h 1 p ∧ cfg h 1 p ≤ 100) ∧ (1 ≤ cfg h 2 p ∧ cfg h 2 p ≤ 250) ∧ cfg h 3 p ≤ 200 ∧ cfg h 4 p ≤ 2) ∧ ∀ j, j < 4 → mI h (9 + p) j = mI h (111 + j) p ∧ mI h (111 + j) p = nI (cfg h (1 + j) p)
def PKn (np : Nat) (h : mM) (k : Nat) : Prop := (cfg h 5 k < np ∧ cfg h 6 k < np ∧ cfg h 5 k ≠ cfg h 6 k ∧ cfg h 7 k ≤ 200) ∧ ∀ j, j < 3 → mI h (13 + k) j = mI h (116 + j) k ∧ mI h (116 + j) k = nI (cfg h (5 + j) k)
def PMn (np : Nat) (h : mM) (m : Nat) : Prop := (cfg h 8 m ≤ 2 ∧ cfg h 9 m < np ∧ cfg h 10 m ≤ 9 ∧ cfg h 11 m ≤ 250 ∧ cfg h 12 m ≤ 9 ∧ cfg h 13 m ≤ 3) ∧ ∀ j, j < 6 → mI h (17 + 18 * m) (2 + j) = mI h (119 + j) m ∧ mI h (119 + j) m = nI (cfg h (8 + j) m)
def PTn (h : mM) (m s : Nat) : Prop := ((1 ≤ cfg h 15 (3 * m + s) ∧ cfg h 15 (3 * m + s) ≤ 200) ∧ (1 ≤ cfg h 16 (3 * m + s) ∧ cfg h 16 (3 * m + s) ≤ 1000) ∧ (1 ≤ cfg h 17 (3 * m + s) ∧ cfg h 17 (3 * m + s) ≤ 20) ∧ (1 ≤ cfg h 18 (3 * m + s) ∧ cfg h 18 (3 * m + s) ≤ 1000) ∧ cfg h 19 (3 * m + s) ≤ 1) ∧ (∀ j, j < 4 → mI h (20 + 18 * m + s) j = mI h (125 + j) (3 * m + s) ∧ mI h (125 + j) (3 * m + s) = nI (cfg h (15 + j) (3 * m + s))) ∧ mI h (20 + 18 * m + s) 4 = onM (mI h 109 24) (3 * m + s) ∧ onM (mI h 109 24) (3 * m + s) = nI (cfg h 19 (3 * m + s))
theorem CF.pp {h : mM} (q : CF h) {p : Nat} (hp : p < cfg h 0 0) : PPn h p := ⟨q.1.2.1 p hp, q.2.2.2.1 p hp⟩
theorem CF.pk {h : mM} (q : CF h) {p : Nat} (hp : p < cfg h 0 1) : PKn (cfg h 0 0) h p := ⟨q.1.2.2.1 p hp, q.2.2.2.2.1 p hp⟩
theorem CF.pm {h : mM} (q : CF h) {p : Nat} (hp : p < cfg h 0 2) : PMn (cfg h 0 0) h p := ⟨q.1.2.2.2.1 p hp, q.2.2.2.2.2.1 p hp⟩
theorem CF.pt {h : mM} (q : CF h) {m s : Nat} (hm : m < cfg h 0 2) (hs : s < cfg h 13 m) : PTn h m s := ⟨q.1.2.2.2.2 m s hm hs, q.2.2.2.2.2.2.1 m s hm hs⟩
theorem CF_of {h : mM} {np nc nm : Nat} (h4 : np ≤ 4 ∧ nc ≤ 4 ∧ nm ≤ 4) (hc : mI h 4 4 = nI np ∧ mI h 4 5 = nI nc ∧ mI h 4 6 = nI nm) (hm : mI h 109 3 = nI np ∧ mI h 109 9 = nI nc ∧ mI h 109 13 = nI nm) (pp : ∀ p, p < np → PPn h p) (pk : ∀ k, k < nc → PKn np h k) (pm : ∀ m, m < nm → PMn np h m) (pt : ∀ m s, m < nm → s < cfg h 13 m → PTn h m s) (po : ∀ i, i < nm → mI h 8 i = nI (cfg h 14 i) ∧ cfg h 14 i < nm) (or : cfg h 0 2 = nm → ORD (cfg h)) : CF h ∧ cfg h 0 0 = np ∧ cfg h 0 1 = nc ∧ cfg h 0 2 = nm := by
  have e0 : cfg h 0 0 = np := by
    show cN (mI h 109 3) = np
    rw [hm.1]; exact cN_nI (by omega)
  have e1 : cfg h 0 1 = nc := by
    show cN (mI h 109 9) = nc
    rw [hm.2.1]; exact cN_nI (by omega)
  have e2 : cfg h 0 2 = nm := by
    show cN (mI h 109 13) = nm
    rw [hm.2.2]; exact cN_nI (by omega)
  refine ⟨⟨⟨?_, ?_, ?_, ?_, ?_⟩, ⟨hc.1.trans hm.1.symm, hc.2.1.trans hm.2.1.symm, hc.2.2.trans hm.2.2.symm⟩, ?_, ?_, ?_, ?_, ?_, ?_, or e2⟩, e0, e1, e2⟩
  · rw [e0, e1, e2]; exact h4
  · rw [e0]; exact fun p hp => (pp p hp).1
  · rw [e0, e1]; exact fun p hp => (pk p hp).1
  · rw [e0, e2]; exact fun p hp => (pm p hp).1
  · rw [e2]; exact fun m s a b => (pt m s a b).1
  · rw [e0, e1, e2]; exact hm
  · rw [e0]; exact fun p hp => (pp p hp).2
  · rw [e1]; exact fun p hp => (pk p hp).2
  · rw [e2]; exact fun p hp => (pm p hp).2
  · rw [e2]; exact fun m s a b => (pt m s a b).2
  · rw [e2]; exact po
theorem ORD_congr {c c' : Tb} (e0 : c' 0 2 = c 0 2) (e1 : ∀ i, i < c 0 2 → c' 14 i = c 14 i) (e2 : ∀ m, m < c 0 2 → c' 10 m = c 10 m) (q : ORD c) : ORD c' := fun S f x => by
  rw [e0, foldN_congr (g := fun i => f (c 14 i)) _ x (fun i y hi => by show f (c' 14 i) y = _; rw [e1 i hi]), q S f x]
  refine foldN_congr _ _ (fun k y hk => foldN_congr _ _ (fun m z hm => ?_))
  show (if c 10 m = k then _ else _) = (if c' 10 m = k then _ else _)
  rw [e2 m hm]
theorem PP_congr {h h' : mM} {p : Nat} (f1 : ∀ j, j < 4 → mI h' (9 + p) j = mI h (9 + p) j) (f2 : ∀ j, j < 4 → mI h' (111 + j) p = mI h (111 + j) p) (q : PPn h p) : PPn h' p ∧ cfg h' 1 p = cfg h 1 p ∧ cfg h' 2 p = cfg h 2 p := by
  have e1 : cfg h' 1 p = cfg h 1 p := congrArg cN (f2 0 (by omega))
  have e2 : cfg h' 2 p = cfg h 2 p := congrArg cN (f2 1 (by omega))
  have e3 : cfg h' 3 p = cfg h 3 p := congrArg cN (f2 2 (by omega))
  have e4 : cfg h' 4 p = cfg h 4 p := congrArg cN (f2 3 (by omega))
  have e : ∀ j, j < 4 → cfg h' (1 + j) p = cfg h (1 + j) p := fun j hj => match j, hj with
    | 0, _ => e1
    | 1, _ => e2
    | 2, _ => e3
    | 3, _ => e4
    | j + 4, hj => absurd hj (by omega)
  refine ⟨⟨by rw [e1, e2, e3, e4]; exact q.1, fun j hj => ?_⟩, e1, e2⟩
  rw [f1 j hj, f2 j hj, e j hj]
  exact q.2 j hj
theorem PK_congr {h h' : mM} {np np' k : Nat} (hn : np ≤ np') (f1 : ∀ j, j < 3 → mI h' (13 + k) j = mI h (13 + k) j) (f2 : ∀ j, j < 3 → mI h' (116 + j) k = mI h (116 + j) k) (q : PKn np h k) : PKn np' h' k := by
  have e1 : cfg h' 5 k = cfg h 5 k := congrArg cN (f2 0 (by omega))
  have e2 : cfg h' 6 k = cfg h 6 k := congrArg cN (f2 1 (by omega))
  have e3 : cfg h' 7 k = cfg h 7 k := congrArg cN (f2 2 (by omega))
  have e : ∀ j, j < 3 → cfg h' (5 + j) k = cfg h (5 + j) k := fun j hj => match j, hj with
    | 0, _ => e1
    | 1, _ => e2
    | 2, _ => e3
    | j + 3, hj => absurd hj (by omega)
  have b := q.1
  refine ⟨by rw [e1, e2, e3]; exact ⟨by omega, by omega, b.2.2.1, b.2.2.2⟩, fun j hj => ?_⟩
  rw [f1 j hj, f2 j hj, e j hj]
  exact q.2 j hj
theorem PM_congr {h h' : mM} {np np' m : Nat} (hn : np ≤ np') (f1 : ∀ j, j < 6 → mI h' (17 + 18 * m) (2 + j) = mI h (17 + 18 * m) (2 + j)) (f2 : ∀ j, j < 6 → mI h' (119 + j) m = mI h (119 + j) m) (q : PMn np h m) : PMn np' h' m ∧ cfg h' 13 m = cfg h 13 m ∧ cfg h' 10 m = cfg h 10 m := by
  have e1 : cfg h' 8 m = cfg h 8 m := congrArg cN (f2 0 (by omega))
  have e2 : cfg h' 9 m = cfg h 9 m := congrArg cN (f2 1 (by omega))
  have e3 : cfg h' 10 m = cfg h 10 m := congrArg cN (f2 2 (by omega))
  have e4 : cfg h' 11 m = cfg h 11 m := congrArg cN (f2 3 (by omega))
  have e5 : cfg h' 12 m = cfg h 12 m := congrArg cN (f2 4 (by omega))
  have e6 : cfg h' 13 m = cfg h 13 m := congrArg cN (f2 5 (by omega))
  have e : ∀ j, j < 6 → cfg h' (8 + j) m = cfg h (8 + j) m := fun j hj => match j, hj with
    | 0, _ => e1
    | 1, _ => e2
    | 2, _ => e3
    | 3, _ => e4
    | 4, _ => e5
    | 5, _ => e6
    | j + 6, hj => absurd hj (by omega)
  have b := q.1
  refine ⟨⟨by rw [e1, e2, e3, e4, e5, e6]; exact ⟨b.1, by omega, b.2.2⟩, fun j hj => ?_⟩, e6, e3⟩
  rw [f1 j hj, f2 j hj, e j hj]
  exact q.2 j hj
theorem PT_congr {h h' : mM} {m s : Nat} (f1 : ∀ j, j < 5 → mI h' (20 + 18 * m + s) j = mI h (20 + 18 * m + s) j) (f2 : ∀ j, j < 4 → mI h' (125 + j) (3 * m + s) = mI h (125 + j) (3 * m + s)) (f3 : onM (mI h' 109 24) (3 * m + s) = onM (mI h 109 24) (3 * m + s)) (q : PTn h m s) : PTn h' m s := by
  have e1 : cfg h' 15 (3 * m + s) = cfg h 15 (3 * m + s) := congrArg cN (f2 0 (by omega))
  have e2 : cfg h' 16 (3 * m + s) = cfg h 16 (3 * m + s) := congrArg cN (f2 1 (by omega))
  have e3 : cfg h' 17 (3 * m + s) = cfg h 17 (3 * m + s) := congrArg cN (f2 2 (by omega))
  have e4 : cfg h' 18 (3 * m + s) = cfg h 18 (3 * m + s) := congrArg cN (f2 3 (by omega))
  have e5 : cfg h' 19 (3 * m + s) = cfg h 19 (3 * m + s) := congrArg cN f3
  have e : ∀ j, j < 4 → cfg h' (15 + j) (3 * m + s) = cfg h (15 + j) (3 * m + s) := fun j hj => match j, hj with
    | 0, _ => e1
    | 1, _ => e2
    | 2, _ => e3
    | 3, _ => e4
    | j + 4, hj => absurd hj (by omega)
  refine ⟨by rw [e1, e2, e3, e4, e5]; exact q.1, fun j hj => ?_, ?_⟩
  · rw [f1 j (by omega), f2 j hj, e j hj]
    exact q.2.1 j hj
  · rw [f1 4 (by omega), f3, e5]
    exact q.2.2
theorem PP_new {h : mM} {p a b w g : Nat} (b1 : 1 ≤ a ∧ a ≤ 100) (b2 : 1 ≤ b ∧ b ≤ 250) (b3 : w ≤ 200) (b4 : g ≤ 2) (e0 : mI h (9 + p) 0 = nI a) (e1 : mI h (9 + p) 1 = nI b) (e2 : mI h (9 + p) 2 = nI w) (e3 : mI h (9 + p) 3 = nI g) (m0 : mI h 111 p = nI a) (m1 : mI h 112 p = nI b) (m2 : mI h 113 p = nI w) (m3 : mI h 114 p = nI g) : PPn h p := by
  have c1 : cfg h 1 p = a := (congrArg cN m0).trans (cN_nI (by omega))
  have c2 : cfg h 2 p = b := (congrArg cN m1).trans (cN_nI (by omega))
  have c3 : cfg h 3 p = w := (congrArg cN m2).trans (cN_nI (by omega))
  have c4 : cfg h 4 p = g := (congrArg cN m3).trans (cN_nI (by omega))
  refine ⟨by rw [c1, c2, c3, c4]; exact ⟨b1, b2, b3, b4⟩, fun j hj => ?_⟩
  match j, hj with
  | 0, _ => exact ⟨e0.trans m0.symm, m0.trans (congrArg nI c1.symm)⟩
  | 1, _ => exact ⟨e1.trans m1.symm, m1.trans (congrArg nI c2.symm)⟩
  | 2, _ => exact ⟨e2.trans m2.symm, m2.trans (congrArg nI c3.symm)⟩
  | 3, _ => exact ⟨e3.trans m3.symm, m3.trans (congrArg nI c4.symm)⟩
  | j + 4, hj => exact absurd hj (by omega)
theorem PK_new {h : mM} {np p a b w : Nat} (hp : np ≤ 4) (b1 : a < np) (b2 : b < np) (b3 : a ≠ b) (b4 : w ≤ 200) (e0 : mI h (13 + p) 0 = nI a) (e1 : mI h (13 + p) 1 = nI b) (e2 : mI h (13 + p) 2 = nI w) (m0 : mI h 116 p = nI a) (m1 : mI h 117 p = nI b) (m2 : mI h 118 p = nI w) : PKn np h p := by
  have c1 : cfg h 5 p = a := (congrArg cN m0).trans (cN_nI (by omega))
  have c2 : cfg h 6 p = b := (congrArg cN m1).trans (cN_nI (by omega))
  have c3 : cfg h 7 p = w := (congrArg cN m2).trans (cN_nI (by omega))
  refine ⟨by rw [c1, c2, c3]; exact ⟨b1, b2, b3, b4⟩, fun j hj => ?_⟩
  match j, hj with
  | 0, _ => exact ⟨e0.trans m0.symm, m0.trans (congrArg nI c1.symm)⟩
  | 1, _ => exact ⟨e1.trans m1.symm, m1.trans (congrArg nI c2.symm)⟩
  | 2, _ => exact ⟨e2.trans m2.symm, m2.trans (congrArg nI c3.symm)⟩
  | j + 3, hj => exact absurd hj (by omega)
theorem PM_new {h : mM} {np p v0 v1 v2 v3 v4 v5 : Nat} (hp : np ≤ 4) (b0 : v0 ≤ 2) (b1 : v1 < np) (b2 : v2 ≤ 9) (b3 : v3 ≤ 250) (b4 : v4 ≤ 9) (b5 : v5 ≤ 3) (e0 : mI h (17 + 18 * p) 2 = nI v0) (e1 : mI h (17 + 18 * p) 3 = nI v1) (e2 : mI h (17 + 18 * p) 4 = nI v2) (e3 : mI h (17 + 18 * p) 5 = nI v3) (e4 : mI h (17 + 18 * p) 6 = nI v4) (e5 : mI h (17 + 18 * p) 7 = nI v5) (m0 : mI h 119 p = nI v0) (m1 : mI h 120 p = nI v1) (m2 : mI h 121 p = nI v2) (m3 : mI h 122 p = nI v3) (m4 : mI h 123 p = nI v4) (m5 : mI h 124 p = nI v5) : PMn np h p ∧ cfg h 13 p = v5 ∧ cfg h 10 p = v2 := by
  have c0 : cfg h 8 p = v0 := (congrArg cN m0).trans (cN_nI (by omega))
  have c1 : cfg h 9 p = v1 := (congrArg cN m1).trans (cN_nI (by omega))
  have c2 : cfg h 10 p = v2 := (congrArg cN m2).trans (cN_nI (by omega))
  have c3 : cfg h 11 p = v3 := (congrArg cN m3).trans (cN_nI (by omega))
  have c4 : cfg h 12 p = v4 := (congrArg cN m4).trans (cN_nI (by omega))
  have c5 : cfg h 13 p = v5 := (congrArg cN m5).trans (cN_nI (by omega))
  refine ⟨⟨by rw [c0, c1, c2, c3, c4, c5]; exact ⟨b0, b1, b2, b3, b4, b5⟩, fun j hj => ?_⟩, c5, c2⟩
  match j, hj with
  | 0, _ => exact ⟨e0.trans m0.symm, m0.trans (congrArg nI c0.symm)⟩
  | 1, _ => exact ⟨e1.trans m1.symm, m1.trans (congrArg nI c1.symm)⟩
  | 2, _ => exact ⟨e2.trans m2.symm, m2.trans (congrArg nI c2.symm)⟩
  | 3, _ => exact ⟨e3.trans m3.symm, m3.trans (congrArg nI c3.symm)⟩
  | 4, _ => exact ⟨e4.trans m4.symm, m4.trans (congrArg nI c4.symm)⟩
  | 5, _ => exact ⟨e5.trans m5.symm, m5.trans (congrArg nI c5.symm)⟩
  | j + 6, hj => exact absurd hj (by omega)
theorem PT_new {h : mM} {m s v0 v1 v2 v3 v4 : Nat} (b0 : 1 ≤ v0 ∧ v0 ≤ 200) (b1 : 1 ≤ v1 ∧ v1 ≤ 1000) (b2 : 1 ≤ v2 ∧ v2 ≤ 20) (b3 : 1 ≤ v3 ∧ v3 ≤ 1000) (b4 : v4 ≤ 1) (e0 : mI h (20 + 18 * m + s) 0 = nI v0) (e1 : mI h (20 + 18 * m + s) 1 = nI v1) (e2 : mI h (20 + 18 * m + s) 2 = nI v2) (e3 : mI h (20 + 18 * m + s) 3 = nI v3) (e4 : mI h (20 + 18 * m + s) 4 = nI v4) (m0 : mI h 125 (3 * m + s) = nI v0) (m1 : mI h 126 (3 * m + s) = nI v1) (m2 : mI h 127 (3 * m + s) = nI v2) (m3 : mI h 128 (3 * m + s) = nI v3) (m4 : onM (mI h 109 24) (3 * m + s) = nI v4) : PTn h m s := by
  have c0 : cfg h 15 (3 * m + s) = v0 := (congrArg cN m0).trans (cN_nI (by omega))
  have c1 : cfg h 16 (3 * m + s) = v1 := (congrArg cN m1).trans (cN_nI (by omega))
  have c2 : cfg h 17 (3 * m + s) = v2 := (congrArg cN m2).trans (cN_nI (by omega))
  have c3 : cfg h 18 (3 * m + s) = v3 := (congrArg cN m3).trans (cN_nI (by omega))
  have c4 : cfg h 19 (3 * m + s) = v4 := (congrArg cN m4).trans (cN_nI (by omega))
  refine ⟨by rw [c0, c1, c2, c3, c4]; exact ⟨b0, b1, b2, b3, b4⟩, fun j hj => ?_, e4.trans m4.symm, m4.trans (congrArg nI c4.symm)⟩
  match j, hj with
  | 0, _ => exact ⟨e0.trans m0.symm, m0.trans (congrArg nI c0.symm)⟩
  | 1, _ => exact ⟨e1.trans m1.symm, m1.trans (congrArg nI c1.symm)⟩
  | 2, _ => exact ⟨e2.trans m2.symm, m2.trans (congrArg nI c2.symm)⟩
  | 3, _ => exact ⟨e3.trans m3.symm, m3.trans (congrArg nI c3.symm)⟩
  | j + 4, hj => exact absurd hj (by omega)
def FB (a j : Nat) : Prop := F3 a j ∨ F4 a j ∨ F5 a j ∨ F7 a j ∨ F8 a j ∨ F9 a j ∨ F10 a j ∨ F11 a j ∨ F12 a j
theorem B6_of {h h' : mM} (q : B6 h) (e0 : cfg h 0 0 ≤ cfg h' 0 0) (e2 : cfg h 0 2 ≤ cfg h' 0 2) (f1 : ∀ p, p < 4 → cfg h' 0 0 ≤ p → mI h' (9 + p) 3 = mI h (9 + p) 3) (f2 : ∀ m, m < 4 → cfg h' 0 2 ≤ m → mI h' (17 + 18 * m) 7 = mI h (17 + 18 * m) 7 ∧ mI h' 124 m = mI h 124 m) (f3 : ∀ m s, m < 4 → s < 3 → cfg h' 13 m ≤ s → cfg h 13 m ≤ s ∧ mI h' (20 + 18 * m + s) 4 = mI h (20 + 18 * m + s) 4) : B6 h' := by
  refine ⟨fun p hp z => ?_, fun m hm z => ?_, fun m s hm hs z => ?_⟩
  · rw [f1 p hp z]; exact q.1 p hp (by omega)
  · rw [(f2 m hm z).1, (f2 m hm z).2]; exact q.2.1 m hm (by omega)
  · rw [(f3 m s hm hs z).2]; exact q.2.2 m s hm hs (f3 m s hm hs z).1
theorem RL_build {h h' : mM} {k : Nat} (q : RLN h k) (g : G h') (f : ∀ a j, FB a j → mI h' a j = mI h a j) (fj : ∀ a j, mJ h' a j = mJ h a j) (fr : ∀ a j, mR h' a j = mR h a j) (cf : CF h') (e0 : cfg h 0 0 ≤ cfg h' 0 0) (e1 : ∀ p, p < cfg h 0 0 → cfg h' 1 p = cfg h 1 p ∧ cfg h' 2 p = cfg h 2 p) (e2 : cfg h 0 2 ≤ cfg h' 0 2) (e3 : ∀ m, m < 4 → mI h' 119 m = mI h 119 m ∨ cfg h 0 2 ≤ m) (b6 : B6 h') : RLN h' (k + 1) := by
  obtain ⟨_, q2, ⟨rd, q3⟩, hr, h10, q4, q5, q6, ⟨qs, q7⟩, q8, q9, q10, q11, q12⟩ := q
  have i5 : ∀ a j, F5 a j → FB a j := fun a j z => Or.inr (Or.inr (Or.inl z))
  have i7 : ∀ a j, F7 a j → FB a j := fun a j z => Or.inr (Or.inr (Or.inr (Or.inl z)))
  refine ⟨g, cf, ⟨rd, B3_congr (fun a j z => f a j (Or.inl z)) q3⟩, hr, h10, B4_congr (fun a j z => f a j (Or.inr (Or.inl z))) q4, fun p hp => ?_, b6, ⟨qs, ?_⟩, B8_congr (fun a j z => f a j (Or.inr (Or.inr (Or.inr (Or.inr (Or.inl z)))))) (fun j => fj _ _) q8, B9_congr (fun a j z => f a j (Or.inr (Or.inr (Or.inr (Or.inr (Or.inr (Or.inl z))))))) (fun j => fj _ _) q9, B10_congr (fun a j z => f a j (Or.inr (Or.inr (Or.inr (Or.inr (Or.inr (Or.inr (Or.inl z)))))))) (fun j => fj _ _) q10, B11_congr (fun a j z => f a j (Or.inr (Or.inr (Or.inr (Or.inr (Or.inr (Or.inr (Or.inr (Or.inl z))))))))) q11, B12_congr (fun a j z => f a j (Or.inr (Or.inr (Or.inr (Or.inr (Or.inr (Or.inr (Or.inr (Or.inr z))))))))) (fun j => fj _ _) q12⟩
  · obtain ⟨w, w1, w2, w3, w4⟩ := q5 p hp
    refine ⟨w, ?_, ?_, fun z => ?_, fun z => w4 (by omega)⟩
    · rw [f 104 p (i5 _ _ (by unfold F5; omega))]; exact w1
    · rw [f 115 p (i5 _ _ (by unfold F5; omega))]; exact w2
    · by_cases z2 : p < cfg h 0 0
      · rw [(e1 p z2).1, (e1 p z2).2]; exact w3 z2
      · rw [w4 (by omega)]; exact Nat.zero_le _
  · obtain ⟨q1, q22, q33⟩ := q7
    refine ⟨fun m hm => ?_, fun m hm => ?_, fun m hm z => q33 m hm (by omega)⟩
    · refine ⟨(q1 m hm).1, (q1 m hm).2.1, fun z => ?_⟩
      rcases e3 m hm with e | e
      · rw [e] at z; exact (q1 m hm).2.2 z
      · exact q33 m hm e
    · obtain ⟨⟨P, c⟩, c2, c3⟩ := q22 m hm
      refine ⟨⟨P, CS_congr (q1 m hm).2.1 (f _ _ (i7 _ _ (by unfold F7 isM; omega))) (fun b j z1 z2 => f b j (i7 _ _ (by unfold F7 isK; omega))) (fun j => fr _ j) c⟩, ?_, ?_⟩
      · rw [f 129 m (i7 _ _ (by unfold F7; omega))]; exact c2
      · rw [show mI h' 130 = mI h 130 from funext (fun j => f 130 j (i7 _ _ (by unfold F7; omega)))]; exact c3
