-- both sides hold the same
def isM (a : Nat) : Prop := a = 17 ∨ a = 35 ∨ a = 53 ∨ a = 71
def isK (a : Nat) : Prop := (23 ≤ a ∧ a ≤ 34) ∨ (41 ≤ a ∧ a ≤ 52) ∨ (59 ≤ a ∧ a ≤ 70) ∨ (77 ≤ a ∧ a ≤ 88)
def isT (a : Nat) : Prop := (20 ≤ a ∧ a ≤ 22) ∨ (38 ≤ a ∧ a ≤ 40) ∨ (56 ≤ a ∧ a ≤ 58) ∨ (74 ≤ a ∧ a ≤ 76)
def F2 (a j : Nat) : Prop := a = 4 ∨ a = 8 ∨ (9 ≤ a ∧ a ≤ 16) ∨ (isM a ∧ j < 8) ∨ isT a ∨ (111 ≤ a ∧ a ≤ 114) ∨ (116 ≤ a ∧ a ≤ 128) ∨ (a = 109 ∧ (j = 3 ∨ j = 9 ∨ j = 13 ∨ j = 24))
def F3 (a j : Nat) : Prop := (a = 2 ∧ j = 1) ∨ a = 3 ∨ a = 110 ∨ (a = 109 ∧ j = 1)
def F4 (a j : Nat) : Prop := (a = 1 ∧ j = 9) ∨ (a = 109 ∧ j = 0)
def F5 (a j : Nat) : Prop := a = 104 ∨ a = 115 ∨ (a = 1 ∧ j = 1000)
def F7 (a j : Nat) : Prop := (isM a ∧ j = 8) ∨ isK a ∨ a = 129 ∨ a = 130
def F8 (a j : Nat) : Prop := isM a ∧ 9 ≤ j ∧ j ≤ 14
def F9 (a j : Nat) : Prop := a = 105 ∨ (a = 1 ∧ j = 1000)
def F10 (a j : Nat) : Prop := a = 1 ∧ 11 ≤ j ∧ j ≤ 15
def F11 (a j : Nat) : Prop := (a = 1 ∧ j = 10) ∨ (a = 109 ∧ j = 30) ∨ a = 106 ∨ a = 134
def F12 (a j : Nat) : Prop := a = 107 ∨ (a = 1 ∧ j = 1000)
theorem ST_F2 {a j : Nat} (h : ST a j) : F2 a j := by
  rcases h with e | e | e | ⟨m, hm, e, hj⟩ | ⟨m, s, hm, hs, e⟩ | e | e | e
  · exact Or.inl e
  · exact Or.inr (Or.inl e)
  · exact Or.inr (Or.inr (Or.inl e))
  · exact Or.inr (Or.inr (Or.inr (Or.inl ⟨by unfold isM; omega, hj⟩)))
  · exact Or.inr (Or.inr (Or.inr (Or.inr (Or.inl (by unfold isT; omega)))))
  · exact Or.inr (Or.inr (Or.inr (Or.inr (Or.inr (Or.inl e)))))
  · exact Or.inr (Or.inr (Or.inr (Or.inr (Or.inr (Or.inr (Or.inl e))))))
  · exact Or.inr (Or.inr (Or.inr (Or.inr (Or.inr (Or.inr (Or.inr e))))))
def B3 (h : mM) (rd : Nat) : Prop := mI h 2 1 = nI rd ∧ mI h 109 1 = nI rd ∧ 0 < rd ∧ rd ≤ 24 ∧ ∀ j, j < 24 → mI h 3 j = mI h 110 j ∧ mI h 110 j = nI (cN (mI h 110 j)) ∧ cN (mI h 110 j) ≤ 200
def B4 (h : mM) (hr : Nat) : Prop := mI h 1 9 = nI hr ∧ mI h 109 0 = nI hr
def B5 (h : mM) : Prop := ∀ p, p < 4 → ∃ w, mI h 104 p = nI w ∧ mI h 115 p = nI w ∧ (p < cfg h 0 0 → w ≤ cfg h 1 p * cfg h 2 p) ∧ (cfg h 0 0 ≤ p → w = 0)
def B6 (h : mM) : Prop := (∀ p, p < 4 → cfg h 0 0 ≤ p → mI h (9 + p) 3 = 1) ∧ (∀ m, m < 4 → cfg h 0 2 ≤ m → mI h (17 + 18 * m) 7 = 0 ∧ mI h 124 m = 0) ∧ (∀ m s, m < 4 → s < 3 → cfg h 13 m ≤ s → mI h (20 + 18 * m + s) 4 = 1)
def B7 (h : mM) (qs : Nat → List Sk) : Prop := QS (mI h 119) 4 qs ∧ (∀ m, m < 4 → (∃ P, CS (mI h) (mR h) m (qs m) P) ∧ mI h 129 m = nI (qs m).length ∧ Qr (mI h 130) (48 * m) (qs m)) ∧ (∀ m, m < 4 → cfg h 0 2 ≤ m → qs m = [])
def B8 (h : mM) (hr : Nat) : Prop := ∀ m, m < 4 → ∀ j, j < 6 → ∃ a, a ≤ 3000 * hr ∧ mI h (17 + 18 * m) (9 + j) = nI a ∧ mJ h 131 (6 * m + j) = lN a
def B9 (h : mM) (hr : Nat) : Prop := ∀ c, c < 10 → ∃ a, a ≤ 96000 * hr ∧ mI h 105 c = nI a ∧ mJ h 132 c = lN a
def B10 (h : mM) (hr k : Nat) : Prop := (∀ j, j < 4 → ∃ a, a ≤ 120000 * hr ∧ mI h 1 (11 + j) = nI a ∧ mJ h 133 j = lN a) ∧ mJ h 133 4 = (mI h 1 15).toInt64 ∧ -25000 * (k : Int) ≤ (mI h 1 15).toInt ∧ (mI h 1 15).toInt ≤ 25000 * (k : Int)
def B11 (h : mM) : Prop := ∃ t, t ≤ 24 ∧ mI h 1 10 = nI t ∧ mI h 109 30 = nI t ∧ ∀ j, j < 24 → mI h 106 j = mI h 134 j
def B12 (h : mM) (k : Nat) : Prop := ∀ j, 1 ≤ j → j ≤ 5 → ∃ a, a ≤ k ∧ mI h 107 j = nI a ∧ mJ h 135 j = lN a
def RLN (h : mM) (k : Nat) : Prop := G h ∧ CF h ∧ (∃ rd, B3 h rd) ∧ ∃ hr, hr ≤ 10000 ∧ B4 h hr ∧ B5 h ∧ B6 h ∧ (∃ qs, B7 h qs) ∧ B8 h hr ∧ B9 h hr ∧ B10 h hr k ∧ B11 h ∧ B12 h k
theorem B2_congr {h h' : mM} (f : ∀ a j, F2 a j → mI h' a j = mI h a j) (q : CF h) : CF h' := CF_congr (fun b j z => f b j (ST_F2 z)) q
theorem cfg_F2 {h h' : mM} (f : ∀ a j, F2 a j → mI h' a j = mI h a j) : cfg h' = cfg h := cfg_congr (fun b j z => f b j (ST_F2 z))
theorem B3_congr {h h' : mM} {rd : Nat} (f : ∀ a j, F3 a j → mI h' a j = mI h a j) (q : B3 h rd) : B3 h' rd := by
  unfold B3 at q ⊢
  have e3 : ∀ j, mI h' 3 j = mI h 3 j := fun j => f 3 j (by unfold F3; omega)
  have e110 : ∀ j, mI h' 110 j = mI h 110 j := fun j => f 110 j (by unfold F3; omega)
  rw [f 2 1 (by unfold F3; omega), f 109 1 (by unfold F3; omega)]
  refine ⟨q.1, q.2.1, q.2.2.1, q.2.2.2.1, fun j hj => ?_⟩
  rw [e3, e110]
  exact q.2.2.2.2 j hj
theorem B4_congr {h h' : mM} {hr : Nat} (f : ∀ a j, F4 a j → mI h' a j = mI h a j) (q : B4 h hr) : B4 h' hr := by
  unfold B4 at q ⊢
  rw [f 1 9 (by unfold F4; omega), f 109 0 (by unfold F4; omega)]
  exact q
theorem B5_congr {h h' : mM} (e : cfg h' = cfg h) (f : ∀ a j, F5 a j → mI h' a j = mI h a j) (q : B5 h) : B5 h' := fun p hp => by
  rw [e, f 104 p (by unfold F5; omega), f 115 p (by unfold F5; omega)]
  exact q p hp
theorem B6_congr {h h' : mM} (f : ∀ a j, F2 a j → mI h' a j = mI h a j) (q : B6 h) : B6 h' := by
  have e := cfg_F2 f
  obtain ⟨q1, q2, q3⟩ := q
  unfold B6
  rw [e]
  refine ⟨fun p hp h1 => ?_, fun m hm h1 => ?_, fun m s hm hs h1 => ?_⟩
  · rw [f (9 + p) 3 (by unfold F2; omega)]; exact q1 p hp h1
  · rw [f (17 + 18 * m) 7 (by unfold F2 isM; omega), f 124 m (by unfold F2; omega)]; exact q2 m hm h1
  · rw [f (20 + 18 * m + s) 4 (by unfold F2 isT; omega)]; exact q3 m s hm hs h1
theorem B7_congr {h h' : mM} {qs : Nat → List Sk} (e : cfg h' = cfg h) (e119 : ∀ j, mI h' 119 j = mI h 119 j) (f : ∀ a j, F7 a j → mI h' a j = mI h a j) (fr : ∀ m, m < 4 → ∀ j, mR h' (19 + 18 * m) j = mR h (19 + 18 * m) j) (q : B7 h qs) : B7 h' qs := by
  obtain ⟨q1, q2, q3⟩ := q
  refine ⟨by rw [show mI h' 119 = mI h 119 from funext e119]; exact q1, fun m hm => ?_, by rw [e]; exact q3⟩
  obtain ⟨⟨P, c⟩, c2, c3⟩ := q2 m hm
  refine ⟨⟨P, CS_congr (q1 m hm).2.1 (f _ _ (by unfold F7 isM; omega)) (fun b j z1 z2 => f b j (by unfold F7 isK; omega)) (fr m hm) c⟩, ?_, ?_⟩
  · rw [f 129 m (by unfold F7; omega)]; exact c2
  · rw [show mI h' 130 = mI h 130 from funext (fun j => f 130 j (by unfold F7; omega))]; exact c3
theorem B8_congr {h h' : mM} {hr : Nat} (f : ∀ a j, F8 a j → mI h' a j = mI h a j) (fj : ∀ j, mJ h' 131 j = mJ h 131 j) (q : B8 h hr) : B8 h' hr := fun m hm j hj => by
  rw [f (17 + 18 * m) (9 + j) (by unfold F8 isM; omega), fj]
  exact q m hm j hj
theorem B9_congr {h h' : mM} {hr : Nat} (f : ∀ a j, F9 a j → mI h' a j = mI h a j) (fj : ∀ j, mJ h' 132 j = mJ h 132 j) (q : B9 h hr) : B9 h' hr := fun c hc => by
  rw [f 105 c (by unfold F9; omega), fj]
  exact q c hc
theorem B10_congr {h h' : mM} {hr k : Nat} (f : ∀ a j, F10 a j → mI h' a j = mI h a j) (fj : ∀ j, mJ h' 133 j = mJ h 133 j) (q : B10 h hr k) : B10 h' hr (k + 1) := by
  obtain ⟨q1, q2, q3, q4⟩ := q
  unfold B10
  rw [f 1 15 (by unfold F10; omega), fj 4]
  refine ⟨fun j hj => ?_, q2, by omega, by omega⟩
  rw [f 1 (11 + j) (by unfold F10; omega), fj j]
  exact q1 j hj
theorem B11_congr {h h' : mM} (f : ∀ a j, F11 a j → mI h' a j = mI h a j) (q : B11 h) : B11 h' := by
  obtain ⟨t, q1, q2, q3, q4⟩ := q
  refine ⟨t, q1, ?_, ?_, fun j hj => ?_⟩
  · rw [f 1 10 (by unfold F11; omega)]; exact q2
  · rw [f 109 30 (by unfold F11; omega)]; exact q3
  · rw [f 106 j (by unfold F11; omega), f 134 j (by unfold F11; omega)]; exact q4 j hj
theorem B12_congr {h h' : mM} {k : Nat} (f : ∀ a j, F12 a j → mI h' a j = mI h a j) (fj : ∀ j, mJ h' 135 j = mJ h 135 j) (q : B12 h k) : B12 h' (k + 1) := fun j h1 h2 => by
  obtain ⟨a, a1, a2, a3⟩ := q j h1 h2
  rw [f 107 j (by unfold F12; omega), fj]
  exact ⟨a, by omega, a2, a3⟩
/-- all cells that count -/
def FA (a j : Nat) : Prop := F2 a j ∨ F3 a j ∨ F4 a j ∨ F5 a j ∨ F7 a j ∨ F8 a j ∨ F9 a j ∨ F10 a j ∨ F11 a j ∨ F12 a j
theorem FA2 {a j : Nat} (h : F2 a j) : FA a j := Or.inl h
theorem FA3 {a j : Nat} (h : F3 a j) : FA a j := Or.inr (Or.inl h)
theorem FA4 {a j : Nat} (h : F4 a j) : FA a j := Or.inr (Or.inr (Or.inl h))
theorem FA5 {a j : Nat} (h : F5 a j) : FA a j := Or.inr (Or.inr (Or.inr (Or.inl h)))
theorem FA7 {a j : Nat} (h : F7 a j) : FA a j := Or.inr (Or.inr (Or.inr (Or.inr (Or.inl h))))
theorem FA8 {a j : Nat} (h : F8 a j) : FA a j := Or.inr (Or.inr (Or.inr (Or.inr (Or.inr (Or.inl h)))))
theorem FA9 {a j : Nat} (h : F9 a j) : FA a j := Or.inr (Or.inr (Or.inr (Or.inr (Or.inr (Or.inr (Or.inl h))))))
theorem FA10 {a j : Nat} (h : F10 a j) : FA a j := Or.inr (Or.inr (Or.inr (Or.inr (Or.inr (Or.inr (Or.inr (Or.inl h)))))))
theorem FA11 {a j : Nat} (h : F11 a j) : FA a j := Or.inr (Or.inr (Or.inr (Or.inr (Or.inr (Or.inr (Or.inr (Or.inr (Or.inl h))))))))
theorem FA12 {a j : Nat} (h : F12 a j) : FA a j := Or.inr (Or.inr (Or.inr (Or.inr (Or.inr (Or.inr (Or.inr (Or.inr (Or.inr h))))))))
theorem F2_119 {j : Nat} : F2 119 j := by unfold F2; omega
theorem RL_frame {h h' : mM} {k : Nat} (g : G h') (f : ∀ a j, FA a j → mI h' a j = mI h a j) (fj : ∀ a j, 131 ≤ a → a ≤ 135 → mJ h' a j = mJ h a j) (fr : ∀ m, m < 4 → ∀ j, mR h' (19 + 18 * m) j = mR h (19 + 18 * m) j) (q : RLN h k) : RLN h' (k + 1) := by
  obtain ⟨_, q2, ⟨rd, q3⟩, hr, h10, q4, q5, q6, ⟨qs, q7⟩, q8, q9, q10, q11, q12⟩ := q
  have e := cfg_F2 (fun a j z => f a j (FA2 z))
  exact ⟨g, B2_congr (fun a j z => f a j (FA2 z)) q2, ⟨rd, B3_congr (fun a j z => f a j (FA3 z)) q3⟩, hr, h10, B4_congr (fun a j z => f a j (FA4 z)) q4, B5_congr e (fun a j z => f a j (FA5 z)) q5, B6_congr (fun a j z => f a j (FA2 z)) q6, ⟨qs, B7_congr e (fun j => f 119 j (FA2 F2_119)) (fun a j z => f a j (FA7 z)) fr q7⟩, B8_congr (fun a j z => f a j (FA8 z)) (fun j => fj 131 j (by omega) (by omega)) q8, B9_congr (fun a j z => f a j (FA9 z)) (fun j => fj 132 j (by omega) (by omega)) q9, B10_congr (fun a j z => f a j (FA10 z)) (fun j => fj 133 j (by omega) (by omega)) q10, B11_congr (fun a j z => f a j (FA11 z)) q11, B12_congr (fun a j z => f a j (FA12 z)) (fun j => fj 135 j (by omega) (by omega)) q12⟩
/-- what a call on both sides must do -/
def OKc (d mc mr : Nat) (ac ar : List (Option Value)) (h : mM) (k : Nat) : Prop := ∃ (x : Int32) (h1 h2 : mM), ev (d + 30) mc 0 (some (.ref 1) :: ac) [] h = some (some (.int x), h1) ∧ ev (d + 30) mr 0 (some (.ref 109) :: ar) [] h1 = some (some (.long x.toInt64), h2) ∧ G h1 ∧ RLN h2 (k + 1)
theorem G_fC {h : mM} (g : G h) {j : Nat} : G (fC h j) := g
theorem mI_fC {h : mM} {j a b : Nat} (e : a ≠ 107) : mI (fC h j) a b = mI h a b := by
  show (if a = 107 ∧ b = j then _ else _) = _
  exact if_neg (fun z => e z.1)
theorem mJ_fC {h : mM} {j a b : Nat} : mJ (fC h j) a b = mJ h a b := rfl
theorem RL_find {h : mM} {k j : Nat} (h1 : 1 ≤ j) (h5 : j ≤ 5) (hk : k < 1000) (q : RLN h k) : RLN (fM (fC h j) j) (k + 1) := by
  obtain ⟨g, q2, ⟨rd, q3⟩, hr, h10, q4, q5, q6, ⟨qs, q7⟩, q8, q9, q10, q11, q12⟩ := q
  have f : ∀ a b, a ≠ 107 → mI (fM (fC h j) j) a b = mI h a b := fun a b e => mI_fC e
  have fj : ∀ a b, a ≠ 135 → mJ (fM (fC h j) j) a b = mJ h a b := fun a b e => by
    show (if a = 135 ∧ b = j then _ else _) = _
    exact if_neg (fun z => e z.1)
  have e : cfg (fM (fC h j) j) = cfg h := cfg_F2 (fun a b z => f a b (by unfold F2 isM isT at z; omega))
  refine ⟨g, B2_congr (fun a b z => f a b (by unfold F2 isM isT at z; omega)) q2, ⟨rd, B3_congr (fun a b z => f a b (by unfold F3 at z; omega)) q3⟩, hr, h10, B4_congr (fun a b z => f a b (by unfold F4 at z; omega)) q4, B5_congr e (fun a b z => f a b (by unfold F5 at z; omega)) q5, B6_congr (fun a b z => f a b (by unfold F2 isM isT at z; omega)) q6, ⟨qs, B7_congr e (fun b => f 119 b (by omega)) (fun a b z => f a b (by unfold F7 isM isK at z; omega)) (fun _ _ _ => rfl) q7⟩, B8_congr (fun a b z => f a b (by unfold F8 isM at z; omega)) (fun b => fj 131 b (by omega)) q8, B9_congr (fun a b z => f a b (by unfold F9 at z; omega)) (fun b => fj 132 b (by omega)) q9, B10_congr (fun a b z => f a b (by unfold F10 at z; omega)) (fun b => fj 133 b (by omega)) q10, B11_congr (fun a b z => f a b (by unfold F11 at z; omega)) q11, fun i i1 i5 => ?_⟩
  obtain ⟨a, a1, a2, a3⟩ := q12 i i1 i5
  by_cases e : i = j
  · subst e
    refine ⟨a + 1, by omega, ?_, ?_⟩
    · show (if 107 = 107 ∧ i = i then mI h 107 i + 1 else mI h 107 i) = _
      rw [if_pos ⟨rfl, rfl⟩, a2, nI_1]
    · show (if 135 = 135 ∧ i = i then mJ h 135 i + 1 else mJ h 135 i) = _
      rw [if_pos ⟨rfl, rfl⟩, a3, lN_1]
  · refine ⟨a, by omega, ?_, ?_⟩
    · show (if 107 = 107 ∧ i = j then mI h 107 j + 1 else mI h 107 i) = _
      rw [if_neg (fun z => e z.2)]; exact a2
    · show (if 135 = 135 ∧ i = j then mJ h 135 j + 1 else mJ h 135 i) = _
      rw [if_neg (fun z => e z.2)]; exact a3
