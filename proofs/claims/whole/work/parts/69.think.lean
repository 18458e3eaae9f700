-- running, best, ahead, check: both sides
def FM9 (a j : Nat) : Prop := F2 a j ∨ F3 a j ∨ (a = 109 ∧ j = 0)
theorem CH_cg {h h' : mM} {rd hr : Nat} (q : CH h rd hr) (g : G h') (f : ∀ a j, FM9 a j → mI h' a j = mI h a j) : CH h' rd hr ∧ cfg h' = cfg h ∧ TD h' rd = TD h rd := by
  have f2 : ∀ a j, F2 a j → mI h' a j = mI h a j := fun a j z => f a j (Or.inl z)
  have f3 : ∀ a j, F3 a j → mI h' a j = mI h a j := fun a j z => f a j (Or.inr (Or.inl z))
  obtain ⟨⟨q1, _, ⟨q3, q4⟩, ⟨q5, q6⟩, q7⟩, q8, q9⟩ := q
  have e110 : ∀ j, mI h' 110 j = mI h 110 j := fun j => f3 110 j (by unfold F3; omega)
  refine ⟨⟨⟨B2_congr f2 q1, g, ⟨?_, q4⟩, ⟨?_, q6⟩, fun j hj => ?_⟩, ?_, fun j hj => ?_⟩, cfg_F2 f2, ?_⟩
  · rw [f3 109 1 (by unfold F3; omega)]; exact q3
  · rw [f 109 0 (Or.inr (Or.inr ⟨rfl, rfl⟩))]; exact q5
  · rw [e110]; exact q7 j hj
  · rw [f3 2 1 (by unfold F3; omega)]; exact q8
  · rw [e110, f3 3 j (by unfold F3; omega)]; exact q9 j hj
  · funext x
    unfold TD
    rw [e110]
theorem FA_M {a j : Nat} (z : FM9 a j) : FA a j := by
  rcases z with z | z | z
  · exact FA2 z
  · exact FA3 z
  · exact FA4 (by unfold F4; omega)
theorem FA_no {b j : Nat} (z : FA b j) : b ≠ 108 ∧ b ≠ 89 ∧ b ≠ 90 ∧ (b < 91 ∨ 103 < b) ∧ b ≠ 136 := by
  unfold FA F2 F3 F4 F5 F7 F8 F9 F10 F11 F12 isM isK isT at z
  refine ⟨by omega, by omega, by omega, by omega, by omega⟩
theorem FA_109 {j : Nat} (z : FA 109 j) : j ≠ 34 ∧ j ≠ 36 := by
  unfold FA F2 F3 F4 F5 F7 F8 F9 F10 F11 F12 isM isK isT at z
  refine ⟨by omega, by omega⟩
theorem RLN.ch {h : mM} {k : Nat} (q : RLN h k) : ∃ rd hr, CH h rd hr ∧ mI h 1 9 = nI hr ∧ ∃ w, WB (cfg h) w ∧ (∀ p, p < cfg h 0 0 → mI h 104 p = nI (w p)) ∧ (∀ p, p < cfg h 0 0 → mI h 115 p = nI (w p)) := by
  obtain ⟨g, q2, ⟨rd, q3⟩, hr, h10, q4, q5, _⟩ := q
  have key : ∀ p, p < cfg h 0 0 → mI h 104 p = nI (cN (mI h 104 p)) ∧ mI h 115 p = nI (cN (mI h 104 p)) ∧ cN (mI h 104 p) ≤ cfg h 1 p * cfg h 2 p := fun p hp => by
    obtain ⟨w, w1, w2, w3, _⟩ := q5 p (by have := q2.1.1; omega)
    have kp := q2.1.2.1 p hp
    have ab : cfg h 1 p * cfg h 2 p ≤ 100 * 250 := Nat.mul_le_mul kp.1.2 kp.2.1.2
    have w5 := w3 hp
    have e : cN (mI h 104 p) = w := by rw [w1]; exact cN_nI (by omega)
    rw [e]
    exact ⟨w1, w2, w5⟩
  exact ⟨rd, hr, ⟨⟨q2, g, ⟨q3.2.1, q3.2.2.1, q3.2.2.2.1⟩, ⟨q4.2, h10⟩, fun j hj => (q3.2.2.2.2 j hj).2⟩, q3.1, fun j hj => (q3.2.2.2.2 j hj).1⟩, q4.1, fun p => cN (mI h 104 p), wb_bk q2.1 (fun p hp => (key p hp).2.2), fun p hp => (key p hp).1, fun p hp => (key p hp).2.1⟩
theorem think_rel {h h1 : mM} {k : Nat} {τ : T8} (q : RLN h k) (g : G h1) (hI : ∀ b j, FA b j → mI h1 b j = mI h b j) (hJ : ∀ b j, mJ h1 b j = mJ h b j) (hR : ∀ b j, mR h1 b j = mR h b j) (N : NC h1 τ) : RLN (wM h1 136 τ) (k + 1) := by
  refine RL_frame (G.wM g) (fun a j z => ?_) (fun a j z1 z2 => ?_) (fun m hm j => hR _ _) q
  · rw [mI_wM]
    by_cases e1 : a = 130
    · subst e1; rw [if_pos rfl, N.2.2.1]; exact hI 130 j z
    · rw [if_neg e1]
      by_cases e2 : a = 129
      · subst e2; rw [if_pos rfl, N.2.1]; exact hI 129 j z
      · rw [if_neg e2]
        by_cases e3 : a = 109
        · subst e3; rw [if_pos rfl, N.1 j (FA_109 z).1 (FA_109 z).2]; exact hI 109 j z
        · rw [if_neg e3, if_neg (FA_no z).2.2.2.2]; exact hI a j z
  · rw [mJ_wM]
    rcases (show a = 131 ∨ a = 132 ∨ a = 133 ∨ a = 134 ∨ a = 135 by omega) with e | e | e | e | e <;> subst e
    · rw [if_neg (by decide), if_neg (by decide), if_pos rfl, N.2.2.2.2.1]; exact hJ _ _
    · rw [if_neg (by decide), if_neg (by decide), if_neg (by decide), if_pos rfl, N.2.2.2.2.2]; exact hJ _ _
    · rw [if_pos rfl, N.2.2.2.1]; exact hJ _ _
    · rw [if_neg (by decide), if_neg (by decide), if_neg (by decide), if_neg (by decide)]; exact hJ _ _
    · rw [if_neg (by decide), if_neg (by decide), if_neg (by decide), if_neg (by decide)]; exact hJ _ _
theorem GA {h : mM} (g : G h) {I : Nat → Nat → Int32} : G (wA h I (mR h)) := G.wA g (fun _ _ _ => rfl)
theorem FA_115 {p : Nat} : FA 115 p := FA5 (by unfold F5; omega)
theorem k56 {d : Nat} {h : mM} {k : Nat} (q : RLN h k) : OKc d 56 113 [none, none] [] h k := by
  obtain ⟨rd, hr, c, h19, w, wb, w1, w2⟩ := q.ch
  obtain ⟨I, x, T, bx, ex⟩ := c56 (d := d + 25) c h19 wb w1
  have hI : ∀ b j, FA b j → I b j = mI h b j := fun b j z => T b j (FA_no z).1 (FA_no z).2.1 (FA_no z).2.2.1
  obtain ⟨m, ec, et⟩ := CH_cg (h' := wA h I (mR h)) c (GA q.1) (fun a j z => hI a j (FA_M z))
  obtain ⟨τ, y, N, yb, ey⟩ := r113 (d := d + 25) m.1 (w := w) (by rw [ec]; exact wb) (by rw [ec]; exact fun p hp => (hI 115 p FA_115).trans (w2 p hp))
  rw [ec, et] at yb
  have e : x = y := b_ext (fun i hi => (bx i hi).trans (yb i hi).symm)
  subst e
  exact ⟨x, _, _, ex, ey, GA q.1, think_rel q (GA q.1) hI (fun _ _ => rfl) (fun _ _ => rfl) N⟩
theorem k58 {d : Nat} {h : mM} {k : Nat} (hk : k < 1000) (q : RLN h k) {P v : Int32} : OKc d 58 115 [some (.int P), some (.int v), none] [some (.int P), some (.int v), none] h k := by
  obtain ⟨⟨a4, a5, a6⟩, ⟨c3, c9, c13⟩, n4, n5, n6⟩ := q.cnt
  by_cases bb : (0 ≤ P ∧ P ≤ mI h 4 4 - 1) ∧ 0 ≤ v ∧ v ≤ 48
  · obtain ⟨p, e1, hp⟩ := in_cnt a4 (by omega) bb.1.1 bb.1.2
    obtain ⟨n, e2, _, hn⟩ := in_nI (lo := 0) (hi := 48) bb.2.1 bb.2.2 (by omega) (by omega)
    subst e1 e2
    obtain ⟨rd, hr, c, h19, w, wb, w1, w2⟩ := q.ch
    obtain ⟨I, T, ex⟩ := c58_ok (d := d + 25) c h19 wb w1 hp hn
    have hI : ∀ b j, FA b j → I b j = mI h b j := fun b j z => T b j (FA_no z).1 (FA_no z).2.1 (FA_no z).2.2.1
    obtain ⟨m, ec, et⟩ := CH_cg (h' := wA h I (mR h)) c (GA q.1) (fun a j z => hI a j (FA_M z))
    obtain ⟨τ, N, ey⟩ := r115_ok (d := d + 25) m.1 (w := w) (by rw [ec]; exact wb) (by rw [ec]; exact fun p hp => (hI 115 p FA_115).trans (w2 p hp)) (p := p) (n := n) (by rw [ec]; exact hp) hn
    rw [ec, et] at ey
    exact ⟨_, _, _, ex, ey, GA q.1, think_rel q (GA q.1) hI (fun _ _ => rfl) (fun _ _ => rfl) N⟩
  · refine OK_bad hk q (j := 1) (by omega) (by omega) lo1 (c58_bad (d := d + 25) q.1 bb) (r115_bad (d := d + 25) (h := fC h 1) q.1 ?_)
    rw [mI_fC (by decide), c3, ← a4]
    exact bb
theorem k57 {d : Nat} {h : mM} {k : Nat} (hk : k < 1000) (q : RLN h k) {M v wh : Int32} : OKc d 57 114 [some (.int M), some (.int v), some (.int wh)] [some (.int M), some (.int v), some (.int wh), none, none, none, none, none, none, none, none, none, none] h k := by
  obtain ⟨⟨a4, a5, a6⟩, ⟨c3, c9, c13⟩, n4, n5, n6⟩ := q.cnt
  by_cases bb : (0 ≤ M ∧ M ≤ mI h 4 6 - 1) ∧ (1 ≤ v ∧ v ≤ 8) ∧ 0 ≤ wh ∧ wh ≤ 1
  · obtain ⟨m, e1, hm⟩ := in_cnt a6 (by omega) bb.1.1 bb.1.2
    obtain ⟨n, e2, n1, hn⟩ := in_nI (lo := 1) (hi := 8) bb.2.1.1 bb.2.1.2 (by omega) (by omega)
    subst e1 e2
    obtain ⟨rd, hr, c, h19, w, wb, w1, w2⟩ := q.ch
    obtain ⟨I, T, ex⟩ := c57_ok (d := d + 14) c h19 wb w1 hm n1 hn bb.2.2
    have hI : ∀ b j, FA b j → I b j = mI h b j := fun b j z => T b j (FA_no z).2.2.2.1
    obtain ⟨mm, ec, et⟩ := CH_cg (h' := wA h I (mR h)) c (GA q.1) (fun a j z => hI a j (FA_M z))
    obtain ⟨τ, N, ey⟩ := r114_ok (d := d + 25) mm.1 (w := w) (by rw [ec]; exact wb) (by rw [ec]; exact fun p hp => (hI 115 p FA_115).trans (w2 p hp)) (m := m) (n := n) (by rw [ec]; exact hm) n1 hn bb.2.2
    rw [ec, et] at ey
    have b := SF_in c.1 (m := m) hn n 0 0 0 w (0, 0) (by omega) (by decide) (by omega) wb (by decide) (by decide)
    have sb := SF_BR c.1 (m := m) hn wb
    rw [sb] at b ex
    refine ⟨_, _, _, ex, ?_, GA q.1, think_rel q (GA q.1) hI (fun _ _ => rfl) (fun _ _ => rfl) N⟩
    rw [ey]
    have e : (if wh = 0 then nI (BR (cfg h) (TD h rd) hr m w n).2.1 else nI (BR (cfg h) (TD h rd) hr m w n).1).toInt64 = (if wh = 0 then lN (BR (cfg h) (TD h rd) hr m w n).2.1 else lN (BR (cfg h) (TD h rd) hr m w n).1) := by
      split
      · exact nI_l (Nat.lt_trans b.1 (by decide))
      · exact nI_l (Nat.lt_of_le_of_lt b.2 (by decide))
    rw [← e]
  · refine OK_bad hk q (j := 1) (by omega) (by omega) lo1 (c57_bad (d := d + 14) q.1 bb) (r114_bad (d := d + 25) (h := fC h 1) q.1 ?_)
    rw [mI_fC (by decide), c13, ← a6]
    exact bb
theorem wI_comm {h : mM} {a k a' k' : Nat} {v v' : Int32} (n : a ≠ a') : wI (wI h a k v) a' k' v' = wI (wI h a' k' v') a k v := by
  have e : (fun x y => if x = a' ∧ y = k' then v' else if x = a ∧ y = k then v else h.2.2.2.1 x y) = (fun x y => if x = a ∧ y = k then v else if x = a' ∧ y = k' then v' else h.2.2.2.1 x y) := by
    funext x y
    by_cases c1 : x = a' ∧ y = k'
    · rw [if_pos c1, if_neg (by omega), if_pos c1]
    · rw [if_neg c1, if_neg c1]
  exact congrArg (fun f => ((h.1, h.2.1, h.2.2.1, f, h.2.2.2.2.1, h.2.2.2.2.2) : mM)) e
theorem RL_zero {h : mM} {k : Nat} (q : RLN h k) : RLN (wI (wI h 1 10 0) 109 30 0) k := by
  obtain ⟨g, q2, ⟨rd, q3⟩, hr, h10, q4, q5, q6, ⟨qs, q7⟩, q8, q9, q10, q11, q12⟩ := q
  have f : ∀ a j, ¬ ((a = 109 ∧ j = 30) ∨ (a = 1 ∧ j = 10)) → mI (wI (wI h 1 10 0) 109 30 0) a j = mI h a j := fun a j hn => by rw [mI_wI, if_neg (by omega), mI_wI, if_neg (by omega)]
  have e : cfg (wI (wI h 1 10 0) 109 30 0) = cfg h := cfg_F2 (fun a j z => f a j (by unfold F2 isM isT at z; omega))
  obtain ⟨u1, u2, u3, u4⟩ := q10
  obtain ⟨t, t24, t1, t2, t3⟩ := q11
  refine ⟨G.wI (G.wI g), B2_congr (fun a j z => f a j (by unfold F2 isM isT at z; omega)) q2, ⟨rd, B3_congr (fun a j z => f a j (by unfold F3 at z; omega)) q3⟩, hr, h10, B4_congr (fun a j z => f a j (by unfold F4 at z; omega)) q4, B5_congr e (fun a j z => f a j (by unfold F5 at z; omega)) q5, B6_congr (fun a j z => f a j (by unfold F2 isM isT at z; omega)) q6, ⟨qs, B7_congr e (fun j => f 119 j (by omega)) (fun a j z => f a j (by unfold F7 isM isK at z; omega)) (fun _ _ _ => rfl) q7⟩, B8_congr (fun a j z => f a j (by unfold F8 isM at z; omega)) (fun j => rfl) q8, B9_congr (fun a j z => f a j (by unfold F9 at z; omega)) (fun j => rfl) q9, ⟨fun j hj => ?_, ?_, ?_, ?_⟩, ⟨0, by omega, ?_, ?_, fun j hj => ?_⟩, fun j h1 h2 => ?_⟩
  · rw [f 1 (11 + j) (by omega)]; exact u1 j hj
  · rw [f 1 15 (by omega)]; exact u2
  · rw [f 1 15 (by omega)]; exact u3
  · rw [f 1 15 (by omega)]; exact u4
  · rw [mI_wI, if_neg (by omega), mI_wI, if_pos ⟨rfl, rfl⟩]; rfl
  · rw [mI_wI, if_pos ⟨rfl, rfl⟩]; rfl
  · rw [f 106 j (by omega), f 134 j (by omega)]; exact t3 j hj
  · rw [f 107 j (by omega)]; exact q12 j h1 h2
theorem CW_cg {c : Tb} {T : Nat → Nat} {hr : Nat} {w : Nat → Nat} {p : Nat} {t t' : Nat → Int32} : ∀ (k i : Nat), (∀ j, i ≤ j → j < i + k → t j = t' j) → CW c T hr w p t i k = CW c T hr w p t' i k
  | 0, _, _ => rfl
  | k + 1, i, h => by
    show (if _ = t i then CW c T hr w p t (i + 1) k else 1 + i) = (if _ = t' i then CW c T hr w p t' (i + 1) k else 1 + i)
    rw [h i (by omega) (by omega), CW_cg k (i + 1) (fun j h1 h2 => h j (by omega) (by omega))]
theorem CW_le {c : Tb} {T : Nat → Nat} {hr : Nat} {w : Nat → Nat} {p : Nat} {t : Nat → Int32} : ∀ (k i : Nat), CW c T hr w p t i k ≤ i + k
  | 0, _ => Nat.zero_le _
  | k + 1, i => by
    show (if _ = t i then CW c T hr w p t (i + 1) k else 1 + i) ≤ _
    have := CW_le (c := c) (T := T) (hr := hr) (w := w) (p := p) (t := t) k (i + 1)
    split <;> omega
theorem k61 {d : Nat} {h : mM} {k : Nat} (hk : k < 1000) (q : RLN h k) {P : Int32} : OKc d 61 118 [some (.int P), none, none] [some (.int P), none, none] h k := by
  have g := q.1
  have qz := RL_zero q
  obtain ⟨⟨a4, a5, a6⟩, ⟨c3, c9, c13⟩, n4, n5, n6⟩ := q.cnt
  obtain ⟨hA, eA⟩ : ∃ x, wI h 1 10 0 = x := ⟨_, rfl⟩
  have gA : G hA := by rw [← eA]; exact G.wI g
  have fA : ∀ a j, ¬ (a = 1 ∧ j = 10) → mI hA a j = mI h a j := fun a j hn => by rw [← eA, mI_wI, if_neg hn]
  rw [eA] at qz
  by_cases bb : 0 ≤ P ∧ P ≤ mI h 4 4 - 1
  · obtain ⟨p, e1, hp⟩ := in_cnt a4 (by omega) bb.1 bb.2
    subst e1
    obtain ⟨rd, hr, c, h19, w, wb, w1, w2⟩ := q.ch
    obtain ⟨t, t24, t1, t2, t3⟩ : B11 h := by
      obtain ⟨_, _, _, _, _, _, _, _, _, _, _, _, q11, _⟩ := q
      exact q11
    obtain ⟨cA, ecA, etA⟩ := CH_cg (h' := hA) c gA (fun a j z => fA a j (by unfold FM9 F2 F3 isM isT at z; omega))
    obtain ⟨I, T, ex⟩ := c61_ok (d := d + 25) eA g cA (by rw [fA 1 9 (by omega)]; exact h19) (w := w) (by rw [ecA]; exact wb) (by rw [ecA]; exact fun p hp => (fA 104 p (by omega)).trans (w1 p hp)) (p := p) (n := t) (by rw [ecA]; exact hp) t24 t1
    have hI : ∀ b j, FA b j → I b j = mI hA b j := fun b j z => T b j (FA_no z).1 (FA_no z).2.1 (FA_no z).2.2.1
    obtain ⟨hB, eB⟩ : ∃ x, wI (wA hA I (mR hA)) 109 30 0 = x := ⟨_, rfl⟩
    have gB : G hB := by rw [← eB]; exact G.wI (GA gA)
    have fB : ∀ a j, FA a j → mI hB a j = mI (wI hA 109 30 0) a j := fun a j z => by
      rw [← eB, mI_wI, mI_wI]
      split
      · rfl
      · exact hI a j z
    have fB2 : ∀ a j, FA a j → ¬ (a = 109 ∧ j = 30) → mI hB a j = mI hA a j := fun a j z hn => by
      rw [fB a j z, mI_wI, if_neg hn]
    obtain ⟨cB, ecB, etB⟩ := CH_cg (h' := hB) cA gB (fun a j z => fB2 a j (FA_M z) (by unfold FM9 F2 F3 isM isT at z; omega))
    obtain ⟨τ, N, ey⟩ := r118_ok (d := d + 25) eB (GA gA) cB.1 (w := w) (by rw [ecB, ecA]; exact wb) (by rw [ecB, ecA]; exact fun p hp => (fB2 115 p FA_115 (by omega)).trans ((fA 115 p (by omega)).trans (w2 p hp))) (p := p) (n := t) (by rw [ecB, ecA]; exact hp) t24 (by show I 109 30 = _; rw [hI 109 30 (FA11 (by unfold F11; omega)), fA 109 30 (by omega)]; exact t2)
    rw [ecA, etA] at ex
    rw [ecB, etB, ecA, etA] at ey
    have e6 : CW (cfg h) (TD h rd) hr w p (mI hB 134) 0 t = CW (cfg h) (TD h rd) hr w p (mI hA 106) 0 t := CW_cg t 0 (fun j _ h2 => by
      rw [fB2 134 j (FA11 (by unfold F11; omega)) (by omega), fA 134 j (by omega), fA 106 j (by omega)]
      exact (t3 j (by omega)).symm)
    have le := CW_le (c := cfg h) (T := TD h rd) (hr := hr) (w := w) (p := p) (t := mI hA 106) t 0
    rw [e6, ← nI_l (show CW (cfg h) (TD h rd) hr w p (mI hA 106) 0 t < 2 ^ 31 by omega)] at ey
    exact ⟨_, _, _, ex, ey, GA gA, think_rel qz gB fB (fun b j => by rw [← eB]; rfl) (fun b j => by rw [← eB]; rfl) N⟩
  · have ex := c61_bad (d := d + 25) eA g gA (p := P) (by rw [fA 4 4 (by omega)]; exact bb)
    have ey := r118_bad (d := d + 25) (h0 := fC hA 1) (h := wI (fC hA 1) 109 30 0) rfl (G_fC gA) (G.wI (G_fC gA)) (p := P) (by rw [mI_wI, if_neg (by decide), mI_fC (by decide), fA 109 3 (by omega), c3, ← a4]; exact bb)
    have e : fC (wI hA 109 30 0) 1 = wI (fC hA 1) 109 30 0 := by
      unfold fC
      rw [mI_wI, if_neg (by decide), wI_comm (by decide)]
    have r := RL_find (j := 1) (by omega) (by omega) hk qz
    rw [e] at r
    exact ⟨_, _, _, ex, by rw [ey, lo1], G_fC gA, r⟩
