-- hours: both sides
theorem gvQ_dn : ∀ (q : List Sk) (x : Nat), (∀ s ∈ q, okS s) → (gvQ x q).2.1.length ≤ q.length ∧ (∀ s ∈ (gvQ x q).2.1, s.2.1 ≤ 2000) ∧ (gvQ x q).2.2 ≤ x
  | [], x, _ => ⟨Nat.le_refl _, fun s hs => (by cases hs), Nat.le_refl _⟩
  | s :: q, x, h => by
    have e : gvQ x (s :: q) = if x = 0 then (s :: q, [], 0) else if x < s.2.2.1 then ((s.1, s.2.1, s.2.2.1 - x, s.2.2.2) :: q, [], 0) else ((gvQ (x - s.2.2.1) q).1, (s.1, s.2.1, s.2.2.2) :: (gvQ (x - s.2.2.1) q).2.1, (gvQ (x - s.2.2.1) q).2.2) := rfl
    rw [e]
    by_cases c1 : x = 0
    · rw [if_pos c1]
      exact ⟨Nat.zero_le _, fun s hs => (by cases hs), Nat.zero_le _⟩
    · rw [if_neg c1]
      by_cases c2 : x < s.2.2.1
      · rw [if_pos c2]
        exact ⟨Nat.zero_le _, fun s hs => (by cases hs), Nat.zero_le _⟩
      · rw [if_neg c2]
        obtain ⟨i1, i2, i3⟩ := gvQ_dn q (x - s.2.2.1) (fun y hy => h y (List.mem_cons_of_mem _ hy))
        refine ⟨?_, fun y hy => ?_, ?_⟩
        · show _ + 1 ≤ _ + 1
          exact Nat.succ_le_succ i1
        · rcases List.mem_cons.mp hy with z | z
          · rw [z]; exact (h s List.mem_cons_self).2.1
          · exact i2 y z
        · show (gvQ (x - s.2.2.1) q).2.2 ≤ x
          omega
theorem sumD_le {f : Dn → Nat} {B : Nat} : ∀ (l : List Dn), (∀ s ∈ l, f s ≤ B) → sumD f l ≤ B * l.length
  | [], _ => Nat.zero_le _
  | s :: l, h => by
    show f s + sumD f l ≤ B * (l.length + 1)
    have h1 := h s List.mem_cons_self
    have h2 := sumD_le l (fun y hy => h y (List.mem_cons_of_mem _ hy))
    rw [Nat.mul_succ]
    omega
theorem toll_le {kd : Int32} {a : Nat} (h : a ≤ 2000) : tollN kd a ≤ 125 := by
  unfold tollN
  split <;> omega
theorem acD_le {kd hr : Int32} {x r : Nat} {q : List Sk} {j : Nat} (hx : x ≤ 3000) (h3 : r ≤ 3) (hq : ∀ s ∈ q, okS s) (hl : q.length ≤ 12) : acD kd hr x r q j ≤ 3000 := by
  obtain ⟨d1, d2, d3⟩ := gvQ_dn q x hq
  have s1 := sumD_le (f := tlN kd) (B := 125) (gvQ x q).2.1 (fun s hs => toll_le (d2 s hs))
  have s2 := sumD_le (f := ltN hr) (B := 1) (gvQ x q).2.1 (fun s hs => by unfold ltN; split <;> omega)
  unfold acD
  repeat' split
  all_goals omega
theorem flD_le {kd : Nat → Int32} {g : Nat → Nat} {qs : Nat → List Sk} {c m : Nat} (hq : ∀ s ∈ qs m, okS s) (hl : (qs m).length ≤ 12) : flD kd g qs c m ≤ 24000 := by
  obtain ⟨d1, d2, d3⟩ := gvQ_dn (qs m) (gbN g m) hq
  have s1 := sumD_le (f := flN (kd m) c) (B := 2000) (gvQ (gbN g m) (qs m)).2.1 (fun s hs => by
    have := d2 s hs
    unfold flN
    split <;> omega)
  unfold flD
  omega
theorem gbr_le {g : Nat → Nat} {m : Nat} (h : ∀ i, g i ≤ 1000) : gbN g m ≤ 3000 ∧ rcN g m ≤ 3 := by
  have h0 := h (3 * m)
  have h1 := h (3 * m + 1)
  have h2 := h (3 * m + 2)
  unfold gbN rcN b1N
  refine ⟨by omega, ?_⟩
  repeat' split
  all_goals omega
theorem hI_le {h : mM} {rd hr : Nat} (q : MH h rd hr) {kd : Nat → Int32} {w : Nat → Nat} {qs : Nat → List Sk} (hw : WB (cfg h) w) (hq : QS kd 4 qs) : ∀ k, (∀ m, m < 4 → ∀ j, (hI (cfg h) kd (TD h rd) hr (H0 w qs) k).2.2.1 m j ≤ 3000 * k) ∧ (∀ c, (hI (cfg h) kd (TD h rd) hr (H0 w qs) k).2.2.2.1 c ≤ 96000 * k) ∧ (∀ j, j < 4 → (hI (cfg h) kd (TD h rd) hr (H0 w qs) k).2.2.2.2.1 j ≤ 120000 * k) ∧ (hI (cfg h) kd (TD h rd) hr (H0 w qs) k).2.2.2.2.2 ≤ 12000 * k
  | 0 => ⟨fun _ _ _ => Nat.le_refl _, fun _ => Nat.le_refl _, fun _ _ => Nat.le_refl _, Nat.le_refl _⟩
  | k + 1 => by
    obtain ⟨i1, i2, i3, i4⟩ := hI_le q hw hq k
    have ok := hI_ok q (kd := kd) (X := H0 w qs) hw hq k
    have n := HN_ok q.1.1 (r := 4) (q.td (hr + k)).2 ok.1
    have n4 := q.1.1.1
    refine ⟨fun m hm j => ?_, fun c => ?_, fun j hj => ?_, ?_⟩
    · show (hI (cfg h) kd (TD h rd) hr (H0 w qs) k).2.2.1 m j + acD _ _ (gbN (HN (cfg h) (TD h rd (hr + k)) 4 (hI (cfg h) kd (TD h rd) hr (H0 w qs) k).1).2.2 m) (rcN (HN (cfg h) (TD h rd (hr + k)) 4 (hI (cfg h) kd (TD h rd) hr (H0 w qs) k).1).2.2 m) ((hI (cfg h) kd (TD h rd) hr (H0 w qs) k).2.1 m) j ≤ _
      have a := acD_le (kd := kd m) (hr := nI (hr + k)) (j := j) (gbr_le (m := m) n.2.2).1 (gbr_le (m := m) n.2.2).2 (ok.2 m hm).1 (ok.2 m hm).2.1
      have b := i1 m hm j
      omega
    · show (hI (cfg h) kd (TD h rd) hr (H0 w qs) k).2.2.2.1 c + sumN (flD kd (HN (cfg h) (TD h rd (hr + k)) 4 (hI (cfg h) kd (TD h rd) hr (H0 w qs) k).1).2.2 (hI (cfg h) kd (TD h rd) hr (H0 w qs) k).2.1 c) 4 ≤ _
      have a := sumN_le (g := flD kd (HN (cfg h) (TD h rd (hr + k)) 4 (hI (cfg h) kd (TD h rd) hr (H0 w qs) k).1).2.2 (hI (cfg h) kd (TD h rd) hr (H0 w qs) k).2.1 c) (A := 24000) 4 (fun i hi => flD_le (ok.2 i hi).1 (ok.2 i hi).2.1)
      have b := i2 c
      omega
    · show (hI (cfg h) kd (TD h rd) hr (H0 w qs) k).2.2.2.2.1 j + (HN (cfg h) (TD h rd (hr + k)) 4 (hI (cfg h) kd (TD h rd) hr (H0 w qs) k).1).2.1 j ≤ _
      have a := n.2.1 j hj
      have b := i3 j hj
      omega
    · show (hI (cfg h) kd (TD h rd) hr (H0 w qs) k).2.2.2.2.2 + sumN (nfS kd (HN (cfg h) (TD h rd (hr + k)) 4 (hI (cfg h) kd (TD h rd) hr (H0 w qs) k).1).2.2) (cfg h 0 2) ≤ _
      have a := sumN_le (g := nfS kd (HN (cfg h) (TD h rd (hr + k)) 4 (hI (cfg h) kd (TD h rd) hr (H0 w qs) k).1).2.2) (A := 3000) (cfg h 0 2) (fun i hi => by
        have := (gbr_le (m := i) n.2.2).1
        unfold nfS
        split <;> omega)
      omega
theorem hI_wk {h : mM} {rd hr : Nat} (q : MH h rd hr) {kd : Nat → Int32} {w : Nat → Nat} {qs : Nat → List Sk} (hw : WB (cfg h) w) (hq : QS kd 4 qs) {k : Nat} (hk : 1 ≤ k) : ∀ p, p < cfg h 0 0 → (hI (cfg h) kd (TD h rd) hr (H0 w qs) k).1 p ≤ cfg h 1 p * cfg h 2 p := by
  obtain ⟨j, e⟩ : ∃ j, k = j + 1 := ⟨k - 1, by omega⟩
  subst e
  exact (HN_ok q.1.1 (r := 4) (q.td (hr + j)).2 (hI_ok q (kd := kd) (X := H0 w qs) hw hq j).1).1
theorem hI_nil {c : Tb} {kd : Nat → Int32} {T : Nat → Nat} {hr : Nat} {w : Nat → Nat} {qs : Nat → List Sk} {m : Nat} (h : qs m = []) : ∀ k, (hI c kd T hr (H0 w qs) k).2.1 m = []
  | 0 => h
  | k + 1 => by
    show (gvQ _ ((hI c kd T hr (H0 w qs) k).2.1 m)).1 = []
    rw [hI_nil h k]
    rfl
theorem UT_hi {b j : Nat} (h : 106 ≤ b) : UT b j := ⟨by omega, by omega, by omega, by omega, fun _ => by omega, fun m hm => ⟨by omega, fun _ => by omega⟩⟩
theorem UT_lo {b j : Nat} (h : b = 2 ∨ b = 3 ∨ (b = 1 ∧ (j = 10 ∨ j = 15))) : UT b j := ⟨by omega, by omega, by omega, by omega, fun _ => by omega, fun m hm => ⟨by omega, fun _ => by omega⟩⟩
theorem F2_UT {b j : Nat} (z : F2 b j) : UT b j := by
  unfold F2 isM isT at z
  refine ⟨by omega, by omega, by omega, by omega, fun _ => by omega, fun m hm => ⟨by omega, fun _ => by omega⟩⟩
theorem FM_UT {b j : Nat} (z : FM9 b j) : UT b j := by
  rcases z with z | z | z
  · exact F2_UT z
  · unfold F3 at z
    refine ⟨by omega, by omega, by omega, by omega, fun _ => by omega, fun m hm => ⟨by omega, fun _ => by omega⟩⟩
  · exact UT_hi (by omega)
theorem hours_rel {h : mM} {k x rd hr : Nat} {X : HT} {I : Nat → Nat → Int32} {R : Nat → Nat → Option Nat} {τ : T8} (g : G h) (q2 : CF h) (q3 : B3 h rd) (h10 : hr + x ≤ 10000) (q5 : B5 h) (q6 : B6 h) (q8 : B8 h hr) (q9 : B9 h hr) (q10 : B10 h hr k) (q11 : B11 h) (q12 : B12 h k) (r : RCH h (hr + x) X I R) (rh : RH (wA h I R) (hr + x) X τ) (qX : QS (mI h 119) 4 X.2.1) (nil : ∀ m, m < 4 → cfg h 0 2 ≤ m → X.2.1 m = []) (wk : ∀ p, p < cfg h 0 0 → X.1 p ≤ cfg h 1 p * cfg h 2 p) (b8 : ∀ m, m < 4 → ∀ j, X.2.2.1 m j ≤ 3000 * x) (b9 : ∀ c, X.2.2.2.1 c ≤ 96000 * x) (b10 : ∀ j, j < 4 → X.2.2.2.2.1 j ≤ 120000 * x) : RLN (wM (wA h I R) 115 τ) (k + 1) := by
  obtain ⟨⟨r1, r1o⟩, r2, r3, r4, r5, r6, r7, r8⟩ := r
  obtain ⟨s1, s2, s3, s4, s5, s6, s7, s8⟩ := rh
  obtain ⟨h2, e2⟩ : ∃ y, wM (wA h I R) 115 τ = y := ⟨_, rfl⟩
  have G1 : G (wA h I R) := G.wA g r8
  have gI : ∀ a j, a ≠ 130 → a ≠ 129 → a ≠ 109 → a ≠ 115 → mI h2 a j = I a j := fun a j z1 z2 z3 z4 => by
    rw [← e2, mI_wM, if_neg z1, if_neg z2, if_neg z3, if_neg z4]; rfl
  have go : ∀ j, mI h2 109 j = to τ j := fun j => by rw [← e2, mI_wM, if_neg (by decide), if_neg (by decide), if_pos rfl]
  have gs : ∀ j, mI h2 129 j = ts τ j := fun j => by rw [← e2, mI_wM, if_neg (by decide), if_pos rfl]
  have gr : mI h2 130 = tr τ := funext fun j => by rw [← e2, mI_wM, if_pos rfl]
  have gw : ∀ j, mI h2 115 j = tw τ j := fun j => by rw [← e2, mI_wM, if_neg (by decide), if_neg (by decide), if_neg (by decide), if_pos rfl]
  have gc : ∀ j, mJ h2 131 j = tc τ j := fun j => by rw [← e2, mJ_wM, if_neg (by decide), if_neg (by decide), if_pos rfl]
  have ge : ∀ j, mJ h2 132 j = te τ j := fun j => by rw [← e2, mJ_wM, if_neg (by decide), if_neg (by decide), if_neg (by decide), if_pos rfl]
  have gf : ∀ j, mJ h2 133 j = tf τ j := fun j => by rw [← e2, mJ_wM, if_pos rfl]
  have g5 : ∀ j, mJ h2 135 j = mJ h 135 j := fun j => by rw [← e2, mJ_wM, if_neg (by decide), if_neg (by decide), if_neg (by decide), if_neg (by decide)]; rfl
  have gR : ∀ a j, mR h2 a j = R a j := fun a j => by rw [← e2]; rfl
  have f : ∀ a j, UT a j → a ≠ 130 → a ≠ 129 → a ≠ 115 → (a = 109 → j ≠ 0 ∧ j ≠ 34 ∧ j ≠ 36) → mI h2 a j = mI h a j := fun a j u z1 z2 z4 z3 => by
    by_cases e : a = 109
    · subst e
      obtain ⟨y1, y2, y3⟩ := z3 rfl
      rw [go, s2 j y1 y2 y3]
      exact r2 109 j u
    · rw [gI a j z1 z2 e z4]
      exact r2 a j u
  have f2 : ∀ a j, F2 a j → mI h2 a j = mI h a j := fun a j z => f a j (F2_UT z) (by unfold F2 isM isT at z; omega) (by unfold F2 isM isT at z; omega) (by unfold F2 isM isT at z; omega) (fun e => by unfold F2 isM isT at z; omega)
  have g2 : G h2 := by rw [← e2]; exact G.wM G1
  have ec : cfg h2 = cfg h := cfg_F2 f2
  have n4 := q2.1.1
  have e119 : mI h2 119 = mI h 119 := funext fun j => f 119 j (UT_hi (by omega)) (by omega) (by omega) (by omega) (fun e => by omega)
  obtain ⟨u1, u2, u3, u4⟩ := q10
  obtain ⟨t, t24, t1, t2, t3⟩ := q11
  rw [e2]
  refine ⟨g2, B2_congr f2 q2, ⟨rd, B3_congr (fun a j z => f a j (FM_UT (Or.inr (Or.inl z))) (by unfold F3 at z; omega) (by unfold F3 at z; omega) (by unfold F3 at z; omega) (fun e => by unfold F3 at z; omega)) q3⟩, hr + x, h10, ⟨?_, ?_⟩, fun p hp => ?_, B6_congr f2 q6, ⟨X.2.1, by rw [e119]; exact qX, fun m hm => ⟨?_, ?_, ?_⟩, by rw [ec]; exact nil⟩, fun m hm j hj => ?_, fun c hc => ?_, ⟨fun j hj => ?_, ?_, ?_, ?_⟩, ⟨t, t24, ?_, ?_, fun j hj => ?_⟩, fun j h1 h5 => ?_⟩
  · rw [gI 1 9 (by omega) (by omega) (by omega) (by omega)]; exact r3
  · rw [go]; exact s3
  · rw [ec]
    by_cases z : p < cfg h 0 0
    · refine ⟨X.1 p, ?_, ?_, fun _ => wk p z, fun z2 => by omega⟩
      · rw [gI 104 p (by omega) (by omega) (by omega) (by omega)]; exact r1 p z
      · rw [gw]
        exact s1 p (by rw [show cfg (wA h I R) = cfg h from cfg_F2 (fun a j z => r2 a j (F2_UT z))]; exact z)
    · rw [gI 104 p (by omega) (by omega) (by omega) (by omega), gw, r1o p (by omega), s8 p (by rw [show cfg (wA h I R) = cfg h from cfg_F2 (fun a j z => r2 a j (F2_UT z))]; omega)]
      rw [show mI (wA h I R) 115 p = mI h 115 p from r2 115 p (UT_hi (by omega))]
      exact q5 p hp
  · obtain ⟨P, C⟩ := r7 m hm
    exact ⟨P, CS_congr (qX m hm).2.1 (gI _ _ (by omega) (by omega) (by omega) (by omega)) (fun b j z1 z2 => gI _ _ (by omega) (by omega) (by omega) (by omega)) (fun j => gR _ j) C⟩
  · rw [gs]; exact (s4 m hm).1
  · rw [gr]; exact (s4 m hm).2
  · obtain ⟨a, a1, a2, a3⟩ := q8 m hm j hj
    have b := b8 m hm j
    refine ⟨a + X.2.2.1 m j, by omega, ?_, ?_⟩
    · rw [gI _ _ (by omega) (by omega) (by omega) (by omega), r5 m hm j hj, a2, nI_add]
    · rw [gc, s5 m hm j hj]
      show mJ h 131 _ + _ = _
      rw [a3, lN_add]
  · obtain ⟨a, a1, a2, a3⟩ := q9 c hc
    have b := b9 c
    refine ⟨a + X.2.2.2.1 c, by omega, ?_, ?_⟩
    · rw [gI _ _ (by omega) (by omega) (by omega) (by omega), r6 c, a2, nI_add]
    · rw [ge, s6 c]
      show mJ h 132 _ + _ = _
      rw [a3, lN_add]
  · obtain ⟨a, a1, a2, a3⟩ := u1 j hj
    have b := b10 j hj
    refine ⟨a + X.2.2.2.2.1 j, by omega, ?_, ?_⟩
    · rw [gI _ _ (by omega) (by omega) (by omega) (by omega), r4 j hj, a2, nI_add]
    · rw [gf, s7 j, if_pos hj]
      show mJ h 133 _ + _ = _
      rw [a3, lN_add]
  · rw [f 1 15 (UT_lo (by omega)) (by omega) (by omega) (by omega) (fun e => by omega), gf, s7 4, if_neg (by omega), lN_0]
    exact u2
  · rw [f 1 15 (UT_lo (by omega)) (by omega) (by omega) (by omega) (fun e => by omega)]; omega
  · rw [f 1 15 (UT_lo (by omega)) (by omega) (by omega) (by omega) (fun e => by omega)]; omega
  · rw [f 1 10 (UT_lo (by omega)) (by omega) (by omega) (by omega) (fun e => by omega)]; exact t1
  · rw [f 109 30 (UT_hi (by omega)) (by omega) (by omega) (by omega) (fun e => by omega)]; exact t2
  · rw [f 106 j (UT_hi (by omega)) (by omega) (by omega) (by omega) (fun e => by omega), f 134 j (UT_hi (by omega)) (by omega) (by omega) (by omega) (fun e => by omega)]; exact t3 j hj
  · rw [f 107 j (UT_hi (by omega)) (by omega) (by omega) (by omega) (fun e => by omega), g5]
    obtain ⟨a, a1, a2, a3⟩ := q12 j h1 h5
    exact ⟨a, by omega, a2, a3⟩
theorem k55 {d : Nat} {h : mM} {k : Nat} (hk : k < 1000) (q : RLN h k) {n : Int32} : OKc d 55 112 [some (.int n), none, none] [some (.int n), none, none, none, none] h k := by
  have q0 := q
  obtain ⟨rd0, hr0, c, h19, w, wb, w1, w2⟩ := q.ch
  obtain ⟨g, q2, ⟨rd, q3⟩, hr, h10, q4, q5, q6, ⟨qs, q7⟩, q8, q9, q10, q11, q12⟩ := q
  have c10 := c.1.2.2.2.1.2
  have eh : hr0 = hr := (nI_eq (by omega) (by omega)).mp (h19.symm.trans q4.1)
  subst eh
  by_cases bb : 1 ≤ n ∧ n ≤ 100
  · obtain ⟨x, e1, x1, x2⟩ := in_nI (lo := 1) (hi := 100) bb.1 bb.2 (by omega) (by omega)
    subst e1
    by_cases hl : hr0 + x ≤ 10000
    · obtain ⟨I, R, r, ex⟩ := c55_ok (d := d + 25) c h19 wb q7.1 w1 (fun m hm => (q7.2.1 m hm).1) x1 x2 hl
      have hRG : RG h R := r.2.2.2.2.2.2.2
      have G1 : G (wA h I R) := G.wA g hRG
      have u : ∀ a j, UT a j → mI (wA h I R) a j = mI h a j := r.2.1
      obtain ⟨c1, ec, et⟩ := CH_cg (h' := wA h I R) c G1 (fun a j z => u a j (FM_UT z))
      have e119 : mI (wA h I R) 119 = mI h 119 := funext (fun j => u 119 j (UT_hi (by omega)))
      have e130 : mI (wA h I R) 130 = mI h 130 := funext (fun j => u 130 j (UT_hi (by omega)))
      obtain ⟨τ, rh, ey⟩ := r112_ok (d := d + 25) c1.1 (w := w) (qs := qs) (by rw [ec]; exact wb) (by rw [e119]; exact q7.1) (by rw [ec]; exact fun p hp => (u 115 p (UT_hi (by omega))).trans (w2 p hp)) (fun m hm => by rw [u 129 m (UT_hi (by omega)), e130]; exact (q7.2.1 m hm).2) x1 x2 hl
      rw [ec, e119, et] at rh ey
      obtain ⟨b8, b9, b10, bs⟩ := hI_le c.1 wb q7.1 x
      have ok := hI_ok c.1 (kd := mI h 119) (X := H0 w qs) wb q7.1 x
      have wk := hI_wk c.1 wb q7.1 x1
      have nil : ∀ m, m < 4 → cfg h 0 2 ≤ m → (hI (cfg h) (mI h 119) (TD h rd0) hr0 (H0 w qs) x).2.1 m = [] := fun m hm z => hI_nil (q7.2.2 m hm z) x
      refine ⟨_, _, _, ex, ?_, G1, hours_rel g q2 q3 hl q5 q6 q8 q9 q10 q11 q12 r rh ok.2 nil wk b8 b9 b10⟩
      rw [ey, nI_l (by omega)]
    · exact OK_bad hk q0 (j := 4) (by omega) (by omega) lo4 (c55_full (d := d + 25) g x1 x2 h19 h10 hl) (r112_full (d := d + 25) (h := fC h 4) g x1 x2 (by rw [mI_fC (by decide)]; exact q4.2) h10 hl)
  · exact OK_bad hk q0 (j := 1) (by omega) (by omega) lo1 (c55_bad (d := d + 25) g bb) (r112_bad (d := d + 25) (h := fC h 1) g bb)
