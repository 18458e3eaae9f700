-- pond, gate, channel, widen, stone, on: the calls (gen_build.py)
theorem k41 {d : Nat} {h : mM} {k : Nat} (hk : k < 1000) (q : RLN h k) {a b w : Int32} : OKc d 41 87 [some (.int a), some (.int b), some (.int w), none, none] [some (.int a), some (.int b), some (.int w)] h k := by
  have q0 := q
  have g := q.1
  have q2 := q.2.1
  obtain ⟨⟨a4, a5, a6⟩, ⟨c3, c9, c13⟩, n4, n5, n6⟩ := q.cnt
  by_cases bb : (1 ≤ a ∧ a ≤ 100) ∧ (1 ≤ b ∧ b ≤ 250) ∧ 0 ≤ w ∧ w ≤ 200
  · by_cases h4 : cfg h 0 0 < 4
    · have b0 := bb
      obtain ⟨x, e1, x1, x2⟩ := in_nI (lo := 1) (hi := 100) bb.1.1 bb.1.2 (by omega) (by omega)
      obtain ⟨y, e2, y1, y2⟩ := in_nI (lo := 1) (hi := 250) bb.2.1.1 bb.2.1.2 (by omega) (by omega)
      obtain ⟨z, e3, _, z2⟩ := in_nI (lo := 0) (hi := 200) bb.2.2.1 bb.2.2.2 (by omega) (by omega)
      subst e1 e2 e3
      refine ⟨nI (cfg h 0 0), _, _, c41_ok (d := d + 28) g b0 a4 h4, r87_ok (d := d + 28) (h := wI (wI (wI (wI (h) (9 + cfg h 0 0) (0) (nI x)) (9 + cfg h 0 0) (1) (nI y)) (9 + cfg h 0 0) (2) (nI z)) (4) (4) (nI (cfg h 0 0) + 1)) (G.wI (G.wI (G.wI (G.wI (g))))) b0 (n := cfg h 0 0) (by rw [mI_wI, if_neg (by omega), mI_wI, if_neg (by omega), mI_wI, if_neg (by omega), mI_wI, if_neg (by omega)]; exact c3) h4, (G.wI (G.wI (G.wI (G.wI (g))))), ?_⟩
      exact pond_rel q h4 ⟨x1, x2⟩ ⟨y1, y2⟩ z2 (G.wI (G.wI (G.wI (G.wI (G.wI (G.wI (G.wI (G.wI (G.wI (g)))))))))) (fun x j hn => by rw [mI_wI, if_neg (by omega), mI_wI, if_neg (by omega), mI_wI, if_neg (by omega), mI_wI, if_neg (by omega), mI_wI, if_neg (by omega), mI_wI, if_neg (by omega), mI_wI, if_neg (by omega), mI_wI, if_neg (by omega), mI_wI, if_neg (by omega)]) (fun _ _ => by simp only [mJ_wI]) (fun _ _ => by simp only [mR_wI]) (by rw [mI_wI, if_neg (by omega), mI_wI, if_neg (by omega), mI_wI, if_neg (by omega), mI_wI, if_neg (by omega), mI_wI, if_neg (by omega), mI_wI, if_neg (by omega), mI_wI, if_neg (by omega), mI_wI, if_neg (by omega), mI_wI, if_pos ⟨rfl, rfl⟩]) (by rw [mI_wI, if_neg (by omega), mI_wI, if_neg (by omega), mI_wI, if_neg (by omega), mI_wI, if_neg (by omega), mI_wI, if_neg (by omega), mI_wI, if_neg (by omega), mI_wI, if_neg (by omega), mI_wI, if_pos ⟨rfl, rfl⟩]) (by rw [mI_wI, if_neg (by omega), mI_wI, if_neg (by omega), mI_wI, if_neg (by omega), mI_wI, if_neg (by omega), mI_wI, if_neg (by omega), mI_wI, if_neg (by omega), mI_wI, if_pos ⟨rfl, rfl⟩]) (by rw [mI_wI, if_neg (by omega), mI_wI, if_neg (by omega), mI_wI, if_neg (by omega), mI_wI, if_neg (by omega), mI_wI, if_neg (by omega), mI_wI, if_pos ⟨rfl, rfl⟩]; exact nI_1 _) (by rw [mI_wI, if_neg (by omega), mI_wI, if_neg (by omega), mI_wI, if_neg (by omega), mI_wI, if_neg (by omega), mI_wI, if_pos ⟨rfl, rfl⟩]) (by rw [mI_wI, if_neg (by omega), mI_wI, if_neg (by omega), mI_wI, if_neg (by omega), mI_wI, if_pos ⟨rfl, rfl⟩]) (by rw [mI_wI, if_neg (by omega), mI_wI, if_neg (by omega), mI_wI, if_pos ⟨rfl, rfl⟩]) (by rw [mI_wI, if_neg (by omega), mI_wI, if_pos ⟨rfl, rfl⟩]; rfl) (by rw [mI_wI, if_pos ⟨rfl, rfl⟩])
    · have e4 : cfg h 0 0 = 4 := by omega
      rw [e4] at a4 c3
      exact OK_bad hk q0 (j := 4) (by omega) (by omega) lo4 (c41_full (d := d + 28) g bb a4) (r87_full (d := d + 28) (h := fC h 4) g bb (by rw [mI_fC (by decide)]; exact c3))
  · exact OK_bad hk q0 (j := 1) (by omega) (by omega) lo1 (c41_bad (d := d + 28) g bb) (r87_bad (d := d + 28) (h := fC h 1) g bb)
theorem k42 {d : Nat} {h : mM} {k : Nat} (hk : k < 1000) (q : RLN h k) {P v : Int32} : OKc d 42 88 [some (.int P), some (.int v), none] [some (.int P), some (.int v), none] h k := by
  have q0 := q
  have g := q.1
  have q2 := q.2.1
  obtain ⟨⟨a4, a5, a6⟩, ⟨c3, c9, c13⟩, n4, n5, n6⟩ := q.cnt
  by_cases bb : (0 ≤ P ∧ P ≤ mI h 4 4 - 1) ∧ 0 ≤ v ∧ v ≤ 2
  · have b0 := bb.2
    obtain ⟨p, e1, hp⟩ := in_cnt a4 (by omega) bb.1.1 bb.1.2
    obtain ⟨y, e2, _, y2⟩ := in_nI (lo := 0) (hi := 2) bb.2.1 bb.2.2 (by omega) (by omega)
    subst e1 e2
    obtain ⟨⟨_, _, _, x3⟩, _, _, _, y3⟩ := q2.p hp
    refine ⟨mI h (9 + p) 3, _, wI (wI h (9 + p) 3 (nI y)) 114 p (nI y), c42_ok (d := d + 28) g a4 hp n4 b0, ?_, g, ?_⟩
    rotate_left
    · exact gate_rel (h' := wI (wI h (9 + p) 3 (nI y)) 114 p (nI y)) q hp y2 (G.wI (G.wI (g))) (fun x j hn => by rw [mI_wI, if_neg (by omega), mI_wI, if_neg (by omega)]) (fun _ _ => by simp only [mJ_wI]) (fun _ _ => by simp only [mR_wI]) (by rw [mI_wI, if_neg (by omega), mI_wI, if_pos ⟨rfl, rfl⟩]) (by rw [mI_wI, if_pos ⟨rfl, rfl⟩])
    · have := r88_ok (d := d + 28) (h := wI h (9 + p) 3 (nI y)) g (n := cfg h 0 0) (p := p) (by rw [mI_wI, if_neg (by omega)]; exact c3) hp n4 b0
      rw [mI_wI, if_neg (by omega)] at this
      rw [x3, ← y3]
      exact this
  · refine OK_bad hk q0 (j := 1) (by omega) (by omega) lo1 (c42_bad (d := d + 28) g bb) (r88_bad (d := d + 28) (h := fC h 1) g ?_)
    rw [mI_fC (by decide), c3, ← a4]
    exact bb
theorem k44 {d : Nat} {h : mM} {k : Nat} (hk : k < 1000) (q : RLN h k) {a b w : Int32} : OKc d 44 90 [some (.int a), some (.int b), some (.int w), none, none] [some (.int a), some (.int b), some (.int w)] h k := by
  have q0 := q
  have g := q.1
  have q2 := q.2.1
  obtain ⟨⟨a4, a5, a6⟩, ⟨c3, c9, c13⟩, n4, n5, n6⟩ := q.cnt
  by_cases bb : (0 ≤ a ∧ a ≤ mI h 4 4 - 1) ∧ (0 ≤ b ∧ b ≤ mI h 4 4 - 1) ∧ ¬ a = b ∧ 0 ≤ w ∧ w ≤ 200
  · have ec : mI h 109 3 = mI h 4 4 := c3.trans a4.symm
    by_cases h4 : cfg h 0 1 < 4
    · have b0 := bb
      obtain ⟨x, e1, hx⟩ := in_cnt a4 (by omega) bb.1.1 bb.1.2
      obtain ⟨y, e2, hy⟩ := in_cnt a4 (by omega) bb.2.1.1 bb.2.1.2
      obtain ⟨z, e3, _, z2⟩ := in_nI (lo := 0) (hi := 200) bb.2.2.2.1 bb.2.2.2.2 (by omega) (by omega)
      subst e1 e2 e3
      have hxy : x ≠ y := fun e => bb.2.2.1 (by rw [e])
      refine ⟨nI (cfg h 0 1), _, _, c44_ok (d := d + 28) g b0 a5 h4, r90_ok (d := d + 28) (h := wI (wI (wI (wI (h) (13 + cfg h 0 1) (0) (nI x)) (13 + cfg h 0 1) (1) (nI y)) (13 + cfg h 0 1) (2) (nI z)) (4) (5) (nI (cfg h 0 1) + 1)) (G.wI (G.wI (G.wI (G.wI (g))))) (by rw [mI_wI, if_neg (by omega), mI_wI, if_neg (by omega), mI_wI, if_neg (by omega), mI_wI, if_neg (by omega), ec]; exact b0) (n := cfg h 0 1) (by rw [mI_wI, if_neg (by omega), mI_wI, if_neg (by omega), mI_wI, if_neg (by omega), mI_wI, if_neg (by omega)]; exact c9) h4, (G.wI (G.wI (G.wI (G.wI (g))))), ?_⟩
      exact chan_rel q h4 hx hy hxy z2 (G.wI (G.wI (G.wI (G.wI (G.wI (G.wI (G.wI (G.wI (g))))))))) (fun x j hn => by rw [mI_wI, if_neg (by omega), mI_wI, if_neg (by omega), mI_wI, if_neg (by omega), mI_wI, if_neg (by omega), mI_wI, if_neg (by omega), mI_wI, if_neg (by omega), mI_wI, if_neg (by omega), mI_wI, if_neg (by omega)]) (fun _ _ => by simp only [mJ_wI]) (fun _ _ => by simp only [mR_wI]) (by rw [mI_wI, if_neg (by omega), mI_wI, if_neg (by omega), mI_wI, if_neg (by omega), mI_wI, if_neg (by omega), mI_wI, if_neg (by omega), mI_wI, if_neg (by omega), mI_wI, if_neg (by omega), mI_wI, if_pos ⟨rfl, rfl⟩]) (by rw [mI_wI, if_neg (by omega), mI_wI, if_neg (by omega), mI_wI, if_neg (by omega), mI_wI, if_neg (by omega), mI_wI, if_neg (by omega), mI_wI, if_neg (by omega), mI_wI, if_pos ⟨rfl, rfl⟩]) (by rw [mI_wI, if_neg (by omega), mI_wI, if_neg (by omega), mI_wI, if_neg (by omega), mI_wI, if_neg (by omega), mI_wI, if_neg (by omega), mI_wI, if_pos ⟨rfl, rfl⟩]) (by rw [mI_wI, if_neg (by omega), mI_wI, if_neg (by omega), mI_wI, if_neg (by omega), mI_wI, if_neg (by omega), mI_wI, if_pos ⟨rfl, rfl⟩]; exact nI_1 _) (by rw [mI_wI, if_neg (by omega), mI_wI, if_neg (by omega), mI_wI, if_neg (by omega), mI_wI, if_pos ⟨rfl, rfl⟩]) (by rw [mI_wI, if_neg (by omega), mI_wI, if_neg (by omega), mI_wI, if_pos ⟨rfl, rfl⟩]) (by rw [mI_wI, if_neg (by omega), mI_wI, if_pos ⟨rfl, rfl⟩]) (by rw [mI_wI, if_pos ⟨rfl, rfl⟩])
    · have e4 : cfg h 0 1 = 4 := by omega
      rw [e4] at a5 c9
      exact OK_bad hk q0 (j := 4) (by omega) (by omega) lo4 (c44_full (d := d + 28) g bb a5) (r90_full (d := d + 28) (h := fC h 4) g (by rw [mI_fC (by decide), ec]; exact bb) (by rw [mI_fC (by decide)]; exact c9))
  · exact OK_bad hk q0 (j := 1) (by omega) (by omega) lo1 (c44_bad (d := d + 28) g bb) (r90_bad (d := d + 28) (h := fC h 1) g (by rw [mI_fC (by decide), c3, ← a4]; exact bb))
theorem k45 {d : Nat} {h : mM} {k : Nat} (hk : k < 1000) (q : RLN h k) {P v : Int32} : OKc d 45 91 [some (.int P), some (.int v), none] [some (.int P), some (.int v), none] h k := by
  have q0 := q
  have g := q.1
  have q2 := q.2.1
  obtain ⟨⟨a4, a5, a6⟩, ⟨c3, c9, c13⟩, n4, n5, n6⟩ := q.cnt
  by_cases bb : (0 ≤ P ∧ P ≤ mI h 4 5 - 1) ∧ 0 ≤ v ∧ v ≤ 200
  · have b0 := bb.2
    obtain ⟨p, e1, hp⟩ := in_cnt a5 (by omega) bb.1.1 bb.1.2
    obtain ⟨y, e2, _, y2⟩ := in_nI (lo := 0) (hi := 200) bb.2.1 bb.2.2 (by omega) (by omega)
    subst e1 e2
    obtain ⟨⟨_, _, x3⟩, _, _, y3⟩ := q2.k hp
    refine ⟨mI h (13 + p) 2, _, wI (wI h (13 + p) 2 (nI y)) 118 p (nI y), c45_ok (d := d + 28) g a5 hp n5 b0, ?_, g, ?_⟩
    rotate_left
    · exact widen_rel (h' := wI (wI h (13 + p) 2 (nI y)) 118 p (nI y)) q hp y2 (G.wI (G.wI (g))) (fun x j hn => by rw [mI_wI, if_neg (by omega), mI_wI, if_neg (by omega)]) (fun _ _ => by simp only [mJ_wI]) (fun _ _ => by simp only [mR_wI]) (by rw [mI_wI, if_neg (by omega), mI_wI, if_pos ⟨rfl, rfl⟩]) (by rw [mI_wI, if_pos ⟨rfl, rfl⟩])
    · have := r91_ok (d := d + 28) (h := wI h (13 + p) 2 (nI y)) g (n := cfg h 0 1) (p := p) (by rw [mI_wI, if_neg (by omega)]; exact c9) hp n5 b0
      rw [mI_wI, if_neg (by omega)] at this
      rw [x3, ← y3]
      exact this
  · refine OK_bad hk q0 (j := 1) (by omega) (by omega) lo1 (c45_bad (d := d + 28) g bb) (r91_bad (d := d + 28) (h := fC h 1) g ?_)
    rw [mI_fC (by decide), c9, ← a5]
    exact bb
theorem k49 {d : Nat} {h : mM} {k : Nat} (hk : k < 1000) (q : RLN h k) {M a b c e : Int32} : OKc d 49 95 [some (.int M), some (.int a), some (.int b), some (.int c), some (.int e), none, none, none] [some (.int M), some (.int a), some (.int b), some (.int c), some (.int e), none] h k := by
  have q0 := q
  have g := q.1
  have q2 := q.2.1
  obtain ⟨⟨a4, a5, a6⟩, ⟨c3, c9, c13⟩, n4, n5, n6⟩ := q.cnt
  by_cases bM : 0 ≤ M ∧ M ≤ mI h 4 6 - 1
  · by_cases bb : stoneOK h a b c e
    · obtain ⟨m, e0, hm⟩ := in_cnt a6 (by omega) bM.1 bM.2
      subst e0
      obtain ⟨⟨_, _, _, _, _, x7⟩, _, _, _, _, _, y7⟩ := q2.m hm
      have h3 := (q2.1.2.2.2.1 m hm).2.2.2.2.2
      by_cases h4 : cfg h 13 m < 3
      · have b0 := bb
        obtain ⟨x, e1, x1, x2⟩ := in_nI (lo := 1) (hi := 200) bb.1.1 bb.1.2 (by omega) (by omega)
        obtain ⟨y, e2, y1, y2⟩ := in_nI (lo := 1) (hi := 1000) bb.2.1.1 bb.2.1.2 (by omega) (by omega)
        obtain ⟨z, e3, z1, z2⟩ := in_nI (lo := 1) (hi := 20) bb.2.2.1.1 bb.2.2.1.2 (by omega) (by omega)
        obtain ⟨u, e4, u1, u2⟩ := in_nI (lo := 1) (hi := 1000) bb.2.2.2.1 bb.2.2.2.2 (by omega) (by omega)
        subst e1 e2 e3 e4
        refine ⟨nI (cfg h 13 m), _, _, c49_ok (d := d + 28) g a6 hm n6 b0 x7 h4, r95_ok (d := d + 28) (h := wI (wI (wI (wI (wI (h) (20 + 18 * m + cfg h 13 m) (0) (nI x)) (20 + 18 * m + cfg h 13 m) (1) (nI y)) (20 + 18 * m + cfg h 13 m) (2) (nI z)) (20 + 18 * m + cfg h 13 m) (3) (nI u)) (17 + 18 * m) (7) (nI (cfg h 13 m + 1))) (G.wI (G.wI (G.wI (G.wI (G.wI (g)))))) (n := cfg h 0 2) (by rw [mI_wI, if_neg (by omega), mI_wI, if_neg (by omega), mI_wI, if_neg (by omega), mI_wI, if_neg (by omega), mI_wI, if_neg (by omega)]; exact c13) hm n6 b0 (s := cfg h 13 m) (by rw [mI_wI, if_neg (by omega), mI_wI, if_neg (by omega), mI_wI, if_neg (by omega), mI_wI, if_neg (by omega), mI_wI, if_neg (by omega)]; exact y7) h4, (G.wI (G.wI (G.wI (G.wI (G.wI (g)))))), ?_⟩
        exact stone_rel q hm h4 ⟨x1, x2⟩ ⟨y1, y2⟩ ⟨z1, z2⟩ ⟨u1, u2⟩ (G.wI (G.wI (G.wI (G.wI (G.wI (G.wI (G.wI (G.wI (G.wI (G.wI (G.wI (g)))))))))))) (fun x j hn => by rw [mI_wI, if_neg (by omega), mI_wI, if_neg (by omega), mI_wI, if_neg (by omega), mI_wI, if_neg (by omega), mI_wI, if_neg (by omega), mI_wI, if_neg (by omega), mI_wI, if_neg (by omega), mI_wI, if_neg (by omega), mI_wI, if_neg (by omega), mI_wI, if_neg (by omega), mI_wI, if_neg (by omega)]) (fun _ _ => by simp only [mJ_wI]) (fun _ _ => by simp only [mR_wI]) (by rw [mI_wI, if_neg (by omega), mI_wI, if_neg (by omega), mI_wI, if_neg (by omega), mI_wI, if_neg (by omega), mI_wI, if_neg (by omega), mI_wI, if_neg (by omega), mI_wI, if_neg (by omega), mI_wI, if_neg (by omega), mI_wI, if_neg (by omega), mI_wI, if_neg (by omega), mI_wI, if_pos ⟨rfl, rfl⟩]) (by rw [mI_wI, if_neg (by omega), mI_wI, if_neg (by omega), mI_wI, if_neg (by omega), mI_wI, if_neg (by omega), mI_wI, if_neg (by omega), mI_wI, if_neg (by omega), mI_wI, if_neg (by omega), mI_wI, if_neg (by omega), mI_wI, if_neg (by omega), mI_wI, if_pos ⟨rfl, rfl⟩]) (by rw [mI_wI, if_neg (by omega), mI_wI, if_neg (by omega), mI_wI, if_neg (by omega), mI_wI, if_neg (by omega), mI_wI, if_neg (by omega), mI_wI, if_neg (by omega), mI_wI, if_neg (by omega), mI_wI, if_neg (by omega), mI_wI, if_pos ⟨rfl, rfl⟩]) (by rw [mI_wI, if_neg (by omega), mI_wI, if_neg (by omega), mI_wI, if_neg (by omega), mI_wI, if_neg (by omega), mI_wI, if_neg (by omega), mI_wI, if_neg (by omega), mI_wI, if_neg (by omega), mI_wI, if_pos ⟨rfl, rfl⟩]) (by rw [mI_wI, if_neg (by omega), mI_wI, if_neg (by omega), mI_wI, if_neg (by omega), mI_wI, if_neg (by omega), mI_wI, if_neg (by omega), mI_wI, if_neg (by omega), mI_wI, if_pos ⟨rfl, rfl⟩]) (by rw [mI_wI, if_neg (by omega), mI_wI, if_neg (by omega), mI_wI, if_neg (by omega), mI_wI, if_neg (by omega), mI_wI, if_neg (by omega), mI_wI, if_pos ⟨rfl, rfl⟩]) (by rw [mI_wI, if_neg (by omega), mI_wI, if_neg (by omega), mI_wI, if_neg (by omega), mI_wI, if_neg (by omega), mI_wI, if_pos ⟨rfl, rfl⟩]) (by rw [mI_wI, if_neg (by omega), mI_wI, if_neg (by omega), mI_wI, if_neg (by omega), mI_wI, if_pos ⟨rfl, rfl⟩]) (by rw [mI_wI, if_neg (by omega), mI_wI, if_neg (by omega), mI_wI, if_pos ⟨rfl, rfl⟩]) (by rw [mI_wI, if_pos ⟨rfl, rfl⟩]) (by rw [mI_wI, if_neg (by omega), mI_wI, if_pos ⟨rfl, rfl⟩, mI_wI, if_neg (by omega), mI_wI, if_neg (by omega), mI_wI, if_neg (by omega), mI_wI, if_neg (by omega), mI_wI, if_neg (by omega)])
      · have e4 : cfg h 13 m = 3 := by omega
        rw [e4] at x7 y7
        exact OK_bad hk q0 (j := 4) (by omega) (by omega) lo4 (c49_full (d := d + 28) g a6 hm n6 bb x7) (r95_full (d := d + 28) (h := fC h 4) g (n := cfg h 0 2) (by rw [mI_fC (by decide)]; exact c13) hm n6 bb (by rw [mI_fC (by decide)]; exact y7))
    · exact OK_bad hk q0 (j := 1) (by omega) (by omega) lo1 (c49_bad (d := d + 28) g (fun z => bb z.2)) (r95_bad (d := d + 28) (h := fC h 1) g (fun z => bb z.2))
  · exact OK_bad hk q0 (j := 1) (by omega) (by omega) lo1 (c49_bad (d := d + 28) g (fun z => bM z.1)) (r95_bad (d := d + 28) (h := fC h 1) g (fun z => bM (by rw [a6, ← c13]; have := z.1; rw [mI_fC (by decide)] at this; exact this)))
theorem bI_bit {x : Int32} {c : Nat} (h : x = nI c) (hc : c ≤ 1) : bI (¬ x = 0) = x := by
  subst h
  rcases (show c = 0 ∨ c = 1 by omega) with z | z <;> subst z <;> decide
theorem k50 {d : Nat} {h : mM} {k : Nat} (hk : k < 1000) (q : RLN h k) {M S i : Int32} : OKc d 50 96 [some (.int M), some (.int S), some (.int i), none, none] [some (.int M), some (.int S), some (.int i), none, none] h k := by
  have q0 := q
  have g := q.1
  have q2 := q.2.1
  obtain ⟨⟨a4, a5, a6⟩, ⟨c3, c9, c13⟩, n4, n5, n6⟩ := q.cnt
  by_cases bM : 0 ≤ M ∧ M ≤ mI h 4 6 - 1
  · obtain ⟨m, e0, hm⟩ := in_cnt a6 (by omega) bM.1 bM.2
    subst e0
    obtain ⟨⟨_, _, _, _, _, x7⟩, _, _, _, _, _, y7⟩ := q2.m hm
    have h3 := (q2.1.2.2.2.1 m hm).2.2.2.2.2
    by_cases bb : (0 ≤ S ∧ S ≤ mI h (17 + 18 * m) 7 - 1) ∧ 0 ≤ i ∧ i ≤ 1
    · have b0 := bb.2
      obtain ⟨s, e1, hs⟩ := in_cnt x7 (by omega) bb.1.1 bb.1.2
      obtain ⟨y, e2, _, y2⟩ := in_nI (lo := 0) (hi := 1) bb.2.1 bb.2.2 (by omega) (by omega)
      subst e1 e2
      have pt := q2.pt hm hs
      have ex : bI (¬ mI h (20 + 18 * m + s) 4 = 0) = onM (mI h 109 24) (3 * m + s) := by
        rw [← pt.2.2.1]
        exact bI_bit (pt.2.2.1.trans pt.2.2.2) pt.1.2.2.2.2
      refine ⟨bI (¬ mI h (20 + 18 * m + s) 4 = 0), _, wI (wI h (20 + 18 * m + s) 4 (nI y)) 109 24 (mI h 109 24 &&& ((1 : Int32) <<< (nI (3 * m + s) &&& 31) ^^^ (-1)) ||| nI y <<< (nI (3 * m + s) &&& 31)), c50_ok (d := d + 28) g a6 hm n6 x7 h3 hs b0, ?_, g, ?_⟩
      rotate_left
      · exact on_rel (h' := wI (wI h (20 + 18 * m + s) 4 (nI y)) 109 24 (mI h 109 24 &&& ((1 : Int32) <<< (nI (3 * m + s) &&& 31) ^^^ (-1)) ||| nI y <<< (nI (3 * m + s) &&& 31))) q hm hs y2 (G.wI (G.wI (g))) (fun x j hn => by rw [mI_wI, if_neg (by omega), mI_wI, if_neg (by omega)]) (fun _ _ => by simp only [mJ_wI]) (fun _ _ => by simp only [mR_wI]) (by rw [mI_wI, if_neg (by omega), mI_wI, if_pos ⟨rfl, rfl⟩]) (by rw [mI_wI, if_pos ⟨rfl, rfl⟩])
      · have := r96_ok (d := d + 28) (h := wI h (20 + 18 * m + s) 4 (nI y)) g (n := cfg h 0 2) (p := m) (by rw [mI_wI, if_neg (by omega)]; exact c13) hm n6 (s := s) (k := cfg h 13 m) (by rw [mI_wI, if_neg (by omega)]; exact y7) h3 hs b0
        rw [mI_wI, if_neg (by omega)] at this
        rw [ex]
        exact this
    · refine OK_bad hk q0 (j := 1) (by omega) (by omega) lo1 (c50_bad2 (d := d + 28) g a6 hm n6 bb) (r96_bad2 (d := d + 28) (h := fC h 1) g (n := cfg h 0 2) (by rw [mI_fC (by decide)]; exact c13) hm n6 ?_)
      rw [mI_fC (by decide), y7, ← x7]
      exact bb
  · refine OK_bad hk q0 (j := 1) (by omega) (by omega) lo1 (c50_bad1 (d := d + 28) g bM) (r96_bad1 (d := d + 28) (h := fC h 1) g ?_)
    rw [mI_fC (by decide), c13, ← a6]
    exact bM
