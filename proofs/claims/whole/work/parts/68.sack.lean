-- sack: both sides (gen_sack.py)
theorem sack_rel {h h' : mM} {k m cu am : Nat} {e0 : Int32} {qs : Nat → List Sk} {P : Nat → Nat} (q : RLN h k) (q7 : B7 h qs) (hm : m < 4) (hm2 : m < cfg h 0 2) (cs : CS (mI h) (mR h) m (qs m) P) (l11 : (qs m).length < 12) (k2 : ¬ mI h 119 m = 2) (c9 : cu ≤ 9) (am1 : 1 ≤ am) (am2 : am ≤ 2000) (g : G h') (f : ∀ a j, ¬ ((a = 129 ∧ j = m) ∨ (a = 130 ∧ 48 * m + 4 * (qs m).length ≤ j ∧ j < 48 * m + 4 * (qs m).length + 4) ∨ (a = 17 + 18 * m ∧ j = 8) ∨ (a = 23 + 18 * m + P (qs m).length ∧ j < 4)) → mI h' a j = mI h a j) (fj : ∀ a j, mJ h' a j = mJ h a j) (fr : ∀ a j, mR h' a j = mR h a j) (v0 : mI h' (23 + 18 * m + P (qs m).length) 0 = nI cu) (v1 : mI h' (23 + 18 * m + P (qs m).length) 1 = nI am) (v2 : mI h' (23 + 18 * m + P (qs m).length) 2 = nI am) (v3 : mI h' (23 + 18 * m + P (qs m).length) 3 = e0) (v8 : mI h' (17 + 18 * m) 8 = nI ((qs m).length + 1)) (r0 : mI h' 130 (48 * m + 4 * (qs m).length) = nI cu) (r1 : mI h' 130 (48 * m + 4 * (qs m).length + 1) = nI am) (r2 : mI h' 130 (48 * m + 4 * (qs m).length + 2) = nI am) (r3 : mI h' 130 (48 * m + 4 * (qs m).length + 3) = e0) (v9 : mI h' 129 m = nI ((qs m).length + 1)) : RLN h' (k + 1) := by
  obtain ⟨_, q2, ⟨rd, q3⟩, hr, h10, q4, q5, q6, _, q8, q9, q10, q11, q12⟩ := q
  have pp := (cs.1.1 (qs m).length l11).2
  have e : cfg h' = cfg h := cfg_F2 (fun a j z => f a j (by unfold F2 isM isT at z; omega))
  refine ⟨g, B2_congr (fun a j z => f a j (by unfold F2 isM isT at z; omega)) q2, ⟨rd, B3_congr (fun a j z => f a j (by unfold F3 at z; omega)) q3⟩, hr, h10, B4_congr (fun a j z => f a j (by unfold F4 at z; omega)) q4, B5_congr e (fun a j z => f a j (by unfold F5 at z; omega)) q5, B6_congr (fun a j z => f a j (by unfold F2 isM isT at z; omega)) q6, ⟨fun x => (if x = m then qs m ++ [(cu, am, am, e0)] else qs x), ?_⟩, B8_congr (fun a j z => f a j (by unfold F8 isM at z; omega)) (fun j => fj _ j) q8, B9_congr (fun a j z => f a j (by unfold F9 at z; omega)) (fun j => fj _ j) q9, B10_congr (fun a j z => f a j (by unfold F10 at z; omega)) (fun j => fj _ j) q10, B11_congr (fun a j z => f a j (by unfold F11 at z; omega)) q11, B12_congr (fun a j z => f a j (by unfold F12 at z; omega)) (fun j => fj _ j) q12⟩
  have hx : ∀ x, x ≠ m → (if x = m then qs m ++ [(cu, am, am, e0)] else qs x) = qs x := fun x z => if_neg z
  have hxm : (if m = m then qs m ++ [(cu, am, am, e0)] else qs m) = qs m ++ [(cu, am, am, e0)] := if_pos rfl
  have ll : (qs m ++ [((cu, am, am, e0) : Sk)]).length = (qs m).length + 1 := by rw [List.length_append]; rfl
  refine ⟨fun x hx4 => ?_, fun x hx4 => ?_, fun x hx4 z => ?_⟩
  · show (∀ s ∈ (if x = m then qs m ++ [(cu, am, am, e0)] else qs x), okS s) ∧ ((if x = m then qs m ++ [(cu, am, am, e0)] else qs x)).length ≤ 12 ∧ (mI h' 119 x = 2 → (if x = m then qs m ++ [(cu, am, am, e0)] else qs x) = [])
    rw [f 119 x (by omega)]
    by_cases z : x = m
    · subst z
      rw [hxm]
      refine ⟨fun s hs => ?_, by omega, fun z => absurd z k2⟩
      rcases List.mem_append.mp hs with y | y
      · exact (q7.1 x hx4).1 s y
      · rw [List.mem_singleton.mp y]
        exact ⟨by show cu < 10; omega, am2, am1, am2⟩
    · rw [hx x z]
      exact q7.1 x hx4
  · show (∃ P, CS (mI h') (mR h') x (if x = m then qs m ++ [(cu, am, am, e0)] else qs x) P) ∧ mI h' 129 x = nI ((if x = m then qs m ++ [(cu, am, am, e0)] else qs x)).length ∧ Qr (mI h' 130) (48 * x) (if x = m then qs m ++ [(cu, am, am, e0)] else qs x)
    by_cases z : x = m
    · subst z
      rw [hxm, ll]
      refine ⟨⟨P, ?_, ?_, Qc_app ?_ ?_⟩, v9, Qr_app ?_ ⟨r0, r1, r2, r3⟩⟩
      · refine ⟨fun i hi => ?_, cs.1.2⟩
        rw [fr]
        exact cs.1.1 i hi
      · rw [v8, ll]
      · refine Qc_congr (e := 0) (fun i i1 i2 j hj => ?_) cs.2.2
        have inj := cs.1.2 i (qs x).length (by omega) (by omega)
        have pi := (cs.1.1 i (by omega)).2
        rw [f (23 + 18 * x + P i) j (by omega)]
        rfl
      · rw [Nat.zero_add]
        exact ⟨v0, v1, v2, v3⟩
      · exact Qr_congr (fun i i1 i2 => f 130 i (by omega)) (q7.2.1 x hx4).2.2
    · rw [hx x z]
      obtain ⟨⟨P', c'⟩, c2, c3⟩ := q7.2.1 x hx4
      have l12' := (q7.1 x hx4).2.1
      refine ⟨⟨P', CS_congr l12' (f _ _ (by omega)) (fun b j z1 z2 => f b j (by omega)) (fun j => fr _ j) c'⟩, ?_, Qr_congr (fun i i1 i2 => f 130 i (by omega)) c3⟩
      rw [f 129 x (by omega)]
      exact c2
  · show (if x = m then qs m ++ [(cu, am, am, e0)] else qs x) = []
    rw [e] at z
    rw [hx x (by omega)]
    exact q7.2.2 x hx4 z
theorem k51 {d : Nat} {h : mM} {k : Nat} (hk : k < 1000) (q : RLN h k) {M c a e0 : Int32} : OKc d 51 97 [some (.int M), some (.int c), some (.int a), some (.int e0), none, none] [some (.int M), some (.int c), some (.int a), some (.int e0), none] h k := by
  have q0 := q
  obtain ⟨g, q2, ⟨rd, q3⟩, hr, h10, q4, q5, q6, ⟨qs, q7⟩, q8, q9, q10, q11, q12⟩ := q
  obtain ⟨⟨a4, a5, a6⟩, ⟨b3, b9, b13⟩, n4, nc4, nm4⟩ := q0.cnt
  by_cases b : sackOK h M c a e0
  · have b0 := b
    obtain ⟨b1, b2, b3', b4⟩ := b0
    obtain ⟨m, e1, hm⟩ := in_cnt a6 (by omega) b1.1 b1.2
    subst e1
    have mc := q2.m hm
    have hbm : (0 ≤ c ∧ c ≤ 9) ∧ (1 ≤ a ∧ a ≤ 2000) ∧ mI h 109 0 ≤ e0 := ⟨b2, b3', by rw [q4.2, ← q4.1]; exact b4⟩
    have e19 : mI h (17 + 18 * m) 2 = mI h 119 m := mc.1.1.trans mc.2.1.symm
    have e23 : mI h (17 + 18 * m) 6 = mI h 123 m := mc.1.2.2.2.2.1.trans mc.2.2.2.2.2.1.symm
    obtain ⟨⟨P, cs⟩, s2, s3⟩ := q7.2.1 m (by omega)
    obtain ⟨ok1, l12, ok3⟩ := q7.1 m (by omega)
    by_cases k2 : mI h (17 + 18 * m) 2 = 2
    · exact OK_bad hk q0 (j := 5) (by omega) (by omega) lo5 (c51_kind (d := d + 28) g a6 hm nm4 b k2) (r97_kind (d := d + 28) (h := fC h 5) g (n := cfg h 0 2) (by rw [mI_fC (by decide)]; exact b13) hm nm4 (by rw [mI_fC (by decide)]; exact hbm) (by rw [mI_fC (by decide), ← e19]; exact k2))
    · by_cases k1 : mI h (17 + 18 * m) 2 = 1 ∧ ¬ c = mI h (17 + 18 * m) 6
      · exact OK_bad hk q0 (j := 3) (by omega) (by omega) lo3 (c51_state (d := d + 28) g a6 hm nm4 b k1.1 k1.2) (r97_state (d := d + 28) (h := fC h 3) g (n := cfg h 0 2) (by rw [mI_fC (by decide)]; exact b13) hm nm4 (by rw [mI_fC (by decide)]; exact hbm) (by rw [mI_fC (by decide), ← e19]; exact k1.1) (by rw [mI_fC (by decide), ← e23]; exact fun z => k1.2 z.symm))
      · by_cases l : (qs m).length = 12
        · have cs8 := cs.2.1
          rw [l] at cs8 s2
          exact OK_bad hk q0 (j := 4) (by omega) (by omega) lo4 (c51_full (d := d + 28) g a6 hm nm4 b k2 k1 cs8) (r97_full (d := d + 28) (h := fC h 4) g (n := cfg h 0 2) (by rw [mI_fC (by decide)]; exact b13) hm nm4 (by rw [mI_fC (by decide)]; exact hbm) (by rw [mI_fC (by decide), ← e19]; exact k2) (by rw [mI_fC (by decide), mI_fC (by decide), ← e19, ← e23]; exact fun z => k1 ⟨z.1, fun y => z.2 y.symm⟩) (by rw [mI_fC (by decide)]; exact s2))
        · have l11 : (qs m).length < 12 := by omega
          have pp := cs.1.1 (qs m).length l11
          have pp2 := pp.2
          obtain ⟨cu, ec, _, c9⟩ := in_nI (lo := 0) (hi := 9) b2.1 b2.2 (by omega) (by omega)
          obtain ⟨am, ea, am1, am2⟩ := in_nI (lo := 1) (hi := 2000) b3'.1 b3'.2 (by omega) (by omega)
          have ck := c51_ok (d := d + 28) g a6 hm nm4 b k2 k1 cs.2.1 l11 pp.1 (gK_sk g (by omega) pp2)
          have rk := r97_ok (d := d + 28) (h := wI (wI (wI (wI (wI h (23 + 18 * m + P (qs m).length) 0 c) (23 + 18 * m + P (qs m).length) 1 a) (23 + 18 * m + P (qs m).length) 2 a) (23 + 18 * m + P (qs m).length) 3 e0) (17 + 18 * m) 8 (nI ((qs m).length + 1))) (G.wI (G.wI (G.wI (G.wI (G.wI g))))) (n := cfg h 0 2) (p := m) (c := c) (a := a) (e := e0) (s := (qs m).length) (by rw [mI_wI, if_neg (by omega), mI_wI, if_neg (by omega), mI_wI, if_neg (by omega), mI_wI, if_neg (by omega), mI_wI, if_neg (by omega)]; exact b13) hm nm4 (by rw [mI_wI, if_neg (by omega), mI_wI, if_neg (by omega), mI_wI, if_neg (by omega), mI_wI, if_neg (by omega), mI_wI, if_neg (by omega)]; exact hbm) (by rw [mI_wI, if_neg (by omega), mI_wI, if_neg (by omega), mI_wI, if_neg (by omega), mI_wI, if_neg (by omega), mI_wI, if_neg (by omega)]; rw [← e19]; exact k2) (by rw [mI_wI, if_neg (by omega), mI_wI, if_neg (by omega), mI_wI, if_neg (by omega), mI_wI, if_neg (by omega), mI_wI, if_neg (by omega), mI_wI, if_neg (by omega), mI_wI, if_neg (by omega), mI_wI, if_neg (by omega), mI_wI, if_neg (by omega), mI_wI, if_neg (by omega)]; rw [← e19, ← e23]; exact fun z => k1 ⟨z.1, fun y => z.2 y.symm⟩) (by rw [mI_wI, if_neg (by omega), mI_wI, if_neg (by omega), mI_wI, if_neg (by omega), mI_wI, if_neg (by omega), mI_wI, if_neg (by omega)]; exact s2) l11
          rw [show 4 * (12 * m + (qs m).length) = 48 * m + 4 * (qs m).length by omega] at rk
          refine ⟨nI ((qs m).length + 1), _, _, ck, rk, G.wI (G.wI (G.wI (G.wI (G.wI g)))), ?_⟩
          subst ec ea
          exact sack_rel (P := P) (e0 := e0) (cu := cu) (am := am) q0 q7 (by omega) hm cs l11 (by rw [← e19]; exact k2) c9 am1 am2 (G.wI (G.wI (G.wI (G.wI (G.wI (G.wI (G.wI (G.wI (G.wI (G.wI g)))))))))) (fun x j hn => by rw [mI_wI, if_neg (by omega), mI_wI, if_neg (by omega), mI_wI, if_neg (by omega), mI_wI, if_neg (by omega), mI_wI, if_neg (by omega), mI_wI, if_neg (by omega), mI_wI, if_neg (by omega), mI_wI, if_neg (by omega), mI_wI, if_neg (by omega), mI_wI, if_neg (by omega)]) (fun _ _ => by simp only [mJ_wI]) (fun _ _ => by simp only [mR_wI]) (by rw [mI_wI, if_neg (by omega), mI_wI, if_neg (by omega), mI_wI, if_neg (by omega), mI_wI, if_neg (by omega), mI_wI, if_neg (by omega), mI_wI, if_neg (by omega), mI_wI, if_neg (by omega), mI_wI, if_neg (by omega), mI_wI, if_neg (by omega), mI_wI, if_pos ⟨rfl, rfl⟩]) (by rw [mI_wI, if_neg (by omega), mI_wI, if_neg (by omega), mI_wI, if_neg (by omega), mI_wI, if_neg (by omega), mI_wI, if_neg (by omega), mI_wI, if_neg (by omega), mI_wI, if_neg (by omega), mI_wI, if_neg (by omega), mI_wI, if_pos ⟨rfl, rfl⟩]) (by rw [mI_wI, if_neg (by omega), mI_wI, if_neg (by omega), mI_wI, if_neg (by omega), mI_wI, if_neg (by omega), mI_wI, if_neg (by omega), mI_wI, if_neg (by omega), mI_wI, if_neg (by omega), mI_wI, if_pos ⟨rfl, rfl⟩]) (by rw [mI_wI, if_neg (by omega), mI_wI, if_neg (by omega), mI_wI, if_neg (by omega), mI_wI, if_neg (by omega), mI_wI, if_neg (by omega), mI_wI, if_neg (by omega), mI_wI, if_pos ⟨rfl, rfl⟩]) (by rw [mI_wI, if_neg (by omega), mI_wI, if_neg (by omega), mI_wI, if_neg (by omega), mI_wI, if_neg (by omega), mI_wI, if_neg (by omega), mI_wI, if_pos ⟨rfl, rfl⟩]) (by rw [mI_wI, if_neg (by omega), mI_wI, if_neg (by omega), mI_wI, if_neg (by omega), mI_wI, if_neg (by omega), mI_wI, if_pos ⟨rfl, rfl⟩]) (by rw [mI_wI, if_neg (by omega), mI_wI, if_neg (by omega), mI_wI, if_neg (by omega), mI_wI, if_pos ⟨rfl, rfl⟩]) (by rw [mI_wI, if_neg (by omega), mI_wI, if_neg (by omega), mI_wI, if_pos ⟨rfl, rfl⟩]) (by rw [mI_wI, if_neg (by omega), mI_wI, if_pos ⟨rfl, rfl⟩]) (by rw [mI_wI, if_pos ⟨rfl, rfl⟩])
  · refine OK_bad hk q0 (j := 1) (by omega) (by omega) lo1 (c51_bad (d := d + 28) g b) (r97_bad (d := d + 28) (h := fC h 1) g (fun z => b ?_))
    rw [mI_fC (by decide), mI_fC (by decide), b13, ← a6, q4.2, ← q4.1] at z
    exact z
