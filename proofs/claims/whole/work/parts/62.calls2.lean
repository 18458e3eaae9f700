-- each call on both sides: asking, telling, sacks (gen_calls2.py)
theorem sumI_cg {f g : Nat → Int32} : ∀ (n : Nat), (∀ i, i < n → f i = g i) → sumI f n = sumI g n
  | 0, _ => rfl
  | n + 1, h => by
    show sumI f n + f n = sumI g n + g n
    rw [sumI_cg n (fun i hi => h i (by omega)), h n (Nat.lt_succ_self n)]
theorem sumI_N {f : Nat → Int32} {g : Nat → Nat} : ∀ (n : Nat), (∀ i, i < n → f i = nI (g i)) → sumI f n = nI (sumN g n)
  | 0, _ => rfl
  | n + 1, h => by
    show sumI f n + f n = nI (sumN g n + g n)
    rw [sumI_N n (fun i hi => h i (by omega)), h n (Nat.lt_succ_self n), nI_add]
theorem sumJ_N {f : Nat → Int32} {g : Nat → Nat} : ∀ (n : Nat), (∀ i, i < n → f i = nI (g i) ∧ g i < 2 ^ 31) → sumJ f n = lN (sumN g n)
  | 0, _ => rfl
  | n + 1, h => by
    show sumJ f n + (f n).toInt64 = lN (sumN g n + g n)
    rw [sumJ_N n (fun i hi => h i (by omega)), (h n (Nat.lt_succ_self n)).1, nI_l (h n (Nat.lt_succ_self n)).2, lN_add]
theorem sumN_le {g : Nat → Nat} {A : Nat} : ∀ (n : Nat), (∀ i, i < n → g i ≤ A) → sumN g n ≤ A * n
  | 0, _ => Nat.zero_le _
  | n + 1, h => by
    have := sumN_le n (fun i hi => h i (by omega))
    have := h n (Nat.lt_succ_self n)
    show sumN g n + g n ≤ A * (n + 1)
    rw [Nat.mul_succ]
    omega
theorem Qcr {I : Nat → Nat → Int32} {r : Nat → Int32} {m : Nat} {P : Nat → Nat} : ∀ {q : List Sk} {a b : Nat}, Qc I m P a q → Qr r b q → ∀ i, i < q.length → ∀ j, j < 4 → I (23 + 18 * m + P (a + i)) j = r (b + 4 * i + j)
  | [], _, _, _, _, i, hi, _, _ => absurd hi (Nat.not_lt_zero i)
  | s :: q, a, b, ⟨⟨c0, c1, c2, c3⟩, cq⟩, ⟨⟨d0, d1, d2, d3⟩, dq⟩, 0, _, j, hj => by
    rcases (show j = 0 ∨ j = 1 ∨ j = 2 ∨ j = 3 by omega) with e | e | e | e <;> subst e
    · exact c0.trans d0.symm
    · exact c1.trans d1.symm
    · exact c2.trans d2.symm
    · exact c3.trans d3.symm
  | s :: q, a, b, ⟨_, cq⟩, ⟨_, dq⟩, i + 1, hi, j, hj => by
    have := Qcr cq dq i (by have : (s :: q).length = q.length + 1 := rfl; omega) j hj
    rw [show a + (i + 1) = a + 1 + i by omega, show b + 4 * (i + 1) + j = b + 4 + 4 * i + j by omega]
    exact this
theorem Qc_app {I : Nat → Nat → Int32} {m : Nat} {P : Nat → Nat} {x : Sk} : ∀ {q : List Sk} {i : Nat}, Qc I m P i q → (I (23 + 18 * m + P (i + q.length)) 0 = nI x.1 ∧ I (23 + 18 * m + P (i + q.length)) 1 = nI x.2.1 ∧ I (23 + 18 * m + P (i + q.length)) 2 = nI x.2.2.1 ∧ I (23 + 18 * m + P (i + q.length)) 3 = x.2.2.2) → Qc I m P i (q ++ [x])
  | [], i, _, hx => ⟨hx, trivial⟩
  | s :: q, i, ⟨h1, h2⟩, hx => by
    refine ⟨h1, Qc_app h2 ?_⟩
    have e : i + (s :: q).length = i + 1 + q.length := by
      have : (s :: q).length = q.length + 1 := rfl
      omega
    rw [e] at hx
    exact hx
theorem Qr_app {r : Nat → Int32} {x : Sk} : ∀ {q : List Sk} {b : Nat}, Qr r b q → (r (b + 4 * q.length) = nI x.1 ∧ r (b + 4 * q.length + 1) = nI x.2.1 ∧ r (b + 4 * q.length + 2) = nI x.2.2.1 ∧ r (b + 4 * q.length + 3) = x.2.2.2) → Qr r b (q ++ [x])
  | [], b, _, hx => ⟨hx, trivial⟩
  | s :: q, b, ⟨h1, h2⟩, hx => by
    refine ⟨h1, Qr_app h2 ?_⟩
    have e : b + 4 * (s :: q).length = b + 4 + 4 * q.length := by
      have : (s :: q).length = q.length + 1 := rfl
      omega
    rw [e] at hx
    exact hx
theorem k46 {d : Nat} {h : mM} {k : Nat} (hk : k < 1000) (q : RLN h k) {P w : Int32} : OKc d 46 92 [some (.int P), some (.int w), none] [some (.int P), some (.int w), none, none] h k := by
  have q0 := q
  obtain ⟨g, q2, ⟨rd, q3⟩, hr, h10, q4, q5, q6, ⟨qs, q7⟩, q8, q9, q10, q11, q12⟩ := q
  obtain ⟨⟨a4, a5, a6⟩, ⟨b3, b9, b13⟩, n4, nc4, nm4⟩ := q0.cnt
  by_cases b : 0 ≤ P ∧ P ≤ mI h 4 4 - 1
  · obtain ⟨p, e1, hp⟩ := in_cnt a4 (by omega) b.1 b.2
    subst e1
    by_cases b2 : 0 ≤ w ∧ w ≤ 5
    · obtain ⟨j, e2, _, hj⟩ := in_nI (lo := 0) (hi := 5) b2.1 b2.2 (by omega) (by omega)
      subst e2
      have pc := q2.p hp
      have kp := q2.1.2.1 p hp
      have ha : 0 < mI h (9 + p) 0 := by rw [pc.1.1]; exact nI_0lt kp.1.1 (by omega)
      have ha2 : 0 < mI h 111 p := by rw [pc.2.1]; exact nI_0lt kp.1.1 (by omega)
      refine OK_ask q0 ?_ (c46_ok (d := d + 28) g a4 hp n4 a6 nm4 ha hj) (r92_ok (d := d + 28) g b3 hp n4 b13 nm4 ha2 hj)
      obtain ⟨u, w1, w2, _, _⟩ := q5 p (by omega)
      have es : sumI (fun m => bI (mI h (17 + 18 * m) 3 = nI p)) (cfg h 0 2) = sumI (fun m => bI (mI h 120 m = nI p)) (cfg h 0 2) := sumI_cg _ (fun m hm => by
        show bI (mI h (17 + 18 * m) 3 = nI p) = bI (mI h 120 m = nI p)
        have z := q2.m hm
        simp only [z.1.2.1, z.2.2.1])
      congr 1
      unfold aboutC aboutM
      rw [es, w1, w2, pc.1.1, pc.1.2.1, pc.1.2.2.2, pc.2.1, pc.2.2.1, pc.2.2.2.2]
    · refine OK_bad hk q0 (j := 1) (by omega) (by omega) lo1 (c46_bad2 (d := d + 28) g a4 hp n4 b2) (r92_bad (d := d + 28) (h := fC h 1) g (fun z => b2 z.2))
  · refine OK_bad hk q0 (j := 1) (by omega) (by omega) lo1 (c46_bad1 (d := d + 28) g b) (r92_bad (d := d + 28) (h := fC h 1) g (fun z => b ?_))
    have := z.1
    rw [mI_fC (by decide), b3, ← a4] at this
    exact this
theorem k48 {d : Nat} {h : mM} {k : Nat} (hk : k < 1000) (q : RLN h k) {P v : Int32} : OKc d 48 94 [some (.int P), some (.int v)] [some (.int P), some (.int v)] h k := by
  have q0 := q
  obtain ⟨g, q2, ⟨rd, q3⟩, hr, h10, q4, q5, q6, ⟨qs, q7⟩, q8, q9, q10, q11, q12⟩ := q
  obtain ⟨⟨a4, a5, a6⟩, ⟨b3, b9, b13⟩, n4, nc4, nm4⟩ := q0.cnt
  by_cases b : (0 ≤ P ∧ P ≤ mI h 4 6 - 1) ∧ 0 ≤ v ∧ v ≤ 2
  · obtain ⟨p, e1, hp⟩ := in_cnt a6 (by omega) b.1.1 b.1.2
    subst e1
    have mc := q2.m hp
    have ck := c48_ok (d := d + 28) g a6 hp nm4 b.2
    by_cases b2 : v = 0 ∨ v = mI h (17 + 18 * p) 2
    · have rk := r94_ok (d := d + 28) g b13 hp nm4 b.2
      rw [if_pos b2] at ck
      rw [if_pos (b2.elim Or.inl (fun z => Or.inr (by rw [z, mc.1.1, mc.2.1])))] at rk
      refine OK_ask q0 ?_ ck rk
      rw [mc.1.2.2.1, mc.2.2.2.1]
    · have rk := r94_ok (d := d + 28) (h := fC h 5) g (n := cfg h 0 2) (p := p) (by rw [mI_fC (by decide)]; exact b13) hp nm4 b.2
      rw [if_neg b2] at ck
      rw [if_neg (fun z => b2 (z.elim Or.inl (fun z => Or.inr (by rw [mI_fC (by decide)] at z; rw [← z, mc.1.1, mc.2.1]))))] at rk
      exact OK_bad hk q0 (j := 5) (by omega) (by omega) lo5 ck rk
  · refine OK_bad hk q0 (j := 1) (by omega) (by omega) lo1 (c48_bad (d := d + 28) g b) (r94_bad (d := d + 28) (h := fC h 1) g ?_)
    rw [mI_fC (by decide), b13, ← a6]
    exact b
theorem k52 {d : Nat} {h : mM} {k : Nat} (hk : k < 1000) (q : RLN h k) {M i w : Int32} : OKc d 52 98 [some (.int M), some (.int i), some (.int w), none, none] [some (.int M), some (.int i), some (.int w)] h k := by
  have q0 := q
  obtain ⟨g, q2, ⟨rd, q3⟩, hr, h10, q4, q5, q6, ⟨qs, q7⟩, q8, q9, q10, q11, q12⟩ := q
  obtain ⟨⟨a4, a5, a6⟩, ⟨b3, b9, b13⟩, n4, nc4, nm4⟩ := q0.cnt
  by_cases b : (0 ≤ M ∧ M ≤ mI h 4 6 - 1) ∧ 0 ≤ w ∧ w ≤ 3
  · obtain ⟨m, e1, hm⟩ := in_cnt a6 (by omega) b.1.1 b.1.2
    subst e1
    obtain ⟨j, e2, _, hj⟩ := in_nI (lo := 0) (hi := 3) b.2.1 b.2.2 (by omega) (by omega)
    subst e2
    obtain ⟨⟨P, cs⟩, s2, s3⟩ := q7.2.1 m (by omega)
    have l12 := (q7.1 m (by omega)).2.1
    by_cases b2 : 0 ≤ i ∧ i ≤ mI h (17 + 18 * m) 8 - 1
    · obtain ⟨x, e3, hx⟩ := in_cnt cs.2.1 (by omega) b2.1 b2.2
      subst e3
      have pp := cs.1.1 x (by omega)
      refine OK_ask q0 ?_ (c52_ok (d := d + 28) g a6 hm nm4 cs.2.1 l12 hx hj pp.1 (gK_sk g (by omega) pp.2)) (r98_ok (d := d + 28) g b13 hm nm4 s2 l12 hx hj)
      congr 1
      have := Qcr cs.2.2 s3 x hx j (by omega)
      rw [Nat.zero_add] at this
      rw [this]
      congr 1
      omega
    · refine OK_bad hk q0 (j := 2) (by omega) (by omega) lo2 (c52_none (d := d + 28) g a6 hm nm4 b.2 b2) (r98_none (d := d + 28) (h := fC h 2) g (n := cfg h 0 2) (by rw [mI_fC (by decide)]; exact b13) hm nm4 b.2 ?_)
      rw [mI_fC (by decide), s2, ← cs.2.1]
      exact b2
  · refine OK_bad hk q0 (j := 1) (by omega) (by omega) lo1 (c52_bad (d := d + 28) g b) (r98_bad (d := d + 28) (h := fC h 1) g ?_)
    rw [mI_fC (by decide), b13, ← a6]
    exact b
theorem k53 {d : Nat} {h : mM} {k : Nat} (hk : k < 1000) (q : RLN h k) {M w : Int32} : OKc d 53 99 [some (.int M), some (.int w), none] [some (.int M), some (.int w), none] h k := by
  have q0 := q
  obtain ⟨g, q2, ⟨rd, q3⟩, hr, h10, q4, q5, q6, ⟨qs, q7⟩, q8, q9, q10, q11, q12⟩ := q
  obtain ⟨⟨a4, a5, a6⟩, ⟨b3, b9, b13⟩, n4, nc4, nm4⟩ := q0.cnt
  by_cases b : 0 ≤ M ∧ M ≤ mI h 4 6 - 1
  · obtain ⟨m, e1, hm⟩ := in_cnt a6 (by omega) b.1 b.2
    subst e1
    have mc := q2.m hm
    have km := q2.1.2.2.2.1 m hm
    by_cases b2 : 0 ≤ w ∧ w ≤ 9
    · obtain ⟨j, e2, _, hj⟩ := in_nI (lo := 0) (hi := 9) b2.1 b2.2 (by omega) (by omega)
      subst e2
      by_cases j0 : j = 0
      · subst j0
        have pc := q2.p km.2.1
        have kp := q2.1.2.1 _ km.2.1
        have ha : 0 < mI h (9 + cfg h 9 m) 0 := by rw [pc.1.1]; exact nI_0lt kp.1.1 (by omega)
        have ha2 : 0 < mI h 111 (cfg h 9 m) := by rw [pc.2.1]; exact nI_0lt kp.1.1 (by omega)
        refine OK_ask q0 ?_ (c53_0 (d := d + 28) g a6 hm nm4 mc.1.2.1 (by omega) ha q3.1 q3.2.2.1 q3.2.2.2.1 (by omega) q4.1) (r99_0 (d := d + 28) g b13 hm nm4 mc.2.2.1 (by omega) ha2 q3.2.1 q3.2.2.1 q3.2.2.2.1 (by omega) q4.2)
        obtain ⟨u, w1, w2, _, _⟩ := q5 (cfg h 9 m) (by omega)
        have m1 := Nat.mod_lt hr q3.2.2.1
        have t1 := (q3.2.2.2.2 (hr % rd) (by have := q3.2.2.2.1; omega)).1
        show (if 0 = 0 then mI h 104 (cfg h 9 m) / mI h (9 + cfg h 9 m) 0 - mI h 3 (hr % rd) else _).toInt64 = _
        rw [if_pos rfl, w1, w2, pc.1.1, pc.2.1, t1]
      · have ck := c53_ok (d := d + 28) g (p := 0) (t := 0) a6 hm nm4 (show 1 ≤ j ∧ j ≤ 9 by omega)
        obtain ⟨⟨P, cs⟩, s2, s3⟩ := q7.2.1 m (by omega)
        by_cases j7 : j = 7
        · subst j7
          refine OK_ask q0 ?_ ck (r99_7 (d := d + 28) g b13 hm nm4)
          show (mI h (17 + 18 * m) 8).toInt64 = _
          rw [cs.2.1, s2]
        · by_cases j8 : j = 8
          · subst j8
            refine OK_ask q0 ?_ ck (r99_8 (d := d + 28) g b13 hm nm4)
            show (mI h (17 + 18 * m) 7).toInt64 = _
            rw [mc.1.2.2.2.2.2, mc.2.2.2.2.2.2]
          · by_cases j9 : j = 9
            · subst j9
              refine OK_ask q0 ?_ ck (r99_9 (d := d + 28) g b13 hm nm4)
              show (mI h (17 + 18 * m) 4).toInt64 = _
              rw [mc.1.2.2.1, mc.2.2.2.1]
            · refine OK_ask q0 ?_ ck (r99_a (d := d + 28) g b13 hm nm4 (show 1 ≤ j ∧ j ≤ 6 by omega))
              unfold toldC
              rw [if_neg j0, if_neg j7, if_neg j8, if_neg j9]
              obtain ⟨a, a1, a2, a3⟩ := q8 m (by omega) (j - 1) (by omega)
              rw [show 8 + j = 9 + (j - 1) by omega, show 6 * m + j - 1 = 6 * m + (j - 1) by omega, a2, a3, acc_l (by omega)]
    · refine OK_bad hk q0 (j := 1) (by omega) (by omega) lo1 (c53_bad2 (d := d + 28) g a6 hm nm4 b2) (r99_bad (d := d + 28) (h := fC h 1) g (fun z => b2 z.2))
  · refine OK_bad hk q0 (j := 1) (by omega) (by omega) lo1 (c53_bad1 (d := d + 28) g b) (r99_bad (d := d + 28) (h := fC h 1) g (fun z => b ?_))
    have := z.1
    rw [mI_fC (by decide), b13, ← a6] at this
    exact this
theorem k54 {d : Nat} {h : mM} {k : Nat} (hk : k < 1000) (q : RLN h k) {c : Int32} : OKc d 54 100 [some (.int c)] [some (.int c)] h k := by
  have q0 := q
  obtain ⟨g, q2, ⟨rd, q3⟩, hr, h10, q4, q5, q6, ⟨qs, q7⟩, q8, q9, q10, q11, q12⟩ := q
  by_cases b : 0 ≤ c ∧ c ≤ 9
  · obtain ⟨x, e1, _, x2⟩ := in_nI (lo := 0) (hi := 9) b.1 b.2 (by omega) (by omega)
    subst e1
    obtain ⟨a, a1, a2, a3⟩ := q9 x (by omega)
    refine OK_ask q0 ?_ (c54_ok (d := d + 28) g x2) (r100_ok (d := d + 28) g x2)
    rw [a2, a3, acc_l (by omega)]
  · exact OK_bad hk q0 (j := 1) (by omega) (by omega) lo1 (c54_bad (d := d + 28) g b) (r100_bad (d := d + 28) (h := fC h 1) g b)
theorem k59 {d : Nat} {h : mM} {k : Nat} (hk : k < 1000) (q : RLN h k) {w : Int32} : OKc d 59 116 [some (.int w)] [some (.int w), none, none, none] h k := by
  have q0 := q
  obtain ⟨g, q2, ⟨rd, q3⟩, hr, h10, q4, q5, q6, ⟨qs, q7⟩, q8, q9, q10, q11, q12⟩ := q
  obtain ⟨⟨a4, a5, a6⟩, ⟨b3, b9, b13⟩, n4, nc4, nm4⟩ := q0.cnt
  by_cases b : 0 ≤ w ∧ w ≤ 5
  · obtain ⟨j, e1, _, x2⟩ := in_nI (lo := 0) (hi := 5) b.1 b.2 (by omega) (by omega)
    subst e1
    by_cases j0 : j = 0
    · subst j0
      refine OK_ask q0 ?_ (c59_0 (d := d + 29) g a4 n4) (r116_0 (d := d + 29) g b3 n4)
      have wn : ∀ p, p < cfg h 0 0 → mI h 104 p = nI (cN (mI h 104 p)) ∧ mI h 115 p = nI (cN (mI h 104 p)) ∧ cN (mI h 104 p) ≤ 25000 := fun p hp => by
        obtain ⟨u, w1, w2, w3, _⟩ := q5 p (by omega)
        have kp := q2.1.2.1 p hp
        have ab : cfg h 1 p * cfg h 2 p ≤ 100 * 250 := Nat.mul_le_mul kp.1.2 kp.2.1.2
        have := w3 hp
        rw [w1, cN_nI (by omega)]
        exact ⟨rfl, w2, by omega⟩
      have sl := sumN_le (g := fun p => cN (mI h 104 p)) (A := 25000) (cfg h 0 0) (fun i hi => (wn i hi).2.2)
      rw [sumI_N (g := fun p => cN (mI h 104 p)) _ (fun i hi => (wn i hi).1), sumJ_N (g := fun p => cN (mI h 104 p)) _ (fun i hi => ⟨(wn i hi).2.1, by have := (wn i hi).2.2; omega⟩), nI_l (by omega)]
    · refine OK_ask q0 ?_ (c59_ok (d := d + 29) g (show 1 ≤ j ∧ j ≤ 5 by omega)) (r116_ok (d := d + 29) g b3 n4 (show 1 ≤ j ∧ j ≤ 5 by omega))
      by_cases j5 : j = 5
      · subst j5
        exact q10.2.1.symm
      · obtain ⟨a, a1, a2, a3⟩ := q10.1 (j - 1) (by omega)
        rw [show 10 + j = 11 + (j - 1) by omega, a2, a3, acc_l (by omega)]
  · exact OK_bad hk q0 (j := 1) (by omega) (by omega) lo1 (c59_bad (d := d + 29) g b) (r116_bad (d := d + 29) (h := fC h 1) g b)
theorem k60 {d : Nat} {h : mM} {k : Nat} (hk : k < 1000) (q : RLN h k) {v : Int32} : OKc d 60 117 [some (.int v)] [some (.int v)] h k := by
  have q0 := q
  obtain ⟨g, q2, ⟨rd, q3⟩, hr, h10, q4, q5, q6, ⟨qs, q7⟩, q8, q9, q10, q11, q12⟩ := q
  obtain ⟨t, t1, t2, t3, t4⟩ := q11
  by_cases b : t < 24
  · have q11 := t4
    have f : ∀ a j, ¬ ((a = 109 ∧ j = 30) ∨ (a = 134 ∧ j = t) ∨ (a = 1 ∧ j = 10) ∨ (a = 106 ∧ j = t)) → mI (wI (wI (wI (wI h 106 t v) 1 10 (nI (t + 1))) 134 t v) 109 30 (nI (t + 1))) a j = mI h a j := fun a j hn => by rw [mI_wI, if_neg (by omega), mI_wI, if_neg (by omega), mI_wI, if_neg (by omega), mI_wI, if_neg (by omega)]
    have e : cfg (wI (wI (wI (wI h 106 t v) 1 10 (nI (t + 1))) 134 t v) 109 30 (nI (t + 1))) = cfg h := cfg_F2 (fun a j z => f a j (by unfold F2 isM isT at z; omega))
    refine ⟨nI (t + 1), wI (wI h 106 t v) 1 10 (nI (t + 1)), wI (wI (wI (wI h 106 t v) 1 10 (nI (t + 1))) 134 t v) 109 30 (nI (t + 1)), c60_ok (d := d + 29) g t2 b, r117_ok (d := d + 29) (h := wI (wI h 106 t v) 1 10 (nI (t + 1))) g (by rw [mI_wI, if_neg (by decide), mI_wI, if_neg (by omega)]; exact t3) b, g, ?_⟩
    refine ⟨g, B2_congr (fun a j z => f a j (by unfold F2 isM isT at z; omega)) q2, ⟨rd, B3_congr (fun a j z => f a j (by unfold F3 at z; omega)) q3⟩, hr, h10, B4_congr (fun a j z => f a j (by unfold F4 at z; omega)) q4, B5_congr e (fun a j z => f a j (by unfold F5 at z; omega)) q5, B6_congr (fun a j z => f a j (by unfold F2 isM isT at z; omega)) q6, ⟨qs, B7_congr e (fun j => f 119 j (by omega)) (fun a j z => f a j (by unfold F7 isM isK at z; omega)) (fun _ _ _ => rfl) q7⟩, B8_congr (fun a j z => f a j (by unfold F8 isM at z; omega)) (fun j => rfl) q8, B9_congr (fun a j z => f a j (by unfold F9 at z; omega)) (fun j => rfl) q9, B10_congr (fun a j z => f a j (by unfold F10 at z; omega)) (fun j => rfl) q10, ⟨t + 1, by omega, ?_, ?_, fun j hj => ?_⟩, B12_congr (fun a j z => f a j (by unfold F12 at z; omega)) (fun j => rfl) q12⟩
    · rw [mI_wI, if_neg (by decide), mI_wI, if_neg (by omega), mI_wI, if_pos ⟨rfl, rfl⟩]
    · rw [mI_wI, if_pos ⟨rfl, rfl⟩]
    · by_cases z : j = t
      · subst z
        rw [mI_wI, if_neg (by omega), mI_wI, if_neg (by omega), mI_wI, if_neg (by omega), mI_wI, if_pos ⟨rfl, rfl⟩, mI_wI, if_neg (by omega), mI_wI, if_pos ⟨rfl, rfl⟩]
      · rw [f 106 j (by omega), f 134 j (by omega)]; exact t4 j hj
  · have e24 : t = 24 := by omega
    subst e24
    exact OK_bad hk q0 (j := 4) (by omega) (by omega) lo4 (c60_full (d := d + 29) g t2) (r117_full (d := d + 29) (h := fC h 4) g (by rw [mI_fC (by decide)]; exact t3))
theorem k62 {d : Nat} {h : mM} {k : Nat} (hk : k < 1000) (q : RLN h k) {w : Int32} : OKc d 62 119 [some (.int w)] [some (.int w), none, none] h k := by
  have q0 := q
  obtain ⟨g, q2, ⟨rd, q3⟩, hr, h10, q4, q5, q6, ⟨qs, q7⟩, q8, q9, q10, q11, q12⟩ := q
  obtain ⟨⟨a4, a5, a6⟩, ⟨b3, b9, b13⟩, n4, nc4, nm4⟩ := q0.cnt
  by_cases b : 0 ≤ w ∧ w ≤ 6
  · obtain ⟨j, e1, _, x2⟩ := in_nI (lo := 0) (hi := 6) b.1 b.2 (by omega) (by omega)
    subst e1
    refine OK_ask q0 ?_ (c62_ok (d := d + 29) g a6 nm4 x2) (r119_ok (d := d + 29) g b13 nm4 x2)
    congr 1
    have es : sumI (fun m => mI h (17 + 18 * m) 8) (cfg h 0 2) = sumI (mI h 129) (cfg h 0 2) := sumI_cg _ (fun m hm => by
      obtain ⟨⟨P, cs⟩, s2, s3⟩ := q7.2.1 m (by omega)
      show mI h (17 + 18 * m) 8 = mI h 129 m
      rw [cs.2.1, s2])
    obtain ⟨t, t1, t2, t3, t4⟩ := q11
    unfold countC countM
    rw [es, a4, a5, a6, b3, b9, b13, q4.1, q4.2, t2, t3, q3.1, q3.2.1]
  · refine OK_bad hk q0 (j := 1) (by omega) (by omega) lo1 (c62_bad (d := d + 29) g b) (r119_bad (d := d + 29) (h := fC h 1) g (n := cfg h 0 2) (by rw [mI_fC (by decide)]; exact b13) nm4 b)
theorem k63 {d : Nat} {h : mM} {k : Nat} (hk : k < 1000) (q : RLN h k) {j : Int32} : OKc d 63 120 [some (.int j)] [some (.int j)] h k := by
  have q0 := q
  obtain ⟨g, q2, ⟨rd, q3⟩, hr, h10, q4, q5, q6, ⟨qs, q7⟩, q8, q9, q10, q11, q12⟩ := q
  by_cases b : 1 ≤ j ∧ j ≤ 5
  · obtain ⟨x, e1, x1, x2⟩ := in_nI (lo := 1) (hi := 5) b.1 b.2 (by omega) (by omega)
    subst e1
    obtain ⟨a, a1, a2, a3⟩ := q12 x x1 x2
    refine OK_ask q0 ?_ (c63_ok (d := d + 29) g x1 x2) (r120_ok (d := d + 29) g x1 x2)
    rw [a2, a3, acc_l (by omega)]
  · exact OK_bad hk q0 (j := 1) (by omega) (by omega) lo1 (c63_bad (d := d + 29) g b) (r120_bad (d := d + 29) (h := fC h 1) g b)
