-- each call on both sides: those that build nothing (gen_calls.py)
theorem lo1 : (-1000000001 : Int32).toInt64 = -1000000001 := by decide +kernel
theorem lo2 : (-1000000002 : Int32).toInt64 = -1000000002 := by decide +kernel
theorem lo3 : (-1000000003 : Int32).toInt64 = -1000000003 := by decide +kernel
theorem lo4 : (-1000000004 : Int32).toInt64 = -1000000004 := by decide +kernel
theorem lo5 : (-1000000005 : Int32).toInt64 = -1000000005 := by decide +kernel
theorem OK_bad {d mc mr : Nat} {ac ar : List (Option Value)} {h : mM} {k : Nat} (hk : k < 1000) (q : RLN h k) {j : Nat} (h1 : 1 ≤ j) (h5 : j ≤ 5) {x : Int32} {y : Int64} (hx : x.toInt64 = y) (ec : ev (d + 30) mc 0 (some (.ref 1) :: ac) [] h = some (some (.int x), fC h j)) (er : ev (d + 30) mr 0 (some (.ref 109) :: ar) [] (fC h j) = some (some (.long y), fM (fC h j) j)) : OKc d mc mr ac ar h k := ⟨x, _, _, ec, by rw [er, hx], q.1, RL_find h1 h5 hk q⟩
theorem RL_same {h : mM} {k : Nat} (q : RLN h k) : RLN h (k + 1) := RL_frame q.1 (fun _ _ _ => rfl) (fun _ _ _ _ => rfl) (fun _ _ _ => rfl) q
theorem OK_ask {d mc mr : Nat} {ac ar : List (Option Value)} {h : mM} {k : Nat} (q : RLN h k) {x : Int32} {y : Int64} (hx : x.toInt64 = y) (ec : ev (d + 30) mc 0 (some (.ref 1) :: ac) [] h = some (some (.int x), h)) (er : ev (d + 30) mr 0 (some (.ref 109) :: ar) [] h = some (some (.long y), h)) : OKc d mc mr ac ar h k := ⟨x, _, _, ec, by rw [er, hx], q.1, RL_same q⟩
theorem in_nI {x : Int32} {lo hi : Nat} (h1 : nI lo ≤ x) (h2 : x ≤ nI hi) (hl : lo < 2 ^ 31) (hh : hi < 2 ^ 31) : ∃ n, x = nI n ∧ lo ≤ n ∧ n ≤ hi := by
  have p : ¬ x < 0 := fun z => by
    have := Int32.lt_of_le_of_lt h1 z
    exact absurd this (nI_pos hl)
  obtain ⟨n, hn, e⟩ := nI_of p
  subst e
  exact ⟨n, rfl, (nI_leI hl hn).mp h1, (nI_leI hn hh).mp h2⟩
theorem cN_nI {n : Nat} (h : n < 2 ^ 31) : cN (nI n) = n := nI_clamp h
theorem in_cnt {x y : Int32} {n : Nat} (e : x = nI n) (hn : n ≤ 24) (h1 : 0 ≤ y) (h2 : y ≤ x - 1) : ∃ p, y = nI p ∧ p < n := by
  subst e
  by_cases z : n = 0
  · subst z
    exfalso
    have h3 := Int32.le_trans h1 h2
    exact absurd h3 (by decide)
  · have h3 : nI n - 1 = nI (n - 1) := by
      have := nI_pred (n - 1)
      rw [show n - 1 + 1 = n by omega] at this
      exact this
    rw [h3] at h2
    obtain ⟨p, e, _, h4⟩ := in_nI (lo := 0) h1 h2 (by omega) (by omega)
    exact ⟨p, e, by omega⟩
theorem RLN.cnt {h : mM} {k : Nat} (q : RLN h k) : (mI h 4 4 = nI (cfg h 0 0) ∧ mI h 4 5 = nI (cfg h 0 1) ∧ mI h 4 6 = nI (cfg h 0 2)) ∧ (mI h 109 3 = nI (cfg h 0 0) ∧ mI h 109 9 = nI (cfg h 0 1) ∧ mI h 109 13 = nI (cfg h 0 2)) ∧ cfg h 0 0 ≤ 4 ∧ cfg h 0 1 ≤ 4 ∧ cfg h 0 2 ≤ 4 := ⟨q.2.1.c.1, q.2.1.c.2, q.2.1.1.1⟩
theorem toI64_add {x y : Int32} (h1 : -2147483648 ≤ x.toInt + y.toInt) (h2 : x.toInt + y.toInt < 2147483648) : (x + y).toInt64 = x.toInt64 + y.toInt64 := by
  apply Int64.toInt_inj.mp
  rw [Int32.toInt_toInt64, Int64.toInt_add, Int32.toInt_toInt64, Int32.toInt_toInt64, Int32.toInt_add]
  rw [Int.bmod_eq_of_le (by omega) (by omega), Int.bmod_eq_of_le (by omega) (by omega)]
theorem acc_l {a : Nat} (h : a ≤ 2000000000) : (nI a).toInt64 = lN a := nI_l (by omega)
theorem k38 {d : Nat} {h : mM} {k : Nat} (hk : k < 1000) (q : RLN h k) {n : Int32} : OKc d 38 83 [some (.int n), none] [some (.int n), none] h k := by
  have q0 := q
  obtain ⟨g, q2, ⟨rd, q3⟩, hr, h10, q4, q5, q6, ⟨qs, q7⟩, q8, q9, q10, q11, q12⟩ := q
  by_cases b : 1 ≤ n ∧ n ≤ 24
  · obtain ⟨x, e1, x1, x2⟩ := in_nI (lo := 1) (hi := 24) b.1 b.2 (by omega) (by omega)
    subst e1
    have f : ∀ a j, ¬ ((a = 109 ∧ j = 1) ∨ (a = 2 ∧ j = 1)) → mI (wI (wI h 2 1 (nI x)) 109 1 (nI x)) a j = mI h a j := fun a j hn => by rw [mI_wI, if_neg (by omega), mI_wI, if_neg (by omega)]
    have e : cfg (wI (wI h 2 1 (nI x)) 109 1 (nI x)) = cfg h := cfg_F2 (fun a j z => f a j (by unfold F2 isM isT at z; omega))
    refine ⟨mI h 2 1, wI h 2 1 (nI x), wI (wI h 2 1 (nI x)) 109 1 (nI x), ?_, ?_, g, ?_⟩
    · have := c38 (d := d + 29) g (n := nI x)
      rw [if_pos b] at this
      exact this
    · have := r83 (d := d + 29) (h := wI h 2 1 (nI x)) g (n := nI x)
      rw [if_pos b, mI_wI, if_neg (by decide), q3.2.1] at this
      rw [q3.1]
      exact this
    · refine ⟨g, B2_congr (fun a j z => f a j (by unfold F2 isM isT at z; omega)) q2, ⟨x, ?_⟩, hr, h10, B4_congr (fun a j z => f a j (by unfold F4 at z; omega)) q4, B5_congr e (fun a j z => f a j (by unfold F5 at z; omega)) q5, B6_congr (fun a j z => f a j (by unfold F2 isM isT at z; omega)) q6, ⟨qs, B7_congr e (fun j => f 119 j (by omega)) (fun a j z => f a j (by unfold F7 isM isK at z; omega)) (fun _ _ _ => rfl) q7⟩, B8_congr (fun a j z => f a j (by unfold F8 isM at z; omega)) (fun j => rfl) q8, B9_congr (fun a j z => f a j (by unfold F9 at z; omega)) (fun j => rfl) q9, B10_congr (fun a j z => f a j (by unfold F10 at z; omega)) (fun j => rfl) q10, B11_congr (fun a j z => f a j (by unfold F11 at z; omega)) q11, B12_congr (fun a j z => f a j (by unfold F12 at z; omega)) (fun j => rfl) q12⟩
      refine ⟨?_, ?_, by omega, by omega, fun j hj => ?_⟩
      · rw [mI_wI, if_neg (by decide), mI_wI, if_pos ⟨rfl, rfl⟩]
      · rw [mI_wI, if_pos ⟨rfl, rfl⟩]
      · rw [f 3 j (by omega), f 110 j (by omega)]; exact q3.2.2.2.2 j hj
  · refine OK_bad hk q0 (j := 1) (by omega) (by omega) lo1 ?_ ?_
    · have := c38 (d := d + 29) g (n := n)
      rw [if_neg b] at this
      exact this
    · have := r83 (d := d + 29) (h := fC h 1) g (n := n)
      rw [if_neg b] at this
      exact this
theorem k39 {d : Nat} {h : mM} {k : Nat} (hk : k < 1000) (q : RLN h k) {p v : Int32} : OKc d 39 84 [some (.int p), some (.int v), none] [some (.int p), some (.int v), none] h k := by
  have q0 := q
  obtain ⟨g, q2, ⟨rd, q3⟩, hr, h10, q4, q5, q6, ⟨qs, q7⟩, q8, q9, q10, q11, q12⟩ := q
  by_cases b : (0 ≤ p ∧ p ≤ 23) ∧ 0 ≤ v ∧ v ≤ 200
  · obtain ⟨x, e1, _, x2⟩ := in_nI (lo := 0) (hi := 23) b.1.1 b.1.2 (by omega) (by omega)
    obtain ⟨y, e2, _, y2⟩ := in_nI (lo := 0) (hi := 200) b.2.1 b.2.2 (by omega) (by omega)
    subst e1 e2
    have f : ∀ a j, ¬ ((a = 110 ∧ j = x) ∨ (a = 3 ∧ j = x)) → mI (wI (wI h 3 x (nI y)) 110 x (nI y)) a j = mI h a j := fun a j hn => by rw [mI_wI, if_neg (by omega), mI_wI, if_neg (by omega)]
    have e : cfg (wI (wI h 3 x (nI y)) 110 x (nI y)) = cfg h := cfg_F2 (fun a j z => f a j (by unfold F2 isM isT at z; omega))
    refine ⟨mI h 3 x, wI h 3 x (nI y), wI (wI h 3 x (nI y)) 110 x (nI y), c39_ok (d := d + 29) g (by omega) b.2, ?_, g, ?_⟩
    · have := r84_ok (d := d + 29) (h := wI h 3 x (nI y)) g (p := x) (by omega) b.2
      rw [mI_wI, if_neg (by omega), ← (q3.2.2.2.2 x (by omega)).1] at this
      exact this
    · refine ⟨g, B2_congr (fun a j z => f a j (by unfold F2 isM isT at z; omega)) q2, ⟨rd, ?_⟩, hr, h10, B4_congr (fun a j z => f a j (by unfold F4 at z; omega)) q4, B5_congr e (fun a j z => f a j (by unfold F5 at z; omega)) q5, B6_congr (fun a j z => f a j (by unfold F2 isM isT at z; omega)) q6, ⟨qs, B7_congr e (fun j => f 119 j (by omega)) (fun a j z => f a j (by unfold F7 isM isK at z; omega)) (fun _ _ _ => rfl) q7⟩, B8_congr (fun a j z => f a j (by unfold F8 isM at z; omega)) (fun j => rfl) q8, B9_congr (fun a j z => f a j (by unfold F9 at z; omega)) (fun j => rfl) q9, B10_congr (fun a j z => f a j (by unfold F10 at z; omega)) (fun j => rfl) q10, B11_congr (fun a j z => f a j (by unfold F11 at z; omega)) q11, B12_congr (fun a j z => f a j (by unfold F12 at z; omega)) (fun j => rfl) q12⟩
      refine ⟨?_, ?_, q3.2.2.1, q3.2.2.2.1, fun j hj => ?_⟩
      · rw [f 2 1 (by omega)]; exact q3.1
      · rw [f 109 1 (by omega)]; exact q3.2.1
      · by_cases z : j = x
        · subst z
          rw [mI_wI, if_neg (by omega), mI_wI, if_pos ⟨rfl, rfl⟩, mI_wI, if_pos ⟨rfl, rfl⟩, cN_nI (by omega)]
          exact ⟨rfl, rfl, y2⟩
        · rw [f 3 j (by omega), f 110 j (by omega)]; exact q3.2.2.2.2 j hj
  · exact OK_bad hk q0 (j := 1) (by omega) (by omega) lo1 (c39_bad (d := d + 29) g b) (r84_bad (d := d + 29) (h := fC h 1) g b)
theorem k40 {d : Nat} {h : mM} {k : Nat} (hk : k < 1000) (q : RLN h k) {t : Int32} : OKc d 40 86 [some (.int t)] [some (.int t)] h k := by
  have q0 := q
  obtain ⟨g, q2, ⟨rd, q3⟩, hr, h10, q4, q5, q6, ⟨qs, q7⟩, q8, q9, q10, q11, q12⟩ := q
  by_cases b : t < 0
  · exact OK_bad hk q0 (j := 1) (by omega) (by omega) lo1 (c40_bad (d := d + 29) g b) (r86_bad (d := d + 29) (h := fC h 1) g b)
  · obtain ⟨x, x1, e1⟩ := nI_of b
    subst e1
    have m1 := Nat.mod_lt x q3.2.2.1
    have e := q3.2.2.2.2 (x % rd) (by have := q3.2.2.2.1; omega)
    refine OK_ask q0 ?_ (c40_ok (d := d + 29) g q3.1 q3.2.2.1 q3.2.2.2.1 x1) (r86_ok (d := d + 29) g q3.2.1 q3.2.2.1 q3.2.2.2.1 x1)
    rw [e.1]
theorem k43 {d : Nat} {h : mM} {k : Nat} (hk : k < 1000) (q : RLN h k) {P v : Int32} : OKc d 43 89 [some (.int P), some (.int v), none] [some (.int P), some (.int v), none] h k := by
  have q0 := q
  obtain ⟨g, q2, ⟨rd, q3⟩, hr, h10, q4, q5, q6, ⟨qs, q7⟩, q8, q9, q10, q11, q12⟩ := q
  obtain ⟨⟨a4, _, _⟩, ⟨b3, _, _⟩, n4, _, _⟩ := q0.cnt
  by_cases b : 0 ≤ P ∧ P ≤ mI h 4 4 - 1
  · obtain ⟨p, e1, hp⟩ := in_cnt a4 (by omega) b.1 b.2
    subst e1
    obtain ⟨⟨c0, c1, _, _⟩, c0', c1', _, _⟩ := q2.p hp
    have kp := q2.1.2.1 p hp
    have ab : cfg h 1 p * cfg h 2 p ≤ 100 * 250 := Nat.mul_le_mul kp.1.2 kp.2.1.2
    by_cases b2 : 0 ≤ v ∧ v ≤ mI h (9 + p) 0 * mI h (9 + p) 1
    · have b3' := b2
      rw [c0, c1, pk_mul] at b3'
      obtain ⟨y, e2, _, y2⟩ := in_nI (lo := 0) b3'.1 b3'.2 (by omega) (by omega)
      subst e2
      obtain ⟨w, w1, w2, w3, w4⟩ := q5 p (by omega)
      have w5 := w3 hp
      have f : ∀ a j, ¬ ((a = 115 ∧ j = p) ∨ (a = 1 ∧ j = 15) ∨ (a = 104 ∧ j = p)) → mI (wJ (wI (wI (wI h 104 p (nI y)) 1 15 (mI h 1 15 + (nI y - mI h 104 p))) 115 p (nI y)) 133 4 (mJ h 133 4 + (nI y - mI h 115 p).toInt64)) a j = mI h a j := fun a j hn => by rw [mI_wJ, mI_wI, if_neg (by omega), mI_wI, if_neg (by omega), mI_wI, if_neg (by omega)]
      have e : cfg (wJ (wI (wI (wI h 104 p (nI y)) 1 15 (mI h 1 15 + (nI y - mI h 104 p))) 115 p (nI y)) 133 4 (mJ h 133 4 + (nI y - mI h 115 p).toInt64)) = cfg h := cfg_F2 (fun a j z => f a j (by unfold F2 isM isT at z; omega))
      refine ⟨mI h 104 p, wI (wI h 104 p (nI y)) 1 15 (mI h 1 15 + (nI y - mI h 104 p)), wJ (wI (wI (wI h 104 p (nI y)) 1 15 (mI h 1 15 + (nI y - mI h 104 p))) 115 p (nI y)) 133 4 (mJ h 133 4 + (nI y - mI h 115 p).toInt64), c43_ok (d := d + 28) g a4 hp n4 b2, ?_, g, ?_⟩
      · have := r89_ok (d := d + 28) (h := wI (wI h 104 p (nI y)) 1 15 (mI h 1 15 + (nI y - mI h 104 p))) g (n := cfg h 0 0) (p := p) (v := nI y) (by rw [mI_wI, if_neg (by decide), mI_wI, if_neg (by omega)]; exact b3) hp n4 (by rw [mI_wI, if_neg (by omega), mI_wI, if_neg (by omega), mI_wI, if_neg (by omega), mI_wI, if_neg (by omega), c0', c1', pk_mul]; exact b3')
        rw [mI_wI, if_neg (by omega), mI_wI, if_neg (by omega)] at this
        rw [show mI h 104 p = mI h 115 p from w1.trans w2.symm] at this ⊢
        exact this
      · refine ⟨g, B2_congr (fun a j z => f a j (by unfold F2 isM isT at z; omega)) q2, ⟨rd, B3_congr (fun a j z => f a j (by unfold F3 at z; omega)) q3⟩, hr, h10, B4_congr (fun a j z => f a j (by unfold F4 at z; omega)) q4, ?_, B6_congr (fun a j z => f a j (by unfold F2 isM isT at z; omega)) q6, ⟨qs, B7_congr e (fun j => f 119 j (by omega)) (fun a j z => f a j (by unfold F7 isM isK at z; omega)) (fun _ _ _ => rfl) q7⟩, B8_congr (fun a j z => f a j (by unfold F8 isM at z; omega)) (fun j => rfl) q8, B9_congr (fun a j z => f a j (by unfold F9 at z; omega)) (fun j => rfl) q9, ?_, B11_congr (fun a j z => f a j (by unfold F11 at z; omega)) q11, B12_congr (fun a j z => f a j (by unfold F12 at z; omega)) (fun j => rfl) q12⟩
        · intro x hx
          rw [e]
          by_cases z : x = p
          · subst z
            refine ⟨y, ?_, ?_, fun _ => y2, fun z => by omega⟩
            · rw [mI_wJ, mI_wI, if_neg (by omega), mI_wI, if_neg (by omega), mI_wI, if_pos ⟨rfl, rfl⟩]
            · rw [mI_wJ, mI_wI, if_pos ⟨rfl, rfl⟩]
          · rw [f 104 x (by omega), f 115 x (by omega)]; exact q5 x hx
        · obtain ⟨u1, u2, u3, u4⟩ := q10
          have dv : (nI y - nI w).toInt = (y : Int) - w := pk_sub_toInt (by omega) (by omega)
          have e15 : mI (wJ (wI (wI (wI h 104 p (nI y)) 1 15 (mI h 1 15 + (nI y - mI h 104 p))) 115 p (nI y)) 133 4 (mJ h 133 4 + (nI y - mI h 115 p).toInt64)) 1 15 = mI h 1 15 + (nI y - nI w) := by
            rw [mI_wJ, mI_wI, if_neg (by omega), mI_wI, if_pos ⟨rfl, rfl⟩, w1]
          have ad : (mI h 1 15 + (nI y - nI w)).toInt = (mI h 1 15).toInt + ((y : Int) - w) := by
            rw [Int32.toInt_add, dv, Int.bmod_eq_of_le (by omega) (by omega)]
          refine ⟨fun j hj => ?_, ?_, ?_, ?_⟩
          · rw [f 1 (11 + j) (by omega)]
            obtain ⟨a, a1, a2, a3⟩ := u1 j hj
            refine ⟨a, a1, a2, ?_⟩
            show (if 133 = 133 ∧ j = 4 then _ else mJ h 133 j) = _
            rw [if_neg (by omega)]; exact a3
          · rw [e15]
            show (if 133 = 133 ∧ 4 = 4 then mJ h 133 4 + (nI y - mI h 115 p).toInt64 else mJ h 133 4) = _
            rw [if_pos ⟨rfl, rfl⟩, w2, u2, toI64_add (by omega) (by omega)]
          · rw [e15, ad]; omega
          · rw [e15, ad]; omega
    · refine OK_bad hk q0 (j := 1) (by omega) (by omega) lo1 (c43_bad2 (d := d + 28) g a4 hp n4 b2) (r89_bad2 (d := d + 28) (h := fC h 1) g (n := cfg h 0 0) (by rw [mI_fC (by decide)]; exact b3) hp n4 ?_)
      rw [mI_fC (by decide), mI_fC (by decide), c0', c1', ← c0, ← c1]
      exact b2
  · refine OK_bad hk q0 (j := 1) (by omega) (by omega) lo1 (c43_bad1 (d := d + 28) g b) (r89_bad1 (d := d + 28) (h := fC h 1) g ?_)
    rw [mI_fC (by decide), b3, ← a4]
    exact b
