-- the relation holds when both objects are made
def Hs (L : Nat) (xs : Nat → Int32) : mM := yM (gB (m0 L xs) 92) 138 1040 IF0 RF0
theorem s122 {d L : Nat} {xs : Nat → Int32} : ev (d + 4) 122 0 [some (.ref 0), none, none, none] [] (m0 L xs) = ev (d + 4) 122 18 [some (.ref 0), some (.ref 1), some (.ref 109), some (.int 0)] [] (Hs L xs) := by
  rw [m0_y]
  have w1 : wN (yM (m0 L xs) 1 0 (fun _ _ => 0) (fun _ _ => none)) 9 16 = yM (m0 L xs) 2 16 (fun _ _ => 0) (fun _ _ => none) := y_wN (by decide) TT_1 Fr0
  have c1 := n37 (d := d) (b := m0 L xs) (Z := 16) Fr0
  have w2 : wN (yM (gB (m0 L xs) 92) 109 602 (obI (fun _ _ => 0)) (obR (fun _ _ => none))) 10 37 = yM (gB (m0 L xs) 92) 110 639 (obI (fun _ _ => 0)) (obR (fun _ _ => none)) := y_wN (by decide) TT_109 obR_fr
  have c2 := n78 (d := d + 3) (b := gB (m0 L xs) 92) (Z := 639) obR_fr
  simp only [Nat.reduceAdd] at c1 c2
  simp only [e_122_0, e_122_3r, e_122_4, e_122_7, e_122_8, e_122_11r, e_122_12, e_122_15, e_122_16, e_122_17, cV_some, tl_some, tl_none, mZO_0, mZO_1, mL1_n, mL1_i, mL1_r, oB_some, List.cons_append, List.nil_append, mK_wI, mL_wI, mN_wI, mR_wI, mJ_wI, mK_wJ, mL_wJ, mI_wJ, mR_wJ, mK_wR, mL_wR, mI_wR, mJ_wR, bI_0, bI_n0, if_true, if_false, Nat.reduceLeDiff, Nat.reduceAdd, ite_not, reduceIte, not_false_eq_true, not_true_eq_false, true_and, and_true, and_self, or_false, false_or, or_true, true_or, Nat.reduceEqDiff, Nat.reduceLT, Nat.zero_le, Nat.add_zero, eq_self, false_and, and_false, mc_, mc_i, mc_r, mc_l, mc_ii, mc_ir, mc_il, mc_ri, mc_rr, mc_rl, mc_li, mc_lr, mc_ll, mc_iii, mc_iir, mc_iil, mc_iri, mc_irr, mc_irl, mc_ili, mc_ilr, mc_ill, mc_rii, mc_rir, mc_ril, mc_rri, mc_rrr, mc_rrl, mc_rli, mc_rlr, mc_rll, mc_lii, mc_lir, mc_lil, mc_lri, mc_lrr, mc_lrl, mc_lli, mc_llr, mc_lll, mc_iiii, mc_iiir, mc_iiri, mc_iirr, mc_irii, mc_irir, mc_irri, mc_irrr, mc_riii, mc_riir, mc_riri, mc_rirr, mc_rrii, mc_rrir, mc_rrri, mc_rrrr, mc_iiiii, mc_iiiir, mc_iiiri, mc_iiirr, mc_iirii, mc_iirir, mc_iirri, mc_iirrr, mc_iriii, mc_iriir, mc_iriri, mc_irirr, mc_irrii, mc_irrir, mc_irrri, mc_irrrr, mc_riiii, mc_riiir, mc_riiri, mc_riirr, mc_ririi, mc_ririr, mc_rirri, mc_rirrr, mc_rriii, mc_rriir, mc_rriri, mc_rrirr, mc_rrrii, mc_rrrir, mc_rrrri, mc_rrrrr, y_mN, w1, c1, w2, c2]
  rfl
theorem hs_I {L : Nat} {xs : Nat → Int32} {a k : Nat} (h0 : 0 < a) (h1 : a < 138) : mI (Hs L xs) a k = IF0 a k := y_mI h0 h1
theorem hs_J {L : Nat} {xs : Nat → Int32} {a k : Nat} (h0 : 0 < a) (h1 : a < 138) : mJ (Hs L xs) a k = 0 := y_mJ h0 h1
theorem hs_R {L : Nat} {xs : Nat → Int32} {a k : Nat} (h0 : 0 < a) (h1 : a < 138) : mR (Hs L xs) a k = RF0 a k := y_mR h0 h1
theorem hs_T : ∀ a, a < 138 → 0 < a → (TT a).1 = kT.getD a 0 ∧ (TT a).1 < 19 ∧ (10 < kT.getD a 0 → (TT a).2 = lT.getD a 0) := by decide +kernel
theorem hs_r : ∀ q ∈ rT, RF0 q.1 q.2.1 = some q.2.2 ∧ 0 < q.1 ∧ q.1 < 138 := by decide +kernel
theorem hs_G {L : Nat} {xs : Nat → Int32} : G (Hs L xs) := by
  refine ⟨rfl, fun a h0 h1 => ?_, fun q hq => ?_⟩
  · obtain ⟨t1, t2, t3⟩ := hs_T a h1 h0
    refine ⟨(y_mK h0 h1 t2).trans t1, fun z => (y_mL h0 h1).trans (t3 z)⟩
  · obtain ⟨r1, r2, r3⟩ := hs_r q hq
    rw [hs_R r2 r3]
    exact r1
theorem hs_1 : (IF0 4 4 = 0 ∧ IF0 4 5 = 0 ∧ IF0 4 6 = 0) ∧ (IF0 109 3 = 0 ∧ IF0 109 9 = 0 ∧ IF0 109 13 = 0) ∧ (IF0 2 1 = 12 ∧ IF0 109 1 = 12) ∧ (IF0 1 9 = 0 ∧ IF0 109 0 = 0) ∧ (IF0 1 15 = 0 ∧ IF0 1 10 = 0 ∧ IF0 109 30 = 0) := by decide +kernel
theorem hs_3 : ∀ j, j < 24 → IF0 3 j = IF0 110 j ∧ IF0 110 j = nI (cN (IF0 110 j)) ∧ cN (IF0 110 j) ≤ 200 := by decide +kernel
theorem hs_5 : ∀ p, p < 4 → IF0 104 p = 0 ∧ IF0 115 p = 0 ∧ IF0 (9 + p) 3 = 1 ∧ IF0 1 (11 + p) = 0 := by decide +kernel
theorem hs_6 : ∀ m, m < 4 → IF0 (17 + 18 * m) 7 = 0 ∧ IF0 124 m = 0 ∧ IF0 (17 + 18 * m) 8 = 0 ∧ IF0 129 m = 0 := by decide +kernel
theorem hs_7 : ∀ m, m < 4 → ∀ s, s < 3 → IF0 (20 + 18 * m + s) 4 = 1 := by decide +kernel
theorem hs_8 : ∀ m, m < 4 → ∀ i, i < 12 → RF0 (19 + 18 * m) i = some (23 + 18 * m + i) := by decide +kernel
theorem hs_9 : ∀ m, m < 4 → ∀ j, j < 6 → IF0 (17 + 18 * m) (9 + j) = 0 := by decide +kernel
theorem hs_10 : ∀ c, c < 24 → IF0 105 c = 0 ∧ IF0 106 c = 0 ∧ IF0 134 c = 0 ∧ IF0 107 c = 0 := by decide +kernel
theorem hs_RL {L : Nat} {xs : Nat → Int32} : RLN (Hs L xs) 0 := by
  obtain ⟨⟨c4, c5, c6⟩, ⟨d3, d9, d13⟩, ⟨r1, r2⟩, ⟨t1, t2⟩, u1, u2, u3⟩ := hs_1
  have z : ∀ {a k : Nat}, 0 < a → a < 138 → IF0 a k = 0 → mI (Hs L xs) a k = nI 0 := fun h0 h1 e => (hs_I h0 h1).trans e
  obtain ⟨cf, E0, E1, E2⟩ := CF_of (h := Hs L xs) (np := 0) (nc := 0) (nm := 0) ⟨by omega, by omega, by omega⟩ ⟨z (by omega) (by omega) c4, z (by omega) (by omega) c5, z (by omega) (by omega) c6⟩ ⟨z (by omega) (by omega) d3, z (by omega) (by omega) d9, z (by omega) (by omega) d13⟩ (fun p hp => absurd hp (by omega)) (fun p hp => absurd hp (by omega)) (fun p hp => absurd hp (by omega)) (fun m s hm => absurd hm (by omega)) (fun i hi => absurd hi (by omega)) (fun e S f x => by rw [e]; rfl)
  refine ⟨hs_G, cf, ⟨12, ?_, ?_, by omega, by omega, fun j hj => ?_⟩, 0, by omega, ⟨z (by omega) (by omega) t1, z (by omega) (by omega) t2⟩, fun p hp => ?_, ⟨fun p hp _ => ?_, fun m hm _ => ?_, fun m s hm hs _ => ?_⟩, ⟨fun _ => [], fun m hm => ⟨fun s hs => (by cases hs), Nat.zero_le _, fun _ => rfl⟩, fun m hm => ⟨⟨fun i => i, ⟨fun i hi => ⟨?_, hi⟩, fun i j _ _ e => e⟩, ?_, trivial⟩, ?_, trivial⟩, fun _ _ _ => rfl⟩, fun m hm j hj => ?_, fun c hc => ?_, ⟨fun j hj => ?_, ?_, ?_, ?_⟩, ⟨0, by omega, z (by omega) (by omega) u2, z (by omega) (by omega) u3, fun j hj => ?_⟩, fun j h1 h5 => ?_⟩
  · exact (hs_I (by omega) (by omega)).trans r1
  · exact (hs_I (by omega) (by omega)).trans r2
  · rw [hs_I (by omega) (by omega), hs_I (by omega) (by omega)]; exact hs_3 j hj
  · exact ⟨0, z (by omega) (by omega) (hs_5 p hp).1, z (by omega) (by omega) (hs_5 p hp).2.1, fun _ => Nat.zero_le _, fun _ => rfl⟩
  · rw [hs_I (by omega) (by omega)]; exact (hs_5 p hp).2.2.1
  · rw [hs_I (by omega) (by omega), hs_I (by omega) (by omega)]; exact ⟨(hs_6 m hm).1, (hs_6 m hm).2.1⟩
  · rw [hs_I (by omega) (by omega)]; exact hs_7 m hm s hs
  · rw [hs_R (by omega) (by omega)]; exact hs_8 m hm i hi
  · exact z (by omega) (by omega) (hs_6 m hm).2.2.1
  · exact z (by omega) (by omega) (hs_6 m hm).2.2.2
  · exact ⟨0, by omega, z (by omega) (by omega) (hs_9 m hm j hj), hs_J (by omega) (by omega)⟩
  · exact ⟨0, by omega, z (by omega) (by omega) (hs_10 c (by omega)).1, hs_J (by omega) (by omega)⟩
  · exact ⟨0, by omega, z (by omega) (by omega) (hs_5 j hj).2.2.2, hs_J (by omega) (by omega)⟩
  · rw [hs_J (by omega) (by omega), hs_I (by omega) (by omega), u1]; decide
  · rw [hs_I (by omega) (by omega), u1]; decide
  · rw [hs_I (by omega) (by omega), u1]; decide
  · rw [hs_I (by omega) (by omega), hs_I (by omega) (by omega), (hs_10 j hj).2.1, (hs_10 j hj).2.2.1]
  · exact ⟨0, by omega, z (by omega) (by omega) (hs_10 j (by omega)).2.2.2, hs_J (by omega) (by omega)⟩
