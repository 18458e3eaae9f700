-- the objects are made (gen_ctor2.py)
def mlI (I : Nat → Nat → Int32) : Nat → Nat → Nat → Int32
  | 0 => I
  | i + 1 => stI (17 + 18 * i + 3) (mlI I i) 3
def mlsR (R : Nat → Nat → Option Nat) : Nat → Nat → Nat → Option Nat
  | 0 => R
  | i + 1 => r2 (mlR (17 + 18 * i) (mlsR R i)) 7 i (some (17 + 18 * i))
theorem mlI_off {I : Nat → Nat → Int32} {x j : Nat} : ∀ (i : Nat), (x < 17 ∨ 17 + 18 * i ≤ x) → mlI I i x j = I x j
  | 0, _ => rfl
  | i + 1, h => by
    show stI (17 + 18 * i + 3) (mlI I i) 3 x j = _
    rw [stI_off 3 (by omega), mlI_off i (by omega)]
theorem mlsR_off {R : Nat → Nat → Option Nat} {x j : Nat} (h7 : x ≠ 7) : ∀ (i : Nat), (x < 17 ∨ 17 + 18 * i ≤ x) → mlsR R i x j = R x j
  | 0, _ => rfl
  | i + 1, h => by
    show r2 (mlR (17 + 18 * i) (mlsR R i)) 7 i (some (17 + 18 * i)) x j = _
    rw [r2_off h7, mlR_off (by omega), mlsR_off h7 i (by omega)]
theorem tm0 : ∀ i, i < 4 → TT (17 + 18 * i) = (2, 15) ∧ TT (17 + 18 * i + 1) = (16, 3) ∧ TT (17 + 18 * i + 2) = (17, 12) := by decide
theorem tm3 : ∀ i, i < 4 → ∀ j, j < 3 → TT (17 + 18 * i + 3 + j) = (6, 5) := by decide
theorem tm4 : ∀ i, i < 4 → ∀ j, j < 12 → TT (17 + 18 * i + 6 + j) = (4, 4) := by decide +kernel
theorem l32c {d : Nat} {b : mM} {Z : Nat} {I : Nat → Nat → Int32} {R : Nat → Nat → Option Nat} (hR : R 4 2 = some 7) (fr : Fr I R 17) : ∀ (k i : Nat), i + k = 4 → ev (d + 2) 32 104 [some (.ref 4), some (.int (nI i))] [] (yM b (17 + 18 * i) (Z + 93 * i) (mlI I i) (mlsR R i)) = ev (d + 2) 32 128 [some (.ref 4), some (.int (nI 4))] [] (yM b (17 + 18 * 4) (Z + 93 * 4) (mlI I 4) (mlsR R 4))
  | 0, i, hk => by
    have e : i = 4 := by omega
    subst e
    have hc : (4 : Int32) ≤ nI 4 := by decide
    rw [e_32_104]
    simp only [e_32_0, e_32_1, e_32_4, e_32_5, e_32_6, e_32_9, e_32_12, e_32_13, e_32_14, e_32_17, e_32_20, e_32_21, e_32_22, e_32_25, e_32_28, e_32_29, e_32_30, e_32_32, e_32_35, e_32_36, e_32_37, e_32_40, e_32_41, e_32_42, e_32_45, e_32_46, e_32_47, e_32_50, e_32_51, e_32_52, e_32_53, e_32_54, e_32_57, e_32_58, e_32_61, e_32_62, e_32_65r, e_32_65i, e_32_66, e_32_69, e_32_70, e_32_73, e_32_76, e_32_77, e_32_78, e_32_79, e_32_80, e_32_83, e_32_84, e_32_87, e_32_88, e_32_91r, e_32_91i, e_32_92, e_32_95, e_32_96, e_32_99, e_32_102, e_32_103, e_32_105, e_32_106, e_32_109, e_32_110, e_32_113, e_32_114, e_32_117r, e_32_117i, e_32_118, e_32_121, e_32_122, e_32_125, e_32_128, cV_some, tl_some, tl_none, mZO_0, mZO_1, mL1_n, mL1_i, mL1_r, oB_some, List.cons_append, List.nil_append, mK_wI, mL_wI, mN_wI, mR_wI, mJ_wI, mK_wJ, mL_wJ, mI_wJ, mR_wJ, mK_wR, mL_wR, mI_wR, mJ_wR, bI_0, bI_n0, if_true, if_false, Nat.reduceLeDiff, Nat.reduceAdd, ite_not, reduceIte, not_false_eq_true, not_true_eq_false, true_and, and_true, and_self, or_false, false_or, or_true, true_or, Nat.reduceEqDiff, Nat.reduceLT, Nat.zero_le, Nat.add_zero, eq_self, false_and, and_false, mc_, mc_i, mc_r, mc_l, mc_ii, mc_ir, mc_il, mc_ri, mc_rr, mc_rl, mc_li, mc_lr, mc_ll, mc_iii, mc_iir, mc_iil, mc_iri, mc_irr, mc_irl, mc_ili, mc_ilr, mc_ill, mc_rii, mc_rir, mc_ril, mc_rri, mc_rrr, mc_rrl, mc_rli, mc_rlr, mc_rll, mc_lii, mc_lir, mc_lil, mc_lri, mc_lrr, mc_lrl, mc_lli, mc_llr, mc_lll, mc_iiii, mc_iiir, mc_iiri, mc_iirr, mc_irii, mc_irir, mc_irri, mc_irrr, mc_riii, mc_riir, mc_riri, mc_rirr, mc_rrii, mc_rrir, mc_rrri, mc_rrrr, mc_iiiii, mc_iiiir, mc_iiiri, mc_iiirr, mc_iirii, mc_iirir, mc_iirri, mc_iirrr, mc_iriii, mc_iriir, mc_iriri, mc_irirr, mc_irrii, mc_irrir, mc_irrri, mc_irrrr, mc_riiii, mc_riiir, mc_riiri, mc_riirr, mc_ririi, mc_ririr, mc_rirri, mc_rirrr, mc_rriii, mc_rriir, mc_rriri, mc_rrirr, mc_rrrii, mc_rrrir, mc_rrrri, mc_rrrrr, hc]
  | k + 1, i, hk => by
    have hc : ¬ (4 : Int32) ≤ nI i := nI_ge (b := 4) (by omega) (by omega)
    obtain ⟨t0, t1, t2⟩ := tm0 i (by omega)
    have fr2 : Fr (mlI I i) (mlsR R i) (17 + 18 * i) := fun x hx j => by
      rw [mlI_off i (by omega), mlsR_off (by omega) i (by omega)]
      exact fr x (by omega) j
    have w : wN (yM b (17 + 18 * i) (Z + 93 * i) (mlI I i) (mlsR R i)) 2 15 = yM b (17 + 18 * i + 1) (Z + 93 * i + 15) (mlI I i) (mlsR R i) := y_wN (by omega) t0 fr2
    have c := n11 (d := d) (b := b) (Z := Z + 93 * i + 15) (a := 17 + 18 * i) (I := mlI I i) (R := mlsR R i) (by omega) t0 t1 t2 (tm3 i (by omega)) (tm4 i (by omega)) fr2
    have kO : ∀ Z I R, mK (yM b (17 + 18 * i + 18) Z I R) 4 = 8 := fun Z I R => by rw [y_mK (by omega) (by omega) (by rw [TT_4]; decide), TT_4]
    have kO2 : ∀ Z I R, mK (yM b (17 + 18 * i) Z I R) 4 = 8 := fun Z I R => by rw [y_mK (by omega) (by omega) (by rw [TT_4]; decide), TT_4]
    have kA : ∀ Z I R, mK (yM b (17 + 18 * i + 18) Z I R) 7 = 15 := fun Z I R => by rw [y_mK (by omega) (by omega) (by rw [TT_7]; decide), TT_7]
    have lA : ∀ Z I R, mL (yM b (17 + 18 * i + 18) Z I R) 7 = 4 := fun Z I R => by rw [y_mL (by omega) (by omega), TT_7]
    have kN : ∀ Z I R, mK (yM b (17 + 18 * i + 18) Z I R) (17 + 18 * i) = 2 := fun Z I R => by rw [y_mK (by omega) (by omega) (by rw [t0]; decide), t0]
    have rr : mR (yM b (17 + 18 * i) (Z + 93 * i) (mlI I i) (mlsR R i)) 4 2 = some 7 := by rw [y_mR (by omega) (by omega), mlsR_off (by omega) i (by omega)]; exact hR
    have wr : ∀ Z I R, wR (yM b (17 + 18 * i + 18) Z I R) 7 i (some (17 + 18 * i)) = yM b (17 + 18 * i + 18) Z I (r2 R 7 i (some (17 + 18 * i))) := fun Z I R => y_wR (by omega) (by omega)
    have ih := l32c (d := d) (b := b) (Z := Z) hR fr k (i + 1) (by omega)
    rw [show Z + 93 * (i + 1) = Z + 93 * i + 15 + 78 by omega, show 17 + 18 * (i + 1) = 17 + 18 * i + 18 by omega] at ih
    refine Eq.trans ?_ ih
    rw [e_32_104]
    simp only [e_32_0, e_32_1, e_32_4, e_32_5, e_32_6, e_32_9, e_32_12, e_32_13, e_32_14, e_32_17, e_32_20, e_32_21, e_32_22, e_32_25, e_32_28, e_32_29, e_32_30, e_32_32, e_32_35, e_32_36, e_32_37, e_32_40, e_32_41, e_32_42, e_32_45, e_32_46, e_32_47, e_32_50, e_32_51, e_32_52, e_32_53, e_32_54, e_32_57, e_32_58, e_32_61, e_32_62, e_32_65r, e_32_65i, e_32_66, e_32_69, e_32_70, e_32_73, e_32_76, e_32_77, e_32_78, e_32_79, e_32_80, e_32_83, e_32_84, e_32_87, e_32_88, e_32_91r, e_32_91i, e_32_92, e_32_95, e_32_96, e_32_99, e_32_102, e_32_103, e_32_105, e_32_106, e_32_109, e_32_110, e_32_113, e_32_114, e_32_117r, e_32_117i, e_32_118, e_32_121, e_32_122, e_32_125, e_32_128, cV_some, tl_some, tl_none, mZO_0, mZO_1, mL1_n, mL1_i, mL1_r, oB_some, List.cons_append, List.nil_append, mK_wI, mL_wI, mN_wI, mR_wI, mJ_wI, mK_wJ, mL_wJ, mI_wJ, mR_wJ, mK_wR, mL_wR, mI_wR, mJ_wR, bI_0, bI_n0, if_true, if_false, Nat.reduceLeDiff, Nat.reduceAdd, ite_not, reduceIte, not_false_eq_true, not_true_eq_false, true_and, and_true, and_self, or_false, false_or, or_true, true_or, Nat.reduceEqDiff, Nat.reduceLT, Nat.zero_le, Nat.add_zero, eq_self, false_and, and_false, mc_, mc_i, mc_r, mc_l, mc_ii, mc_ir, mc_il, mc_ri, mc_rr, mc_rl, mc_li, mc_lr, mc_ll, mc_iii, mc_iir, mc_iil, mc_iri, mc_irr, mc_irl, mc_ili, mc_ilr, mc_ill, mc_rii, mc_rir, mc_ril, mc_rri, mc_rrr, mc_rrl, mc_rli, mc_rlr, mc_rll, mc_lii, mc_lir, mc_lil, mc_lri, mc_lrr, mc_lrl, mc_lli, mc_llr, mc_lll, mc_iiii, mc_iiir, mc_iiri, mc_iirr, mc_irii, mc_irir, mc_irri, mc_irrr, mc_riii, mc_riir, mc_riri, mc_rirr, mc_rrii, mc_rrir, mc_rrri, mc_rrrr, mc_iiiii, mc_iiiir, mc_iiiri, mc_iiirr, mc_iirii, mc_iirir, mc_iirri, mc_iirrr, mc_iriii, mc_iriir, mc_iriri, mc_irirr, mc_irrii, mc_irrir, mc_irrri, mc_irrrr, mc_riiii, mc_riiir, mc_riiri, mc_riirr, mc_ririi, mc_ririr, mc_rirri, mc_rirrr, mc_rriii, mc_rriir, mc_rriri, mc_rrirr, mc_rrrii, mc_rrrir, mc_rrrri, mc_rrrrr, hc, kO, kO2, kA, lA, kN, rr, y_mN, w, c, wr, mEl_15, ixN (show i < 4 by omega) (by omega), cl (show i < 2 ^ 31 by omega), nI_1]
    rfl
theorem a32_4 {d : Nat} {b : mM} {Z : Nat} {I : Nat → Nat → Int32} {R : Nat → Nat → Option Nat} (fr : Fr I R 5) : ev d 32 4 [some (.ref 4), none] [] (yM b 5 Z I R) = ev d 32 12 [some (.ref 4), none] [] (yM b 6 (Z + 4) I (r2 R 4 0 (some 5))) := by
  have w : wN (yM b 5 Z I R) 13 4 = yM b 6 (Z + 4) I R := y_wN (by decide) TT_5 fr
  have k : mK (yM b 6 (Z + 4) I R) 4 = 8 := by rw [y_mK (by decide) (by decide) (by rw [TT_4]; decide), TT_4]
  have r : wR (yM b 6 (Z + 4) I R) 4 0 (some 5) = yM b 6 (Z + 4) I (r2 R 4 0 (some 5)) := y_wR (by decide) (by decide)
  simp only [e_32_4, e_32_5, e_32_6, e_32_9, cV_some, tl_some, tl_none, mZO_0, mZO_1, mL1_n, mL1_i, mL1_r, oB_some, List.cons_append, List.nil_append, mK_wI, mL_wI, mN_wI, mR_wI, mJ_wI, mK_wJ, mL_wJ, mI_wJ, mR_wJ, mK_wR, mL_wR, mI_wR, mJ_wR, bI_0, bI_n0, if_true, if_false, Nat.reduceLeDiff, Nat.reduceAdd, ite_not, reduceIte, not_false_eq_true, not_true_eq_false, true_and, and_true, and_self, or_false, false_or, or_true, true_or, Nat.reduceEqDiff, Nat.reduceLT, Nat.zero_le, Nat.add_zero, eq_self, false_and, and_false, mc_, mc_i, mc_r, mc_l, mc_ii, mc_ir, mc_il, mc_ri, mc_rr, mc_rl, mc_li, mc_lr, mc_ll, mc_iii, mc_iir, mc_iil, mc_iri, mc_irr, mc_irl, mc_ili, mc_ilr, mc_ill, mc_rii, mc_rir, mc_ril, mc_rri, mc_rrr, mc_rrl, mc_rli, mc_rlr, mc_rll, mc_lii, mc_lir, mc_lil, mc_lri, mc_lrr, mc_lrl, mc_lli, mc_llr, mc_lll, mc_iiii, mc_iiir, mc_iiri, mc_iirr, mc_irii, mc_irir, mc_irri, mc_irrr, mc_riii, mc_riir, mc_riri, mc_rirr, mc_rrii, mc_rrir, mc_rrri, mc_rrrr, mc_iiiii, mc_iiiir, mc_iiiri, mc_iiirr, mc_iirii, mc_iirir, mc_iirri, mc_iirrr, mc_iriii, mc_iriir, mc_iriri, mc_irirr, mc_irrii, mc_irrir, mc_irrri, mc_irrrr, mc_riiii, mc_riiir, mc_riiri, mc_riirr, mc_ririi, mc_ririr, mc_rirri, mc_rirrr, mc_rriii, mc_rriir, mc_rriri, mc_rrirr, mc_rrrii, mc_rrrir, mc_rrrri, mc_rrrrr, zl_4, cz_4, y_mN, w, k, r]
theorem a32_12 {d : Nat} {b : mM} {Z : Nat} {I : Nat → Nat → Int32} {R : Nat → Nat → Option Nat} (fr : Fr I R 6) : ev d 32 12 [some (.ref 4), none] [] (yM b 6 Z I R) = ev d 32 20 [some (.ref 4), none] [] (yM b 7 (Z + 4) I (r2 R 4 1 (some 6))) := by
  have w : wN (yM b 6 Z I R) 14 4 = yM b 7 (Z + 4) I R := y_wN (by decide) TT_6 fr
  have k : mK (yM b 7 (Z + 4) I R) 4 = 8 := by rw [y_mK (by decide) (by decide) (by rw [TT_4]; decide), TT_4]
  have r : wR (yM b 7 (Z + 4) I R) 4 1 (some 6) = yM b 7 (Z + 4) I (r2 R 4 1 (some 6)) := y_wR (by decide) (by decide)
  simp only [e_32_12, e_32_13, e_32_14, e_32_17, cV_some, tl_some, tl_none, mZO_0, mZO_1, mL1_n, mL1_i, mL1_r, oB_some, List.cons_append, List.nil_append, mK_wI, mL_wI, mN_wI, mR_wI, mJ_wI, mK_wJ, mL_wJ, mI_wJ, mR_wJ, mK_wR, mL_wR, mI_wR, mJ_wR, bI_0, bI_n0, if_true, if_false, Nat.reduceLeDiff, Nat.reduceAdd, ite_not, reduceIte, not_false_eq_true, not_true_eq_false, true_and, and_true, and_self, or_false, false_or, or_true, true_or, Nat.reduceEqDiff, Nat.reduceLT, Nat.zero_le, Nat.add_zero, eq_self, false_and, and_false, mc_, mc_i, mc_r, mc_l, mc_ii, mc_ir, mc_il, mc_ri, mc_rr, mc_rl, mc_li, mc_lr, mc_ll, mc_iii, mc_iir, mc_iil, mc_iri, mc_irr, mc_irl, mc_ili, mc_ilr, mc_ill, mc_rii, mc_rir, mc_ril, mc_rri, mc_rrr, mc_rrl, mc_rli, mc_rlr, mc_rll, mc_lii, mc_lir, mc_lil, mc_lri, mc_lrr, mc_lrl, mc_lli, mc_llr, mc_lll, mc_iiii, mc_iiir, mc_iiri, mc_iirr, mc_irii, mc_irir, mc_irri, mc_irrr, mc_riii, mc_riir, mc_riri, mc_rirr, mc_rrii, mc_rrir, mc_rrri, mc_rrrr, mc_iiiii, mc_iiiir, mc_iiiri, mc_iiirr, mc_iirii, mc_iirir, mc_iirri, mc_iirrr, mc_iriii, mc_iriir, mc_iriri, mc_irirr, mc_irrii, mc_irrir, mc_irrri, mc_irrrr, mc_riiii, mc_riiir, mc_riiri, mc_riirr, mc_ririi, mc_ririr, mc_rirri, mc_rirrr, mc_rriii, mc_rriir, mc_rriri, mc_rrirr, mc_rrrii, mc_rrrir, mc_rrrri, mc_rrrrr, zl_4, cz_4, y_mN, w, k, r]
theorem a32_20 {d : Nat} {b : mM} {Z : Nat} {I : Nat → Nat → Int32} {R : Nat → Nat → Option Nat} (fr : Fr I R 7) : ev d 32 20 [some (.ref 4), none] [] (yM b 7 Z I R) = ev d 32 28 [some (.ref 4), none] [] (yM b 8 (Z + 4) I (r2 R 4 2 (some 7))) := by
  have w : wN (yM b 7 Z I R) 15 4 = yM b 8 (Z + 4) I R := y_wN (by decide) TT_7 fr
  have k : mK (yM b 8 (Z + 4) I R) 4 = 8 := by rw [y_mK (by decide) (by decide) (by rw [TT_4]; decide), TT_4]
  have r : wR (yM b 8 (Z + 4) I R) 4 2 (some 7) = yM b 8 (Z + 4) I (r2 R 4 2 (some 7)) := y_wR (by decide) (by decide)
  simp only [e_32_20, e_32_21, e_32_22, e_32_25, cV_some, tl_some, tl_none, mZO_0, mZO_1, mL1_n, mL1_i, mL1_r, oB_some, List.cons_append, List.nil_append, mK_wI, mL_wI, mN_wI, mR_wI, mJ_wI, mK_wJ, mL_wJ, mI_wJ, mR_wJ, mK_wR, mL_wR, mI_wR, mJ_wR, bI_0, bI_n0, if_true, if_false, Nat.reduceLeDiff, Nat.reduceAdd, ite_not, reduceIte, not_false_eq_true, not_true_eq_false, true_and, and_true, and_self, or_false, false_or, or_true, true_or, Nat.reduceEqDiff, Nat.reduceLT, Nat.zero_le, Nat.add_zero, eq_self, false_and, and_false, mc_, mc_i, mc_r, mc_l, mc_ii, mc_ir, mc_il, mc_ri, mc_rr, mc_rl, mc_li, mc_lr, mc_ll, mc_iii, mc_iir, mc_iil, mc_iri, mc_irr, mc_irl, mc_ili, mc_ilr, mc_ill, mc_rii, mc_rir, mc_ril, mc_rri, mc_rrr, mc_rrl, mc_rli, mc_rlr, mc_rll, mc_lii, mc_lir, mc_lil, mc_lri, mc_lrr, mc_lrl, mc_lli, mc_llr, mc_lll, mc_iiii, mc_iiir, mc_iiri, mc_iirr, mc_irii, mc_irir, mc_irri, mc_irrr, mc_riii, mc_riir, mc_riri, mc_rirr, mc_rrii, mc_rrir, mc_rrri, mc_rrrr, mc_iiiii, mc_iiiir, mc_iiiri, mc_iiirr, mc_iirii, mc_iirir, mc_iirri, mc_iirrr, mc_iriii, mc_iriir, mc_iriri, mc_irirr, mc_irrii, mc_irrir, mc_irrri, mc_irrrr, mc_riiii, mc_riiir, mc_riiri, mc_riirr, mc_ririi, mc_ririr, mc_rirri, mc_rirrr, mc_rriii, mc_rriir, mc_rriri, mc_rrirr, mc_rrrii, mc_rrrir, mc_rrrri, mc_rrrrr, zl_4, cz_4, y_mN, w, k, r]
theorem a32_28 {d : Nat} {b : mM} {Z : Nat} {I : Nat → Nat → Int32} {R : Nat → Nat → Option Nat} (fr : Fr I R 8) : ev d 32 28 [some (.ref 4), none] [] (yM b 8 Z I R) = ev d 32 35 [some (.ref 4), none] [] (yM b 9 (Z + 4) I (r2 R 4 3 (some 8))) := by
  have w : wN (yM b 8 Z I R) 11 4 = yM b 9 (Z + 4) I R := y_wN (by decide) TT_8 fr
  have k : mK (yM b 9 (Z + 4) I R) 4 = 8 := by rw [y_mK (by decide) (by decide) (by rw [TT_4]; decide), TT_4]
  have r : wR (yM b 9 (Z + 4) I R) 4 3 (some 8) = yM b 9 (Z + 4) I (r2 R 4 3 (some 8)) := y_wR (by decide) (by decide)
  simp only [e_32_28, e_32_29, e_32_30, e_32_32, cV_some, tl_some, tl_none, mZO_0, mZO_1, mL1_n, mL1_i, mL1_r, oB_some, List.cons_append, List.nil_append, mK_wI, mL_wI, mN_wI, mR_wI, mJ_wI, mK_wJ, mL_wJ, mI_wJ, mR_wJ, mK_wR, mL_wR, mI_wR, mJ_wR, bI_0, bI_n0, if_true, if_false, Nat.reduceLeDiff, Nat.reduceAdd, ite_not, reduceIte, not_false_eq_true, not_true_eq_false, true_and, and_true, and_self, or_false, false_or, or_true, true_or, Nat.reduceEqDiff, Nat.reduceLT, Nat.zero_le, Nat.add_zero, eq_self, false_and, and_false, mc_, mc_i, mc_r, mc_l, mc_ii, mc_ir, mc_il, mc_ri, mc_rr, mc_rl, mc_li, mc_lr, mc_ll, mc_iii, mc_iir, mc_iil, mc_iri, mc_irr, mc_irl, mc_ili, mc_ilr, mc_ill, mc_rii, mc_rir, mc_ril, mc_rri, mc_rrr, mc_rrl, mc_rli, mc_rlr, mc_rll, mc_lii, mc_lir, mc_lil, mc_lri, mc_lrr, mc_lrl, mc_lli, mc_llr, mc_lll, mc_iiii, mc_iiir, mc_iiri, mc_iirr, mc_irii, mc_irir, mc_irri, mc_irrr, mc_riii, mc_riir, mc_riri, mc_rirr, mc_rrii, mc_rrir, mc_rrri, mc_rrrr, mc_iiiii, mc_iiiir, mc_iiiri, mc_iiirr, mc_iirii, mc_iirir, mc_iirri, mc_iirrr, mc_iriii, mc_iriir, mc_iriri, mc_irirr, mc_irrii, mc_irrir, mc_irrri, mc_irrrr, mc_riiii, mc_riiir, mc_riiri, mc_riirr, mc_ririi, mc_ririr, mc_rirri, mc_rirrr, mc_rriii, mc_rriir, mc_rriri, mc_rrirr, mc_rrrii, mc_rrrir, mc_rrrri, mc_rrrrr, zl_4, cz_4, y_mN, w, k, r]
def wkR1 (R : Nat → Nat → Option Nat) : Nat → Nat → Option Nat := r2 (r2 (r2 (r2 R 4 0 (some 5)) 4 1 (some 6)) 4 2 (some 7)) 4 3 (some 8)
def wkI (I : Nat → Nat → Int32) : Nat → Nat → Int32 := mlI (pnI 9 I 4) 4
def wkR (R : Nat → Nat → Option Nat) : Nat → Nat → Option Nat := mlsR (arR 6 13 (arR 5 9 (wkR1 R) 4) 4) 4
theorem wkR1_off {R : Nat → Nat → Option Nat} {x j : Nat} (h : x ≠ 4) : wkR1 R x j = R x j := by
  unfold wkR1
  rw [r2_off h, r2_off h, r2_off h, r2_off h]
theorem n32 {d : Nat} {b : mM} {Z : Nat} {I : Nat → Nat → Int32} {R : Nat → Nat → Option Nat} (fr : Fr I R 4) : ev (d + 2) 32 0 [some (.ref 4), none] [] (yM b 5 Z I R) = some (none, yM b 89 (Z + 16 + 16 + 12 + 372) (wkI I) (wkR R)) := by
  have f5 : Fr I R 5 := fr.up (by omega)
  have s0 : ev (d + 2) 32 0 [some (.ref 4), none] [] (yM b 5 Z I R) = ev (d + 2) 32 4 [some (.ref 4), none] [] (yM b 5 Z I R) := by
    simp only [e_32_0, e_32_1, cV_some, tl_some, tl_none, mZO_0, mZO_1, mL1_n, mL1_i, mL1_r, oB_some, List.cons_append, List.nil_append, mK_wI, mL_wI, mN_wI, mR_wI, mJ_wI, mK_wJ, mL_wJ, mI_wJ, mR_wJ, mK_wR, mL_wR, mI_wR, mJ_wR, bI_0, bI_n0, if_true, if_false, Nat.reduceLeDiff, Nat.reduceAdd, ite_not, reduceIte, not_false_eq_true, not_true_eq_false, true_and, and_true, and_self, or_false, false_or, or_true, true_or, Nat.reduceEqDiff, Nat.reduceLT, Nat.zero_le, Nat.add_zero, eq_self, false_and, and_false, mc_, mc_i, mc_r, mc_l, mc_ii, mc_ir, mc_il, mc_ri, mc_rr, mc_rl, mc_li, mc_lr, mc_ll, mc_iii, mc_iir, mc_iil, mc_iri, mc_irr, mc_irl, mc_ili, mc_ilr, mc_ill, mc_rii, mc_rir, mc_ril, mc_rri, mc_rrr, mc_rrl, mc_rli, mc_rlr, mc_rll, mc_lii, mc_lir, mc_lil, mc_lri, mc_lrr, mc_lrl, mc_lli, mc_llr, mc_lll, mc_iiii, mc_iiir, mc_iiri, mc_iirr, mc_irii, mc_irir, mc_irri, mc_irrr, mc_riii, mc_riir, mc_riri, mc_rirr, mc_rrii, mc_rrir, mc_rrri, mc_rrrr, mc_iiiii, mc_iiiir, mc_iiiri, mc_iiirr, mc_iirii, mc_iirir, mc_iirri, mc_iirrr, mc_iriii, mc_iriir, mc_iriri, mc_irirr, mc_irrii, mc_irrir, mc_irrri, mc_irrrr, mc_riiii, mc_riiir, mc_riiri, mc_riirr, mc_ririi, mc_ririr, mc_rirri, mc_rirrr, mc_rriii, mc_rriir, mc_rriri, mc_rrirr, mc_rrrii, mc_rrrir, mc_rrrri, mc_rrrrr]
  rw [s0, a32_4 f5, a32_12 (Fr.r (f5.up (by omega)) (by omega)), a32_20 (Fr.r (Fr.r (f5.up (by omega)) (by omega)) (by omega)), a32_28 (Fr.r (Fr.r (Fr.r (f5.up (by omega)) (by omega)) (by omega)) (by omega))]
  have f9 : Fr I (wkR1 R) 9 := Fr.r (Fr.r (Fr.r (Fr.r (f5.up (by omega)) (by omega)) (by omega)) (by omega)) (by omega)
  have k4 : ∀ Z, mK (yM b 9 Z I (wkR1 R)) 4 = 8 := fun Z => by rw [y_mK (by decide) (by decide) (by rw [TT_4]; decide), TT_4]
  have wz : ∀ Z j, wI (yM b 9 Z I (wkR1 R)) 4 j 0 = yM b 9 Z I (wkR1 R) := fun Z j => y_wI0 (by decide) (by decide) (fr 4 (Nat.le_refl _) j).1
  have s1 : ∀ Z, ev (d + 2) 32 35 [some (.ref 4), none] [] (yM b 9 Z I (wkR1 R)) = ev (d + 2) 32 52 [some (.ref 4), some (.int 0)] [] (yM b 9 Z I (wkR1 R)) := fun Z => by
    simp only [e_32_35, e_32_36, e_32_37, e_32_40, e_32_41, e_32_42, e_32_45, e_32_46, e_32_47, e_32_50, e_32_51, cV_some, tl_some, tl_none, mZO_0, mZO_1, mL1_n, mL1_i, mL1_r, oB_some, List.cons_append, List.nil_append, mK_wI, mL_wI, mN_wI, mR_wI, mJ_wI, mK_wJ, mL_wJ, mI_wJ, mR_wJ, mK_wR, mL_wR, mI_wR, mJ_wR, bI_0, bI_n0, if_true, if_false, Nat.reduceLeDiff, Nat.reduceAdd, ite_not, reduceIte, not_false_eq_true, not_true_eq_false, true_and, and_true, and_self, or_false, false_or, or_true, true_or, Nat.reduceEqDiff, Nat.reduceLT, Nat.zero_le, Nat.add_zero, eq_self, false_and, and_false, mc_, mc_i, mc_r, mc_l, mc_ii, mc_ir, mc_il, mc_ri, mc_rr, mc_rl, mc_li, mc_lr, mc_ll, mc_iii, mc_iir, mc_iil, mc_iri, mc_irr, mc_irl, mc_ili, mc_ilr, mc_ill, mc_rii, mc_rir, mc_ril, mc_rri, mc_rrr, mc_rrl, mc_rli, mc_rlr, mc_rll, mc_lii, mc_lir, mc_lil, mc_lri, mc_lrr, mc_lrl, mc_lli, mc_llr, mc_lll, mc_iiii, mc_iiir, mc_iiri, mc_iirr, mc_irii, mc_irir, mc_irri, mc_irrr, mc_riii, mc_riir, mc_riri, mc_rirr, mc_rrii, mc_rrir, mc_rrri, mc_rrrr, mc_iiiii, mc_iiiir, mc_iiiri, mc_iiirr, mc_iirii, mc_iirir, mc_iirri, mc_iirrr, mc_iriii, mc_iriir, mc_iriri, mc_irirr, mc_irrii, mc_irrir, mc_irrri, mc_irrrr, mc_riiii, mc_riiir, mc_riiri, mc_riirr, mc_ririi, mc_ririr, mc_rirri, mc_rirrr, mc_rriii, mc_rriir, mc_rriri, mc_rrirr, mc_rrrii, mc_rrrir, mc_rrrri, mc_rrrrr, k4, wz]
  have la := l32a (d := d + 1) (b := b) (Z := Z + 16) (I := I) (R := wkR1 R) TT_4 TT_5 (by decide) rfl f9 4 0 (by omega)
  have f13 : Fr (pnI 9 I 4) (arR 5 9 (wkR1 R) 4) 13 := fun x hx j => by
    rw [pnI_off 4 (by omega), arR_off (by omega)]
    exact f9 x (by omega) j
  have lb := l32b (d := d + 1) (b := b) (Z := Z + 16 + 16) (I := pnI 9 I 4) (R := arR 5 9 (wkR1 R) 4) TT_4 TT_6 (by decide) (by rw [arR_off (by decide)]; rfl) f13 4 0 (by omega)
  have f17 : Fr (pnI 9 I 4) (arR 6 13 (arR 5 9 (wkR1 R) 4) 4) 17 := fun x hx j => by
    rw [arR_off (by omega)]
    exact f13 x (by omega) j
  have lc := l32c (d := d) (b := b) (Z := Z + 16 + 16 + 12) (I := pnI 9 I 4) (R := arR 6 13 (arR 5 9 (wkR1 R) 4) 4) (by rw [arR_off (by decide), arR_off (by decide)]; rfl) f17 4 0 (by omega)
  rw [nI_0] at la lb lc
  have e2 : ∀ h, ev (d + 2) 32 76 [some (.ref 4), some (.int (nI 4))] [] h = ev (d + 2) 32 78 [some (.ref 4), some (.int 0)] [] h := fun h => by
    simp only [e_32_76, e_32_77, cV_some, tl_some, tl_none, mZO_0, mZO_1, mL1_n, mL1_i, mL1_r, oB_some, List.cons_append, List.nil_append, mK_wI, mL_wI, mN_wI, mR_wI, mJ_wI, mK_wJ, mL_wJ, mI_wJ, mR_wJ, mK_wR, mL_wR, mI_wR, mJ_wR, bI_0, bI_n0, if_true, if_false, Nat.reduceLeDiff, Nat.reduceAdd, ite_not, reduceIte, not_false_eq_true, not_true_eq_false, true_and, and_true, and_self, or_false, false_or, or_true, true_or, Nat.reduceEqDiff, Nat.reduceLT, Nat.zero_le, Nat.add_zero, eq_self, false_and, and_false, mc_, mc_i, mc_r, mc_l, mc_ii, mc_ir, mc_il, mc_ri, mc_rr, mc_rl, mc_li, mc_lr, mc_ll, mc_iii, mc_iir, mc_iil, mc_iri, mc_irr, mc_irl, mc_ili, mc_ilr, mc_ill, mc_rii, mc_rir, mc_ril, mc_rri, mc_rrr, mc_rrl, mc_rli, mc_rlr, mc_rll, mc_lii, mc_lir, mc_lil, mc_lri, mc_lrr, mc_lrl, mc_lli, mc_llr, mc_lll, mc_iiii, mc_iiir, mc_iiri, mc_iirr, mc_irii, mc_irir, mc_irri, mc_irrr, mc_riii, mc_riir, mc_riri, mc_rirr, mc_rrii, mc_rrir, mc_rrri, mc_rrrr, mc_iiiii, mc_iiiir, mc_iiiri, mc_iiirr, mc_iirii, mc_iirir, mc_iirri, mc_iirrr, mc_iriii, mc_iriir, mc_iriri, mc_irirr, mc_irrii, mc_irrir, mc_irrri, mc_irrrr, mc_riiii, mc_riiir, mc_riiri, mc_riirr, mc_ririi, mc_ririr, mc_rirri, mc_rirrr, mc_rriii, mc_rriir, mc_rriri, mc_rrirr, mc_rrrii, mc_rrrir, mc_rrrri, mc_rrrrr]
  have e3 : ∀ h, ev (d + 2) 32 102 [some (.ref 4), some (.int (nI 4))] [] h = ev (d + 2) 32 104 [some (.ref 4), some (.int 0)] [] h := fun h => by
    simp only [e_32_102, e_32_103, cV_some, tl_some, tl_none, mZO_0, mZO_1, mL1_n, mL1_i, mL1_r, oB_some, List.cons_append, List.nil_append, mK_wI, mL_wI, mN_wI, mR_wI, mJ_wI, mK_wJ, mL_wJ, mI_wJ, mR_wJ, mK_wR, mL_wR, mI_wR, mJ_wR, bI_0, bI_n0, if_true, if_false, Nat.reduceLeDiff, Nat.reduceAdd, ite_not, reduceIte, not_false_eq_true, not_true_eq_false, true_and, and_true, and_self, or_false, false_or, or_true, true_or, Nat.reduceEqDiff, Nat.reduceLT, Nat.zero_le, Nat.add_zero, eq_self, false_and, and_false, mc_, mc_i, mc_r, mc_l, mc_ii, mc_ir, mc_il, mc_ri, mc_rr, mc_rl, mc_li, mc_lr, mc_ll, mc_iii, mc_iir, mc_iil, mc_iri, mc_irr, mc_irl, mc_ili, mc_ilr, mc_ill, mc_rii, mc_rir, mc_ril, mc_rri, mc_rrr, mc_rrl, mc_rli, mc_rlr, mc_rll, mc_lii, mc_lir, mc_lil, mc_lri, mc_lrr, mc_lrl, mc_lli, mc_llr, mc_lll, mc_iiii, mc_iiir, mc_iiri, mc_iirr, mc_irii, mc_irir, mc_irri, mc_irrr, mc_riii, mc_riir, mc_riri, mc_rirr, mc_rrii, mc_rrir, mc_rrri, mc_rrrr, mc_iiiii, mc_iiiir, mc_iiiri, mc_iiirr, mc_iirii, mc_iirir, mc_iirri, mc_iirrr, mc_iriii, mc_iriir, mc_iriri, mc_irirr, mc_irrii, mc_irrir, mc_irrri, mc_irrrr, mc_riiii, mc_riiir, mc_riiri, mc_riirr, mc_ririi, mc_ririr, mc_rirri, mc_rirrr, mc_rriii, mc_rriir, mc_rriri, mc_rrirr, mc_rrrii, mc_rrrir, mc_rrrri, mc_rrrrr]
  refine Eq.trans (s1 _) ?_
  refine Eq.trans la ?_
  rw [e2]
  refine Eq.trans lb ?_
  rw [e3]
  refine Eq.trans lc ?_
  rw [e_32_128]
  rfl
theorem wkI_off {I : Nat → Nat → Int32} {x j : Nat} (h : x < 9 ∨ 89 ≤ x) : wkI I x j = I x j := by
  unfold wkI
  rw [mlI_off 4 (by omega), pnI_off 4 (by omega)]
theorem wkR_off {R : Nat → Nat → Option Nat} {x j : Nat} (h : x < 4 ∨ 89 ≤ x) : wkR R x j = R x j := by
  unfold wkR
  rw [mlsR_off (by omega) 4 (by omega), arR_off (by omega), arR_off (by omega), wkR1_off (by omega)]
theorem n1 {d : Nat} {b : mM} {N Z a w : Nat} {I : Nat → Nat → Int32} {R : Nat → Nat → Option Nat} (h0 : 0 < a) (h1 : a < N) (hT : TT a = (1, 6)) (hN : TT N = (11, 12)) (fr : Fr I R a) : ev d 1 0 [some (.ref a), some (.ref w)] [] (yM b N Z I R) = some (none, yM b (N + 1) (Z + 12) I (r2 (r2 R a 1 (some N)) a 0 (some w))) := by
  have k : ∀ R, mK (yM b (N + 1) (Z + 12) I R) a = 1 := fun R => by rw [y_mK h0 (by omega) (by rw [hT]; decide), hT]
  have ww : wN (yM b N Z I R) 11 12 = yM b (N + 1) (Z + 12) I R := y_wN (by omega) hN (fr.up (by omega))
  have wz : ∀ R j, wI (yM b (N + 1) (Z + 12) I R) a j 0 = yM b (N + 1) (Z + 12) I R := fun R j => y_wI0 h0 (by omega) (fr a (Nat.le_refl _) j).1
  have wr : ∀ R j v, wR (yM b (N + 1) (Z + 12) I R) a j v = yM b (N + 1) (Z + 12) I (r2 R a j v) := fun R j v => y_wR h0 (by omega)
  simp only [e_1_0, e_1_1, e_1_4, e_1_5, e_1_7, e_1_9, e_1_12, e_1_13, e_1_14, e_1_17, e_1_18, e_1_19, e_1_22, e_1_23, e_1_24, e_1_27, e_1_28, e_1_29, e_1_32, e_1_33, e_1_34, e_1_37, cV_some, tl_some, tl_none, mZO_0, mZO_1, mL1_n, mL1_i, mL1_r, oB_some, List.cons_append, List.nil_append, mK_wI, mL_wI, mN_wI, mR_wI, mJ_wI, mK_wJ, mL_wJ, mI_wJ, mR_wJ, mK_wR, mL_wR, mI_wR, mJ_wR, bI_0, bI_n0, if_true, if_false, Nat.reduceLeDiff, Nat.reduceAdd, ite_not, reduceIte, not_false_eq_true, not_true_eq_false, true_and, and_true, and_self, or_false, false_or, or_true, true_or, Nat.reduceEqDiff, Nat.reduceLT, Nat.zero_le, Nat.add_zero, eq_self, false_and, and_false, mc_, mc_i, mc_r, mc_l, mc_ii, mc_ir, mc_il, mc_ri, mc_rr, mc_rl, mc_li, mc_lr, mc_ll, mc_iii, mc_iir, mc_iil, mc_iri, mc_irr, mc_irl, mc_ili, mc_ilr, mc_ill, mc_rii, mc_rir, mc_ril, mc_rri, mc_rrr, mc_rrl, mc_rli, mc_rlr, mc_rll, mc_lii, mc_lir, mc_lil, mc_lri, mc_lrr, mc_lrl, mc_lli, mc_llr, mc_lll, mc_iiii, mc_iiir, mc_iiri, mc_iirr, mc_irii, mc_irir, mc_irri, mc_irrr, mc_riii, mc_riir, mc_riri, mc_rirr, mc_rrii, mc_rrir, mc_rrri, mc_rrrr, mc_iiiii, mc_iiiir, mc_iiiri, mc_iiirr, mc_iirii, mc_iirir, mc_iirri, mc_iirrr, mc_iriii, mc_iriir, mc_iriri, mc_irirr, mc_irrii, mc_irrir, mc_irrri, mc_irrrr, mc_riiii, mc_riiir, mc_riiri, mc_riirr, mc_ririi, mc_ririr, mc_rirri, mc_rirrr, mc_rriii, mc_rriir, mc_rriri, mc_rrirr, mc_rrrii, mc_rrrir, mc_rrrri, mc_rrrrr, zl_12, cz_12, y_mN, k, ww, wz, wr]
def gB (b : mM) (N : Nat) : mM := (b.1, b.2.1, b.2.2.1, fun a k => if N ≤ a then 0 else b.2.2.2.1 a k, fun a k => if N ≤ a then 0 else b.2.2.2.2.1 a k, fun a k => if N ≤ a then none else b.2.2.2.2.2 a k)
def grR (R : Nat → Nat → Option Nat) : Nat → Nat → Option Nat := fun a k => if a = 92 then (if k < 9 then some (92 + 1 + k) else none) else R a k
theorem tg_92 : ∀ a, 92 < a → a < 102 → TT a = (11, 4) := by
  intro a h1 h2
  have e : a = 93 + (a - 93) := by omega
  rw [e]
  exact (by decide : ∀ i, i < 9 → TT (93 + i) = (11, 4)) (a - 93) (by omega)
theorem y_grid {b : mM} {Z : Nat} {I : Nat → Nat → Int32} {R : Nat → Nat → Option Nat} (fr : Fr I R 92) : wGrid (yM b 92 Z I R) 9 4 = yM (gB b 92) 102 (Z + 9 + 9 * 4) I (grR R) := by
  refine y_ext (fun a => ?_) (fun a k => ?_) (fun a k => ?_) (fun a k => ?_)
  · show (if a = 92 then (18, 9) else if 92 < a ∧ a < 92 + 1 + 9 then (11, 4) else if 0 < a ∧ a < 92 then TT a else _) = if 0 < a ∧ a < 102 then TT a else _
    by_cases c : a = 92
    · rw [if_pos c, if_pos (by omega), c, TT_92]
    · rw [if_neg c]
      by_cases c2 : 92 < a ∧ a < 92 + 1 + 9
      · rw [if_pos c2, if_pos (by omega), tg_92 a (by omega) (by omega)]
      · rw [if_neg c2]
        by_cases c3 : 0 < a ∧ a < 92
        · rw [if_pos c3, if_pos (by omega)]
        · rw [if_neg c3, if_neg (by omega)]; rfl
  · show (if 92 ≤ a then 0 else if 0 < a ∧ a < 92 then I a k else _) = if 0 < a ∧ a < 102 then I a k else (if 92 ≤ a then 0 else _)
    by_cases c : 92 ≤ a
    · rw [if_pos c, if_pos c, (fr a c k).1]
      split <;> rfl
    · rw [if_neg c, if_neg c]
      by_cases c3 : 0 < a ∧ a < 92
      · rw [if_pos c3, if_pos (by omega)]
      · rw [if_neg c3, if_neg (by omega)]
  · show (if 92 ≤ a then 0 else if 0 < a ∧ a < 92 then (0 : Int64) else _) = if 0 < a ∧ a < 102 then 0 else (if 92 ≤ a then 0 else _)
    by_cases c : 92 ≤ a
    · rw [if_pos c, if_pos c]
      split <;> rfl
    · rw [if_neg c, if_neg c]
      by_cases c3 : 0 < a ∧ a < 92
      · rw [if_pos c3, if_pos (by omega)]
      · rw [if_neg c3, if_neg (by omega)]
  · show (if a = 92 then (if k < 9 then some (92 + 1 + k) else none) else if 92 < a then none else if 0 < a ∧ a < 92 then R a k else _) = if 0 < a ∧ a < 102 then (if a = 92 then (if k < 9 then some (92 + 1 + k) else none) else R a k) else (if 92 ≤ a then none else _)
    by_cases c : a = 92
    · subst c
      rw [if_pos rfl, if_pos (show 0 < 92 ∧ 92 < 102 by decide), if_pos rfl]
    · rw [if_neg c, if_neg c]
      by_cases c2 : 92 < a
      · rw [if_pos c2, if_pos (show 92 ≤ a by omega), (fr a (by omega) k).2]
        split <;> rfl
      · rw [if_neg c2, if_neg (show ¬ 92 ≤ a by omega)]
        by_cases c3 : 0 < a ∧ a < 92
        · rw [if_pos c3, if_pos (by omega)]
        · rw [if_neg c3, if_neg (by omega)]
theorem grR_off {R : Nat → Nat → Option Nat} {x j : Nat} (h : x ≠ 92) : grR R x j = R x j := if_neg h
def srR (R : Nat → Nat → Option Nat) : Nat → Nat → Option Nat := r2 (r2 (r2 (r2 (r2 (grR R) 91 2 (some 92)) 102 1 (some 103)) 102 0 (some 4)) 91 0 (some 102)) 91 1 (some 2)
theorem n21 {d : Nat} {b : mM} {Z : Nat} {I : Nat → Nat → Int32} {R : Nat → Nat → Option Nat} (fr : Fr I R 91) : ev (d + 1) 21 0 [some (.ref 91), some (.ref 4), some (.ref 2)] [] (yM b 92 Z I R) = some (none, yM (gB b 92) 104 (Z + 9 + 9 * 4 + 6 + 12) I (srR R)) := by
  have k2 : ∀ Z R, mK (yM (gB b 92) 102 Z I R) 91 = 5 := fun Z R => by rw [y_mK (by decide) (by decide) (by rw [TT_91]; decide), TT_91]
  have k3 : ∀ Z R, mK (yM (gB b 92) 104 Z I R) 91 = 5 := fun Z R => by rw [y_mK (by decide) (by decide) (by rw [TT_91]; decide), TT_91]
  have gr := y_grid (b := b) (Z := Z) (fr.up (show 91 ≤ 92 by omega))
  have wr1 : ∀ Z R j v, wR (yM (gB b 92) 102 Z I R) 91 j v = yM (gB b 92) 102 Z I (r2 R 91 j v) := fun Z R j v => y_wR (by decide) (by decide)
  have wr2 : ∀ Z R j v, wR (yM (gB b 92) 104 Z I R) 91 j v = yM (gB b 92) 104 Z I (r2 R 91 j v) := fun Z R j v => y_wR (by decide) (by decide)
  have wz : ∀ Z R j, wI (yM (gB b 92) 102 Z I R) 91 j 0 = yM (gB b 92) 102 Z I R := fun Z R j => y_wI0 (by decide) (by decide) (fr 91 (Nat.le_refl _) j).1
  have f102 : Fr I (r2 (grR R) 91 2 (some 92)) 102 := fun x hx j => by
    rw [r2_off (by omega), grR_off (by omega)]
    exact fr x (by omega) j
  have w : wN (yM (gB b 92) 102 (Z + 9 + 9 * 4) I (r2 (grR R) 91 2 (some 92))) 1 6 = yM (gB b 92) 103 (Z + 9 + 9 * 4 + 6) I (r2 (grR R) 91 2 (some 92)) := y_wN (by decide) TT_102 f102
  have c := n1 (d := d) (b := gB b 92) (N := 103) (Z := Z + 9 + 9 * 4 + 6) (a := 102) (w := 4) (I := I) (R := r2 (grR R) 91 2 (some 92)) (by decide) (by decide) TT_102 TT_103 f102
  simp only [e_21_0, e_21_1, e_21_4, e_21_5, e_21_7, e_21_8, e_21_12, e_21_15, e_21_16, e_21_17, e_21_20, e_21_21, e_21_22, e_21_25, e_21_26, e_21_27, e_21_30, e_21_31, e_21_32, e_21_35, e_21_36, e_21_37, e_21_40, e_21_41, e_21_44r, e_21_44i, e_21_45, e_21_46, e_21_49, e_21_52, e_21_53, e_21_54, e_21_57, cV_some, tl_some, tl_none, mZO_0, mZO_1, mL1_n, mL1_i, mL1_r, oB_some, List.cons_append, List.nil_append, mK_wI, mL_wI, mN_wI, mR_wI, mJ_wI, mK_wJ, mL_wJ, mI_wJ, mR_wJ, mK_wR, mL_wR, mI_wR, mJ_wR, bI_0, bI_n0, if_true, if_false, Nat.reduceLeDiff, Nat.reduceAdd, ite_not, reduceIte, not_false_eq_true, not_true_eq_false, true_and, and_true, and_self, or_false, false_or, or_true, true_or, Nat.reduceEqDiff, Nat.reduceLT, Nat.zero_le, Nat.add_zero, eq_self, false_and, and_false, mc_, mc_i, mc_r, mc_l, mc_ii, mc_ir, mc_il, mc_ri, mc_rr, mc_rl, mc_li, mc_lr, mc_ll, mc_iii, mc_iir, mc_iil, mc_iri, mc_irr, mc_irl, mc_ili, mc_ilr, mc_ill, mc_rii, mc_rir, mc_ril, mc_rri, mc_rrr, mc_rrl, mc_rli, mc_rlr, mc_rll, mc_lii, mc_lir, mc_lil, mc_lri, mc_lrr, mc_lrl, mc_lli, mc_llr, mc_lll, mc_iiii, mc_iiir, mc_iiri, mc_iirr, mc_irii, mc_irir, mc_irri, mc_irrr, mc_riii, mc_riir, mc_riri, mc_rirr, mc_rrii, mc_rrir, mc_rrri, mc_rrrr, mc_iiiii, mc_iiiir, mc_iiiri, mc_iiirr, mc_iirii, mc_iirir, mc_iirri, mc_iirrr, mc_iriii, mc_iriir, mc_iriri, mc_irirr, mc_irrii, mc_irrir, mc_irrri, mc_irrrr, mc_riiii, mc_riiir, mc_riiri, mc_riirr, mc_ririi, mc_ririr, mc_rirri, mc_rirrr, mc_rriii, mc_rriir, mc_rriri, mc_rrirr, mc_rrrii, mc_rrrir, mc_rrrri, mc_rrrrr, zl_9, cz_9, zl_4, cz_4, Nat.reduceMul, y_mN] at gr w c ⊢
  simp only [gr, k2, k3, wr1, wr2, wz, w, c, e_21_0, e_21_1, e_21_4, e_21_5, e_21_7, e_21_8, e_21_12, e_21_15, e_21_16, e_21_17, e_21_20, e_21_21, e_21_22, e_21_25, e_21_26, e_21_27, e_21_30, e_21_31, e_21_32, e_21_35, e_21_36, e_21_37, e_21_40, e_21_41, e_21_44r, e_21_44i, e_21_45, e_21_46, e_21_49, e_21_52, e_21_53, e_21_54, e_21_57, cV_some, tl_some, tl_none, mZO_0, mZO_1, mL1_n, mL1_i, mL1_r, oB_some, List.cons_append, List.nil_append, mK_wI, mL_wI, mN_wI, mR_wI, mJ_wI, mK_wJ, mL_wJ, mI_wJ, mR_wJ, mK_wR, mL_wR, mI_wR, mJ_wR, bI_0, bI_n0, if_true, if_false, Nat.reduceLeDiff, Nat.reduceAdd, ite_not, reduceIte, not_false_eq_true, not_true_eq_false, true_and, and_true, and_self, or_false, false_or, or_true, true_or, Nat.reduceEqDiff, Nat.reduceLT, Nat.zero_le, Nat.add_zero, eq_self, false_and, and_false, mc_, mc_i, mc_r, mc_l, mc_ii, mc_ir, mc_il, mc_ri, mc_rr, mc_rl, mc_li, mc_lr, mc_ll, mc_iii, mc_iir, mc_iil, mc_iri, mc_irr, mc_irl, mc_ili, mc_ilr, mc_ill, mc_rii, mc_rir, mc_ril, mc_rri, mc_rrr, mc_rrl, mc_rli, mc_rlr, mc_rll, mc_lii, mc_lir, mc_lil, mc_lri, mc_lrr, mc_lrl, mc_lli, mc_llr, mc_lll, mc_iiii, mc_iiir, mc_iiri, mc_iirr, mc_irii, mc_irir, mc_irri, mc_irrr, mc_riii, mc_riir, mc_riri, mc_rirr, mc_rrii, mc_rrir, mc_rrri, mc_rrrr, mc_iiiii, mc_iiiir, mc_iiiri, mc_iiirr, mc_iirii, mc_iirir, mc_iirri, mc_iirrr, mc_iriii, mc_iriir, mc_iriri, mc_irirr, mc_irrii, mc_irrir, mc_irrri, mc_irrrr, mc_riiii, mc_riiir, mc_riiri, mc_riirr, mc_ririi, mc_ririr, mc_rirri, mc_rirrr, mc_rriii, mc_rriir, mc_rriri, mc_rrirr, mc_rrrii, mc_rrrir, mc_rrrri, mc_rrrrr, y_mN]
  rfl
def hv (x : Int32) : Int32 := if (0 : Int32) < 100 - 10 * (if 0 ≤ x - 6 then x - 6 else 0 - (x - 6)) then 100 - 10 * (if 0 ≤ x - 6 then x - 6 else 0 - (x - 6)) else 0
def htI (arr : Nat) (I : Nat → Nat → Int32) : Nat → Nat → Nat → Int32
  | 0 => I
  | i + 1 => u2 (htI arr I i) arr i (hv (nI i))
theorem htI_off {arr x j : Nat} {I : Nat → Nat → Int32} (h : x ≠ arr) : ∀ (i : Nat), htI arr I i x j = I x j
  | 0 => rfl
  | i + 1 => by
    show u2 (htI arr I i) arr i (hv (nI i)) x j = _
    rw [u2_off h, htI_off h i]
theorem l30 {d : Nat} {b : mM} {Z : Nat} {I : Nat → Nat → Int32} {R : Nat → Nat → Option Nat} (hR : R 2 0 = some 3) : ∀ (k i : Nat), i + k = 24 → ev d 30 20 [some (.ref 2), some (.int (nI i))] [] (yM b 4 Z (htI 3 I i) R) = some (none, yM b 4 Z (htI 3 I 24) R)
  | 0, i, hk => by
    have e : i = 24 := by omega
    subst e
    have hc : (24 : Int32) ≤ nI 24 := by decide
    rw [e_30_20]
    simp only [e_30_0, e_30_1, e_30_4, e_30_5, e_30_7, e_30_9, e_30_12, e_30_13, e_30_15, e_30_18, e_30_19, e_30_21, e_30_23, e_30_26, e_30_27, e_30_30, e_30_31, e_30_32, e_30_34, e_30_36, e_30_37, e_30_39, e_30_40, e_30_43, e_30_44, e_30_45, e_30_48, e_30_49, e_30_52, e_30_55, cV_some, tl_some, tl_none, mZO_0, mZO_1, mL1_n, mL1_i, mL1_r, oB_some, List.cons_append, List.nil_append, mK_wI, mL_wI, mN_wI, mR_wI, mJ_wI, mK_wJ, mL_wJ, mI_wJ, mR_wJ, mK_wR, mL_wR, mI_wR, mJ_wR, bI_0, bI_n0, if_true, if_false, Nat.reduceLeDiff, Nat.reduceAdd, ite_not, reduceIte, not_false_eq_true, not_true_eq_false, true_and, and_true, and_self, or_false, false_or, or_true, true_or, Nat.reduceEqDiff, Nat.reduceLT, Nat.zero_le, Nat.add_zero, eq_self, false_and, and_false, mc_, mc_i, mc_r, mc_l, mc_ii, mc_ir, mc_il, mc_ri, mc_rr, mc_rl, mc_li, mc_lr, mc_ll, mc_iii, mc_iir, mc_iil, mc_iri, mc_irr, mc_irl, mc_ili, mc_ilr, mc_ill, mc_rii, mc_rir, mc_ril, mc_rri, mc_rrr, mc_rrl, mc_rli, mc_rlr, mc_rll, mc_lii, mc_lir, mc_lil, mc_lri, mc_lrr, mc_lrl, mc_lli, mc_llr, mc_lll, mc_iiii, mc_iiir, mc_iiri, mc_iirr, mc_irii, mc_irir, mc_irri, mc_irrr, mc_riii, mc_riir, mc_riri, mc_rirr, mc_rrii, mc_rrir, mc_rrri, mc_rrrr, mc_iiiii, mc_iiiir, mc_iiiri, mc_iiirr, mc_iirii, mc_iirir, mc_iirri, mc_iirrr, mc_iriii, mc_iriir, mc_iriri, mc_irirr, mc_irrii, mc_irrir, mc_irrri, mc_irrrr, mc_riiii, mc_riiir, mc_riiri, mc_riirr, mc_ririi, mc_ririr, mc_rirri, mc_rirrr, mc_rriii, mc_rriir, mc_rriri, mc_rrirr, mc_rrrii, mc_rrrir, mc_rrrri, mc_rrrrr, hc]
  | k + 1, i, hk => by
    have hc : ¬ (24 : Int32) ≤ nI i := nI_ge (b := 24) (by omega) (by omega)
    have kO : mK (yM b 4 Z (htI 3 I i) R) 2 = 7 := by rw [y_mK (by decide) (by decide) (by rw [TT_2]; decide), TT_2]
    have kA : mK (yM b 4 Z (htI 3 I i) R) 3 = 11 := by rw [y_mK (by decide) (by decide) (by rw [TT_3]; decide), TT_3]
    have lA : mL (yM b 4 Z (htI 3 I i) R) 3 = 24 := by rw [y_mL (by decide) (by decide), TT_3]
    have rr : mR (yM b 4 Z (htI 3 I i) R) 2 0 = some 3 := by rw [y_mR (by decide) (by decide)]; exact hR
    have w : ∀ v, wI (yM b 4 Z (htI 3 I i) R) 3 i v = yM b 4 Z (u2 (htI 3 I i) 3 i v) R := fun v => y_wI (by decide) (by decide)
    have ih := l30 (d := d) (b := b) (Z := Z) (I := I) hR k (i + 1) (by omega)
    refine Eq.trans ?_ ih
    rw [e_30_20]
    simp only [e_30_0, e_30_1, e_30_4, e_30_5, e_30_7, e_30_9, e_30_12, e_30_13, e_30_15, e_30_18, e_30_19, e_30_21, e_30_23, e_30_26, e_30_27, e_30_30, e_30_31, e_30_32, e_30_34, e_30_36, e_30_37, e_30_39, e_30_40, e_30_43, e_30_44, e_30_45, e_30_48, e_30_49, e_30_52, e_30_55, cV_some, tl_some, tl_none, mZO_0, mZO_1, mL1_n, mL1_i, mL1_r, oB_some, List.cons_append, List.nil_append, mK_wI, mL_wI, mN_wI, mR_wI, mJ_wI, mK_wJ, mL_wJ, mI_wJ, mR_wJ, mK_wR, mL_wR, mI_wR, mJ_wR, bI_0, bI_n0, if_true, if_false, Nat.reduceLeDiff, Nat.reduceAdd, ite_not, reduceIte, not_false_eq_true, not_true_eq_false, true_and, and_true, and_self, or_false, false_or, or_true, true_or, Nat.reduceEqDiff, Nat.reduceLT, Nat.zero_le, Nat.add_zero, eq_self, false_and, and_false, mc_, mc_i, mc_r, mc_l, mc_ii, mc_ir, mc_il, mc_ri, mc_rr, mc_rl, mc_li, mc_lr, mc_ll, mc_iii, mc_iir, mc_iil, mc_iri, mc_irr, mc_irl, mc_ili, mc_ilr, mc_ill, mc_rii, mc_rir, mc_ril, mc_rri, mc_rrr, mc_rrl, mc_rli, mc_rlr, mc_rll, mc_lii, mc_lir, mc_lil, mc_lri, mc_lrr, mc_lrl, mc_lli, mc_llr, mc_lll, mc_iiii, mc_iiir, mc_iiri, mc_iirr, mc_irii, mc_irir, mc_irri, mc_irrr, mc_riii, mc_riir, mc_riri, mc_rirr, mc_rrii, mc_rrir, mc_rrri, mc_rrrr, mc_iiiii, mc_iiiir, mc_iiiri, mc_iiirr, mc_iirii, mc_iirir, mc_iirri, mc_iirrr, mc_iriii, mc_iriir, mc_iriri, mc_irirr, mc_irrii, mc_irrir, mc_irrri, mc_irrrr, mc_riiii, mc_riiir, mc_riiri, mc_riirr, mc_ririi, mc_ririr, mc_rirri, mc_rirrr, mc_rriii, mc_rriir, mc_rriri, mc_rrirr, mc_rrrii, mc_rrrir, mc_rrrri, mc_rrrrr, hc, kO, kA, lA, rr, w, ixN (show i < 24 by omega) (by omega), cl (show i < 2 ^ 31 by omega), nI_1]
    rfl
theorem l78 {d : Nat} {b : mM} {Z : Nat} {I : Nat → Nat → Int32} {R : Nat → Nat → Option Nat} (hR : R 109 2 = some 110) : ∀ (k i : Nat), i + k = 24 → ev d 78 219 [some (.ref 109), some (.int (nI i))] [] (yM b 138 Z (htI 110 I i) R) = some (none, yM b 138 Z (htI 110 I 24) R)
  | 0, i, hk => by
    have e : i = 24 := by omega
    subst e
    have hc : (24 : Int32) ≤ nI 24 := by decide
    rw [e_78_219]
    simp only [e_78_0, e_78_1, e_78_4, e_78_5, e_78_7, e_78_10, e_78_11, e_78_13, e_78_15, e_78_18, e_78_19, e_78_20, e_78_22, e_78_25, e_78_26, e_78_27, e_78_29, e_78_32, e_78_33, e_78_34, e_78_36, e_78_39, e_78_40, e_78_41, e_78_43, e_78_46, e_78_47, e_78_48, e_78_50, e_78_53, e_78_54, e_78_55, e_78_57, e_78_60, e_78_61, e_78_62, e_78_64, e_78_67, e_78_68, e_78_69, e_78_71, e_78_74, e_78_75, e_78_76, e_78_78, e_78_81, e_78_82, e_78_83, e_78_85, e_78_88, e_78_89, e_78_90, e_78_92, e_78_95, e_78_96, e_78_97, e_78_99, e_78_102, e_78_103, e_78_104, e_78_106, e_78_109, e_78_110, e_78_111, e_78_113, e_78_116, e_78_117, e_78_119, e_78_121, e_78_124, e_78_125, e_78_127, e_78_129, e_78_132, e_78_133, e_78_135, e_78_137, e_78_140, e_78_141, e_78_143, e_78_145, e_78_148, e_78_149, e_78_150, e_78_152, e_78_155, e_78_156, e_78_159, e_78_161, e_78_164, e_78_165, e_78_167, e_78_169, e_78_172, e_78_173, e_78_175, e_78_177, e_78_180, e_78_181, e_78_182, e_78_184, e_78_187, e_78_188, e_78_190, e_78_192, e_78_195, e_78_196, e_78_198, e_78_200, e_78_203, e_78_204, e_78_205, e_78_207, e_78_210, e_78_211, e_78_212, e_78_214, e_78_217, e_78_218, e_78_220, e_78_222, e_78_225, e_78_226, e_78_229, e_78_230, e_78_231, e_78_233, e_78_235, e_78_236, e_78_238, e_78_239, e_78_242, e_78_243, e_78_244, e_78_247, e_78_248, e_78_251, e_78_254, cV_some, tl_some, tl_none, mZO_0, mZO_1, mL1_n, mL1_i, mL1_r, oB_some, List.cons_append, List.nil_append, mK_wI, mL_wI, mN_wI, mR_wI, mJ_wI, mK_wJ, mL_wJ, mI_wJ, mR_wJ, mK_wR, mL_wR, mI_wR, mJ_wR, bI_0, bI_n0, if_true, if_false, Nat.reduceLeDiff, Nat.reduceAdd, ite_not, reduceIte, not_false_eq_true, not_true_eq_false, true_and, and_true, and_self, or_false, false_or, or_true, true_or, Nat.reduceEqDiff, Nat.reduceLT, Nat.zero_le, Nat.add_zero, eq_self, false_and, and_false, mc_, mc_i, mc_r, mc_l, mc_ii, mc_ir, mc_il, mc_ri, mc_rr, mc_rl, mc_li, mc_lr, mc_ll, mc_iii, mc_iir, mc_iil, mc_iri, mc_irr, mc_irl, mc_ili, mc_ilr, mc_ill, mc_rii, mc_rir, mc_ril, mc_rri, mc_rrr, mc_rrl, mc_rli, mc_rlr, mc_rll, mc_lii, mc_lir, mc_lil, mc_lri, mc_lrr, mc_lrl, mc_lli, mc_llr, mc_lll, mc_iiii, mc_iiir, mc_iiri, mc_iirr, mc_irii, mc_irir, mc_irri, mc_irrr, mc_riii, mc_riir, mc_riri, mc_rirr, mc_rrii, mc_rrir, mc_rrri, mc_rrrr, mc_iiiii, mc_iiiir, mc_iiiri, mc_iiirr, mc_iirii, mc_iirir, mc_iirri, mc_iirrr, mc_iriii, mc_iriir, mc_iriri, mc_irirr, mc_irrii, mc_irrir, mc_irrri, mc_irrrr, mc_riiii, mc_riiir, mc_riiri, mc_riirr, mc_ririi, mc_ririr, mc_rirri, mc_rirrr, mc_rriii, mc_rriir, mc_rriri, mc_rrirr, mc_rrrii, mc_rrrir, mc_rrrri, mc_rrrrr, hc]
  | k + 1, i, hk => by
    have hc : ¬ (24 : Int32) ≤ nI i := nI_ge (b := 24) (by omega) (by omega)
    have kO : mK (yM b 138 Z (htI 110 I i) R) 109 = 10 := by rw [y_mK (by decide) (by decide) (by rw [TT_109]; decide), TT_109]
    have kA : mK (yM b 138 Z (htI 110 I i) R) 110 = 11 := by rw [y_mK (by decide) (by decide) (by rw [TT_110]; decide), TT_110]
    have lA : mL (yM b 138 Z (htI 110 I i) R) 110 = 24 := by rw [y_mL (by decide) (by decide), TT_110]
    have rr : mR (yM b 138 Z (htI 110 I i) R) 109 2 = some 110 := by rw [y_mR (by decide) (by decide)]; exact hR
    have w : ∀ v, wI (yM b 138 Z (htI 110 I i) R) 110 i v = yM b 138 Z (u2 (htI 110 I i) 110 i v) R := fun v => y_wI (by decide) (by decide)
    have ih := l78 (d := d) (b := b) (Z := Z) (I := I) hR k (i + 1) (by omega)
    refine Eq.trans ?_ ih
    rw [e_78_219]
    simp only [e_78_0, e_78_1, e_78_4, e_78_5, e_78_7, e_78_10, e_78_11, e_78_13, e_78_15, e_78_18, e_78_19, e_78_20, e_78_22, e_78_25, e_78_26, e_78_27, e_78_29, e_78_32, e_78_33, e_78_34, e_78_36, e_78_39, e_78_40, e_78_41, e_78_43, e_78_46, e_78_47, e_78_48, e_78_50, e_78_53, e_78_54, e_78_55, e_78_57, e_78_60, e_78_61, e_78_62, e_78_64, e_78_67, e_78_68, e_78_69, e_78_71, e_78_74, e_78_75, e_78_76, e_78_78, e_78_81, e_78_82, e_78_83, e_78_85, e_78_88, e_78_89, e_78_90, e_78_92, e_78_95, e_78_96, e_78_97, e_78_99, e_78_102, e_78_103, e_78_104, e_78_106, e_78_109, e_78_110, e_78_111, e_78_113, e_78_116, e_78_117, e_78_119, e_78_121, e_78_124, e_78_125, e_78_127, e_78_129, e_78_132, e_78_133, e_78_135, e_78_137, e_78_140, e_78_141, e_78_143, e_78_145, e_78_148, e_78_149, e_78_150, e_78_152, e_78_155, e_78_156, e_78_159, e_78_161, e_78_164, e_78_165, e_78_167, e_78_169, e_78_172, e_78_173, e_78_175, e_78_177, e_78_180, e_78_181, e_78_182, e_78_184, e_78_187, e_78_188, e_78_190, e_78_192, e_78_195, e_78_196, e_78_198, e_78_200, e_78_203, e_78_204, e_78_205, e_78_207, e_78_210, e_78_211, e_78_212, e_78_214, e_78_217, e_78_218, e_78_220, e_78_222, e_78_225, e_78_226, e_78_229, e_78_230, e_78_231, e_78_233, e_78_235, e_78_236, e_78_238, e_78_239, e_78_242, e_78_243, e_78_244, e_78_247, e_78_248, e_78_251, e_78_254, cV_some, tl_some, tl_none, mZO_0, mZO_1, mL1_n, mL1_i, mL1_r, oB_some, List.cons_append, List.nil_append, mK_wI, mL_wI, mN_wI, mR_wI, mJ_wI, mK_wJ, mL_wJ, mI_wJ, mR_wJ, mK_wR, mL_wR, mI_wR, mJ_wR, bI_0, bI_n0, if_true, if_false, Nat.reduceLeDiff, Nat.reduceAdd, ite_not, reduceIte, not_false_eq_true, not_true_eq_false, true_and, and_true, and_self, or_false, false_or, or_true, true_or, Nat.reduceEqDiff, Nat.reduceLT, Nat.zero_le, Nat.add_zero, eq_self, false_and, and_false, mc_, mc_i, mc_r, mc_l, mc_ii, mc_ir, mc_il, mc_ri, mc_rr, mc_rl, mc_li, mc_lr, mc_ll, mc_iii, mc_iir, mc_iil, mc_iri, mc_irr, mc_irl, mc_ili, mc_ilr, mc_ill, mc_rii, mc_rir, mc_ril, mc_rri, mc_rrr, mc_rrl, mc_rli, mc_rlr, mc_rll, mc_lii, mc_lir, mc_lil, mc_lri, mc_lrr, mc_lrl, mc_lli, mc_llr, mc_lll, mc_iiii, mc_iiir, mc_iiri, mc_iirr, mc_irii, mc_irir, mc_irri, mc_irrr, mc_riii, mc_riir, mc_riri, mc_rirr, mc_rrii, mc_rrir, mc_rrri, mc_rrrr, mc_iiiii, mc_iiiir, mc_iiiri, mc_iiirr, mc_iirii, mc_iirir, mc_iirri, mc_iirrr, mc_iriii, mc_iriir, mc_iriri, mc_irirr, mc_irrii, mc_irrir, mc_irrri, mc_irrrr, mc_riiii, mc_riiir, mc_riiri, mc_riirr, mc_ririi, mc_ririr, mc_rirri, mc_rirrr, mc_rriii, mc_rriir, mc_rriri, mc_rrirr, mc_rrrii, mc_rrrir, mc_rrrri, mc_rrrrr, hc, kO, kA, lA, rr, w, ixN (show i < 24 by omega) (by omega), cl (show i < 2 ^ 31 by omega), nI_1]
    rfl
def tdI (I : Nat → Nat → Int32) : Nat → Nat → Int32 := htI 3 (u2 I 2 1 12) 24
theorem n30 {d : Nat} {b : mM} {Z : Nat} {I : Nat → Nat → Int32} {R : Nat → Nat → Option Nat} (fr : Fr I R 2) : ev d 30 0 [some (.ref 2), none] [] (yM b 3 Z I R) = some (none, yM b 4 (Z + 24) (tdI I) (r2 R 2 0 (some 3))) := by
  have w : wN (yM b 3 Z I R) 11 24 = yM b 4 (Z + 24) I R := y_wN (by decide) TT_3 (fr.up (by omega))
  have k : ∀ I R, mK (yM b 4 (Z + 24) I R) 2 = 7 := fun I R => by rw [y_mK (by decide) (by decide) (by rw [TT_2]; decide), TT_2]
  have wr : wR (yM b 4 (Z + 24) I R) 2 0 (some 3) = yM b 4 (Z + 24) I (r2 R 2 0 (some 3)) := y_wR (by decide) (by decide)
  have wi : wI (yM b 4 (Z + 24) I (r2 R 2 0 (some 3))) 2 1 12 = yM b 4 (Z + 24) (u2 I 2 1 12) (r2 R 2 0 (some 3)) := y_wI (by decide) (by decide)
  have l := l30 (d := d) (b := b) (Z := Z + 24) (I := u2 I 2 1 12) (R := r2 R 2 0 (some 3)) rfl 24 0 (by omega)
  rw [nI_0] at l
  refine Eq.trans ?_ l
  simp only [e_30_0, e_30_1, e_30_4, e_30_5, e_30_7, e_30_9, e_30_12, e_30_13, e_30_15, e_30_18, e_30_19, e_30_21, e_30_23, e_30_26, e_30_27, e_30_30, e_30_31, e_30_32, e_30_34, e_30_36, e_30_37, e_30_39, e_30_40, e_30_43, e_30_44, e_30_45, e_30_48, e_30_49, e_30_52, e_30_55, cV_some, tl_some, tl_none, mZO_0, mZO_1, mL1_n, mL1_i, mL1_r, oB_some, List.cons_append, List.nil_append, mK_wI, mL_wI, mN_wI, mR_wI, mJ_wI, mK_wJ, mL_wJ, mI_wJ, mR_wJ, mK_wR, mL_wR, mI_wR, mJ_wR, bI_0, bI_n0, if_true, if_false, Nat.reduceLeDiff, Nat.reduceAdd, ite_not, reduceIte, not_false_eq_true, not_true_eq_false, true_and, and_true, and_self, or_false, false_or, or_true, true_or, Nat.reduceEqDiff, Nat.reduceLT, Nat.zero_le, Nat.add_zero, eq_self, false_and, and_false, mc_, mc_i, mc_r, mc_l, mc_ii, mc_ir, mc_il, mc_ri, mc_rr, mc_rl, mc_li, mc_lr, mc_ll, mc_iii, mc_iir, mc_iil, mc_iri, mc_irr, mc_irl, mc_ili, mc_ilr, mc_ill, mc_rii, mc_rir, mc_ril, mc_rri, mc_rrr, mc_rrl, mc_rli, mc_rlr, mc_rll, mc_lii, mc_lir, mc_lil, mc_lri, mc_lrr, mc_lrl, mc_lli, mc_llr, mc_lll, mc_iiii, mc_iiir, mc_iiri, mc_iirr, mc_irii, mc_irir, mc_irri, mc_irrr, mc_riii, mc_riir, mc_riri, mc_rirr, mc_rrii, mc_rrir, mc_rrri, mc_rrrr, mc_iiiii, mc_iiiir, mc_iiiri, mc_iiirr, mc_iirii, mc_iirir, mc_iirri, mc_iirrr, mc_iriii, mc_iriir, mc_iriri, mc_irirr, mc_irrii, mc_irrir, mc_irrri, mc_irrrr, mc_riiii, mc_riiir, mc_riiri, mc_riirr, mc_ririi, mc_ririr, mc_rirri, mc_rirrr, mc_rriii, mc_rriir, mc_rriri, mc_rrirr, mc_rrrii, mc_rrrir, mc_rrrri, mc_rrrrr, zl_24, cz_24, y_mN, w, k, wr, wi]
  rfl
