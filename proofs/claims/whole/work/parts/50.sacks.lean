-- the sacks of a mill in the landed file
def wA (h : mM) (I : Nat → Nat → Int32) (R : Nat → Nat → Option Nat) : mM := (h.1, h.2.1, h.2.2.1, I, h.2.2.2.2.1, R)
def u2 (I : Nat → Nat → Int32) (a k : Nat) (v : Int32) : Nat → Nat → Int32 := fun a' k' => if a' = a ∧ k' = k then v else I a' k'
def r2 (R : Nat → Nat → Option Nat) (a k : Nat) (v : Option Nat) : Nat → Nat → Option Nat := fun a' k' => if a' = a ∧ k' = k then v else R a' k'
theorem u2_ap {I : Nat → Nat → Int32} {a k b j : Nat} {v : Int32} : u2 I a k v b j = if b = a ∧ j = k then v else I b j := rfl
theorem r2_ap {R : Nat → Nat → Option Nat} {a k b j : Nat} {v : Option Nat} : r2 R a k v b j = if b = a ∧ j = k then v else R b j := rfl
theorem mI_wA {h : mM} {I : Nat → Nat → Int32} {R : Nat → Nat → Option Nat} {a k : Nat} : mI (wA h I R) a k = I a k := rfl
theorem mR_wA {h : mM} {I : Nat → Nat → Int32} {R : Nat → Nat → Option Nat} {a k : Nat} : mR (wA h I R) a k = R a k := rfl
theorem mJ_wA {h : mM} {I : Nat → Nat → Int32} {R : Nat → Nat → Option Nat} {a k : Nat} : mJ (wA h I R) a k = mJ h a k := rfl
theorem mK_wA {h : mM} {I : Nat → Nat → Int32} {R : Nat → Nat → Option Nat} {a : Nat} : mK (wA h I R) a = mK h a := rfl
theorem mL_wA {h : mM} {I : Nat → Nat → Int32} {R : Nat → Nat → Option Nat} {a : Nat} : mL (wA h I R) a = mL h a := rfl
theorem wI_wA {h : mM} {I : Nat → Nat → Int32} {R : Nat → Nat → Option Nat} {a k : Nat} {v : Int32} : wI (wA h I R) a k v = wA h (u2 I a k v) R := rfl
theorem wR_wA {h : mM} {I : Nat → Nat → Int32} {R : Nat → Nat → Option Nat} {a k : Nat} {v : Option Nat} : wR (wA h I R) a k v = wA h I (r2 R a k v) := rfl
theorem wA_self {h : mM} : wA h (mI h) (mR h) = h := rfl
/-- only the rows of sacks differ -/
def RG (h : mM) (R : Nat → Nat → Option Nat) : Prop := ∀ b j, (∀ m, m < 4 → b ≠ 19 + 18 * m) → R b j = mR h b j
theorem rT_off : ∀ q ∈ rT, q.1 ≠ 19 ∧ q.1 ≠ 37 ∧ q.1 ≠ 55 ∧ q.1 ≠ 73 := by decide +kernel
theorem G.wA {h : mM} (g : G h) {I : Nat → Nat → Int32} {R : Nat → Nat → Option Nat} (hR : RG h R) : G (wA h I R) := by
  refine ⟨g.1, g.2.1, fun q hq => ?_⟩
  obtain ⟨a1, a2, a3, a4⟩ := rT_off q hq
  show R q.1 q.2.1 = _
  rw [hR q.1 q.2.1 (fun m hm e => by
    rcases (show m = 0 ∨ m = 1 ∨ m = 2 ∨ m = 3 by omega) with z | z | z | z <;> subst z
    · exact a1 e
    · exact a2 e
    · exact a3 e
    · exact a4 e)]
  exact g.2.2 q hq
theorem gK_sk {h : mM} (g : G h) {m i : Nat} (hm : m < 4) (hi : i < 12) : mK h (23 + 18 * m + i) = 4 := by
  have h1 := (g.2.1 (23 + 18 * m + i) (by omega) (by omega)).1
  rw [h1]
  exact (by decide +kernel : ∀ m, m < 4 → ∀ i, i < 12 → kT.getD (23 + 18 * m + i) 0 = 4) m hm i hi
def rotR (A i : Nat) (R : Nat → Nat → Option Nat) : Nat → Nat → Option Nat := r2 R A i (R A (i + 1))
theorem rot_eq {A : Nat} {R : Nat → Nat → Option Nat} : ∀ (n b j : Nat), foldN (rotR A) n R b j = if b = A ∧ j < n then R A (j + 1) else R b j
  | 0, b, j => by rw [if_neg (by omega)]; rfl
  | n + 1, b, j => by
    show r2 (foldN (rotR A) n R) A n (foldN (rotR A) n R A (n + 1)) b j = _
    have z : ¬ (A = A ∧ n + 1 < n) := by omega
    rw [r2_ap, rot_eq n A (n + 1), rot_eq n b j, if_neg z]
    by_cases e : b = A ∧ j = n
    · rw [if_pos e, if_pos (by omega), e.2]
    · rw [if_neg e]
      by_cases e2 : b = A ∧ j < n
      · rw [if_pos e2, if_pos (by omega)]
      · rw [if_neg e2, if_neg (by omega)]
/-- where the sacks of mill m lie -/
def PS (R : Nat → Nat → Option Nat) (m : Nat) (P : Nat → Nat) : Prop := (∀ i, i < 12 → R (19 + 18 * m) i = some (23 + 18 * m + P i) ∧ P i < 12) ∧ (∀ i j, i < 12 → j < 12 → P i = P j → i = j)
theorem loop14 {d : Nat} {h : mM} (g : G h) {I : Nat → Nat → Int32} {R : Nat → Nat → Option Nat} (hR : RG h R) {m : Nat} (hm : m < 4) {P : Nat → Nat} (hP : PS R m P) {hr tl : Int32} {b : Nat} (hb : mK h b = 4) : ∀ (k i : Nat), i + k = 11 → ev d 14 106 [some (.ref (17 + 18 * m)), some (.int hr), some (.ref 105), some (.ref b), some (.int tl), some (.int (nI i))] [] (wA h I (foldN (rotR (19 + 18 * m)) i R)) = some (none, wA h I (r2 (foldN (rotR (19 + 18 * m)) 11 R) (19 + 18 * m) 11 (some b)))
  | 0, i, hk => by
    have e : i = 11 := by omega
    subst e
    have hs : foldN (rotR (19 + 18 * m)) 11 R (17 + 18 * m) 1 = some (19 + 18 * m) := by
      rw [rot_eq, if_neg (by omega), hR _ _ (fun m' hm' => by omega)]
      exact gR_sac g hm
    have l11 : (11 : Int32) ≤ nI 11 := by decide
    have k1 : 12 < 17 ∧ 17 < 18 := by decide
    have k2 : mEl 17 = 4 := rfl
    have i11 : ixOK 11 12 = true := by decide
    have c11 : (11 : Int32).toNatClampNeg = 11 := by decide
    rw [e_14_106]
    simp only [e_14_0, e_14_1, e_14_4, e_14_5, e_14_6, e_14_7, e_14_8, e_14_11, e_14_12, e_14_15, e_14_16, e_14_19, e_14_20, e_14_23, e_14_25, e_14_26, e_14_28, e_14_29r, e_14_29i, e_14_30, e_14_33, e_14_35, e_14_36, e_14_39, e_14_40r, e_14_40i, e_14_41, e_14_44, e_14_45, e_14_46, e_14_49, e_14_50, e_14_51, e_14_54, e_14_57, e_14_58r, e_14_58i, e_14_59, e_14_62, e_14_63, e_14_64, e_14_67, e_14_68, e_14_71, e_14_74, e_14_77, e_14_78, e_14_79, e_14_82, e_14_83, e_14_84, e_14_85, e_14_88, e_14_90, e_14_91, e_14_92, e_14_93, e_14_94r, e_14_94i, e_14_95, e_14_98, e_14_99, e_14_100, e_14_103, e_14_104, e_14_108, e_14_110, e_14_113, e_14_114, e_14_117, e_14_119, e_14_120, e_14_123, e_14_125, e_14_126, e_14_127, e_14_128, e_14_129, e_14_132, e_14_135, e_14_136, e_14_139, e_14_141, e_14_142, e_14_143, cV_some, tl_some, tl_none, mZO_0, mZO_1, mL1_n, mL1_i, mL1_r, oB_some, List.cons_append, List.nil_append, mK_wI, mL_wI, mN_wI, mR_wI, mJ_wI, mK_wJ, mL_wJ, mI_wJ, mR_wJ, mK_wR, mL_wR, mI_wR, mJ_wR, bI_0, bI_n0, if_true, if_false, Nat.reduceLeDiff, Nat.reduceAdd, ite_not, reduceIte, not_false_eq_true, not_true_eq_false, true_and, and_true, and_self, or_false, false_or, or_true, true_or, Nat.reduceEqDiff, Nat.reduceLT, Nat.zero_le, Nat.add_zero, eq_self, false_and, and_false, mc_, mc_i, mc_r, mc_l, mc_ii, mc_ir, mc_il, mc_ri, mc_rr, mc_rl, mc_li, mc_lr, mc_ll, mc_iii, mc_iir, mc_iil, mc_iri, mc_irr, mc_irl, mc_ili, mc_ilr, mc_ill, mc_rii, mc_rir, mc_ril, mc_rri, mc_rrr, mc_rrl, mc_rli, mc_rlr, mc_rll, mc_lii, mc_lir, mc_lil, mc_lri, mc_lrr, mc_lrl, mc_lli, mc_llr, mc_lll, mc_iiii, mc_iiir, mc_iiri, mc_iirr, mc_irii, mc_irir, mc_irri, mc_irrr, mc_riii, mc_riir, mc_riri, mc_rirr, mc_rrii, mc_rrir, mc_rrri, mc_rrrr, mc_iiiii, mc_iiiir, mc_iiiri, mc_iiirr, mc_iirii, mc_iirir, mc_iirri, mc_iirrr, mc_iriii, mc_iriir, mc_iriri, mc_irirr, mc_irrii, mc_irrir, mc_irrri, mc_irrrr, mc_riiii, mc_riiir, mc_riiri, mc_riirr, mc_ririi, mc_ririr, mc_rirri, mc_rirrr, mc_rriii, mc_rriir, mc_rriri, mc_rrirr, mc_rrrii, mc_rrrir, mc_rrrri, mc_rrrrr, mK_wA, mL_wA, mI_wA, mR_wA, wR_wA, wI_wA, gK_mill g hm, gK_sac g hm, gL_sac g hm, hs, l11, hb, k1, k2, i11, c11]
  | k + 1, i, hk => by
    have ih := loop14 (d := d) g (I := I) hR hm hP (hr := hr) (tl := tl) hb k (i + 1) (by omega)
    have hs : ∀ i, foldN (rotR (19 + 18 * m)) i R (17 + 18 * m) 1 = some (19 + 18 * m) := fun i => by
      rw [rot_eq, if_neg (by omega), hR _ _ (fun m' hm' => by omega)]
      exact gR_sac g hm
    have hA : foldN (rotR (19 + 18 * m)) i R (19 + 18 * m) (i + 1) = some (23 + 18 * m + P (i + 1)) := by
      rw [rot_eq, if_neg (by omega)]
      exact (hP.1 (i + 1) (by omega)).1
    have hk4 := gK_sk g hm (hP.1 (i + 1) (by omega)).2
    have hc : ¬ (11 : Int32) ≤ nI i := nI_ge (b := 11) (by omega) (by omega)
    have k1 : 12 < 17 ∧ 17 < 18 := by decide
    have k3 : 12 < 17 ∧ 17 < 19 := by decide
    have k2 : mEl 17 = 4 := rfl
    rw [e_14_106]
    simp only [e_14_0, e_14_1, e_14_4, e_14_5, e_14_6, e_14_7, e_14_8, e_14_11, e_14_12, e_14_15, e_14_16, e_14_19, e_14_20, e_14_23, e_14_25, e_14_26, e_14_28, e_14_29r, e_14_29i, e_14_30, e_14_33, e_14_35, e_14_36, e_14_39, e_14_40r, e_14_40i, e_14_41, e_14_44, e_14_45, e_14_46, e_14_49, e_14_50, e_14_51, e_14_54, e_14_57, e_14_58r, e_14_58i, e_14_59, e_14_62, e_14_63, e_14_64, e_14_67, e_14_68, e_14_71, e_14_74, e_14_77, e_14_78, e_14_79, e_14_82, e_14_83, e_14_84, e_14_85, e_14_88, e_14_90, e_14_91, e_14_92, e_14_93, e_14_94r, e_14_94i, e_14_95, e_14_98, e_14_99, e_14_100, e_14_103, e_14_104, e_14_108, e_14_110, e_14_113, e_14_114, e_14_117, e_14_119, e_14_120, e_14_123, e_14_125, e_14_126, e_14_127, e_14_128, e_14_129, e_14_132, e_14_135, e_14_136, e_14_139, e_14_141, e_14_142, e_14_143, cV_some, tl_some, tl_none, mZO_0, mZO_1, mL1_n, mL1_i, mL1_r, oB_some, List.cons_append, List.nil_append, mK_wI, mL_wI, mN_wI, mR_wI, mJ_wI, mK_wJ, mL_wJ, mI_wJ, mR_wJ, mK_wR, mL_wR, mI_wR, mJ_wR, bI_0, bI_n0, if_true, if_false, Nat.reduceLeDiff, Nat.reduceAdd, ite_not, reduceIte, not_false_eq_true, not_true_eq_false, true_and, and_true, and_self, or_false, false_or, or_true, true_or, Nat.reduceEqDiff, Nat.reduceLT, Nat.zero_le, Nat.add_zero, eq_self, false_and, and_false, mc_, mc_i, mc_r, mc_l, mc_ii, mc_ir, mc_il, mc_ri, mc_rr, mc_rl, mc_li, mc_lr, mc_ll, mc_iii, mc_iir, mc_iil, mc_iri, mc_irr, mc_irl, mc_ili, mc_ilr, mc_ill, mc_rii, mc_rir, mc_ril, mc_rri, mc_rrr, mc_rrl, mc_rli, mc_rlr, mc_rll, mc_lii, mc_lir, mc_lil, mc_lri, mc_lrr, mc_lrl, mc_lli, mc_llr, mc_lll, mc_iiii, mc_iiir, mc_iiri, mc_iirr, mc_irii, mc_irir, mc_irri, mc_irrr, mc_riii, mc_riir, mc_riri, mc_rirr, mc_rrii, mc_rrir, mc_rrri, mc_rrrr, mc_iiiii, mc_iiiir, mc_iiiri, mc_iiirr, mc_iirii, mc_iirir, mc_iirri, mc_iirrr, mc_iriii, mc_iriir, mc_iriri, mc_irirr, mc_irrii, mc_irrir, mc_irrri, mc_irrrr, mc_riiii, mc_riiir, mc_riiri, mc_riirr, mc_ririi, mc_ririr, mc_rirri, mc_rirrr, mc_rriii, mc_rriir, mc_rriri, mc_rrirr, mc_rrrii, mc_rrrir, mc_rrrri, mc_rrrrr, mK_wA, mL_wA, mI_wA, mR_wA, wR_wA, wI_wA, gK_mill g hm, gK_sac g hm, gL_sac g hm, hs, hc, nI_1, ixN (show i < 12 by omega) (by omega), cl (show i < 2 ^ 31 by omega), ixN (show i + 1 < 12 by omega) (by omega), cl (show i + 1 < 2 ^ 31 by omega), hA, k1, k3, k2, hk4]
    have e3 : foldN (rotR (19 + 18 * m)) (i + 1) R = r2 (foldN (rotR (19 + 18 * m)) i R) (19 + 18 * m) i (some (23 + 18 * m + P (i + 1))) := by
      show r2 _ _ _ (foldN (rotR (19 + 18 * m)) i R (19 + 18 * m) (i + 1)) = _
      rw [hA]
    rw [e3] at ih
    exact ih
def finI (I : Nat → Nat → Int32) (M cu : Nat) (tl am : Int32) (late : Bool) : Nat → Nat → Int32 := u2 (u2 (if late = true then u2 (u2 (u2 I M 10 (I M 10 + tl)) M 11 (I M 11 + 1)) M 12 (I M 12 + 1) else u2 (u2 I M 10 (I M 10 + tl)) M 11 (I M 11 + 1)) 105 cu (I 105 cu + (am - tl))) M 8 (I M 8 - 1)
def finR (R : Nat → Nat → Option Nat) (m b : Nat) : Nat → Nat → Option Nat := r2 (foldN (rotR (19 + 18 * m)) 11 R) (19 + 18 * m) 11 (some b)
theorem c14 {d : Nat} {h : mM} (g : G h) {I : Nat → Nat → Int32} {R : Nat → Nat → Option Nat} (hR : RG h R) {m : Nat} (hm : m < 4) {P : Nat → Nat} (hP : PS R m P) {hr : Int32} {cu : Nat} (hcu : cu < 10) (e0 : I (23 + 18 * m + P 0) 0 = nI cu) : ev (d + 2) 14 0 [some (.ref (17 + 18 * m)), some (.int hr), some (.ref 105), none, none, none] [] (wA h I R) = some (none, wA h (finI I (17 + 18 * m) cu (tollM (I (17 + 18 * m) 2) (I (23 + 18 * m + P 0) 1)) (I (23 + 18 * m + P 0) 1) (decide (I (23 + 18 * m + P 0) 3 < hr))) (finR R m (23 + 18 * m + P 0))) := by
  have h0 := hP.1 0 (by omega)
  have hb := gK_sk g hm h0.2
  have lp := fun (I : Nat → Nat → Int32) (tl : Int32) => loop14 (d := d + 2) g (I := I) hR hm hP (hr := hr) (tl := tl) hb 11 0 (by omega)
  rw [nI_0] at lp
  have hs : R (17 + 18 * m) 1 = some (19 + 18 * m) := by
    rw [hR _ _ (fun m' hm' => by omega)]
    exact gR_sac g hm
  have k3 : 12 < 17 ∧ 17 < 19 := by decide
  have i0 : ixOK 0 12 = true := by decide
  have c0 : (0 : Int32).toNatClampNeg = 0 := by decide
  have z16 : ¬ (16 : Int32) = 0 := by decide
  have r9 : (0 ≤ nI cu ∧ nI cu ≤ (9 : Int32)) = True := rng (k := 9) (by omega) (by omega)
  have nM : ¬ 17 + 18 * m = 105 := by omega
  have nM2 : ¬ 105 = 17 + 18 * m := by omega
  have ns1 : ¬ 23 + 18 * m + P 0 = 17 + 18 * m := by omega
  unfold finI finR tollM
  by_cases b1 : I (17 + 18 * m) 2 = 1
  · by_cases b2 : I (23 + 18 * m + P 0) 3 < hr
    · have b3 : ¬ hr ≤ I (23 + 18 * m + P 0) 3 := Int32.not_le.mpr b2
      simp only [e_14_0, e_14_1, e_14_4, e_14_5, e_14_6, e_14_7, e_14_8, e_14_11, e_14_12, e_14_15, e_14_16, e_14_19, e_14_20, e_14_23, e_14_25, e_14_26, e_14_28, e_14_29r, e_14_29i, e_14_30, e_14_33, e_14_35, e_14_36, e_14_39, e_14_40r, e_14_40i, e_14_41, e_14_44, e_14_45, e_14_46, e_14_49, e_14_50, e_14_51, e_14_54, e_14_57, e_14_58r, e_14_58i, e_14_59, e_14_62, e_14_63, e_14_64, e_14_67, e_14_68, e_14_71, e_14_74, e_14_77, e_14_78, e_14_79, e_14_82, e_14_83, e_14_84, e_14_85, e_14_88, e_14_90, e_14_91, e_14_92, e_14_93, e_14_94r, e_14_94i, e_14_95, e_14_98, e_14_99, e_14_100, e_14_103, e_14_104, e_14_108, e_14_110, e_14_113, e_14_114, e_14_117, e_14_119, e_14_120, e_14_123, e_14_125, e_14_126, e_14_127, e_14_128, e_14_129, e_14_132, e_14_135, e_14_136, e_14_139, e_14_141, e_14_142, e_14_143, cV_some, tl_some, tl_none, mZO_0, mZO_1, mL1_n, mL1_i, mL1_r, oB_some, List.cons_append, List.nil_append, mK_wI, mL_wI, mN_wI, mR_wI, mJ_wI, mK_wJ, mL_wJ, mI_wJ, mR_wJ, mK_wR, mL_wR, mI_wR, mJ_wR, bI_0, bI_n0, if_true, if_false, Nat.reduceLeDiff, Nat.reduceAdd, ite_not, reduceIte, not_false_eq_true, not_true_eq_false, true_and, and_true, and_self, or_false, false_or, or_true, true_or, Nat.reduceEqDiff, Nat.reduceLT, Nat.zero_le, Nat.add_zero, eq_self, false_and, and_false, mc_, mc_i, mc_r, mc_l, mc_ii, mc_ir, mc_il, mc_ri, mc_rr, mc_rl, mc_li, mc_lr, mc_ll, mc_iii, mc_iir, mc_iil, mc_iri, mc_irr, mc_irl, mc_ili, mc_ilr, mc_ill, mc_rii, mc_rir, mc_ril, mc_rri, mc_rrr, mc_rrl, mc_rli, mc_rlr, mc_rll, mc_lii, mc_lir, mc_lil, mc_lri, mc_lrr, mc_lrl, mc_lli, mc_llr, mc_lll, mc_iiii, mc_iiir, mc_iiri, mc_iirr, mc_irii, mc_irir, mc_irri, mc_irrr, mc_riii, mc_riir, mc_riri, mc_rirr, mc_rrii, mc_rrir, mc_rrri, mc_rrrr, mc_iiiii, mc_iiiir, mc_iiiri, mc_iiirr, mc_iirii, mc_iirir, mc_iirri, mc_iirrr, mc_iriii, mc_iriir, mc_iriri, mc_irirr, mc_irrii, mc_irrir, mc_irrri, mc_irrrr, mc_riiii, mc_riiir, mc_riiri, mc_riirr, mc_ririi, mc_ririr, mc_rirri, mc_rirrr, mc_rriii, mc_rriir, mc_rriri, mc_rrirr, mc_rrrii, mc_rrrir, mc_rrrri, mc_rrrrr, mK_wA, mL_wA, mI_wA, mR_wA, wR_wA, wI_wA, u2_ap, gK_mill g hm, gK_sac g hm, gL_sac g hm, gK_105 g, gL_105 g, hs, h0.1, hb, k3, i0, c0, b1, b2, b3, z16, e0, c68, r9, nM, nM2, ns1, ixN hcu (by omega), cl (show cu < 2 ^ 31 by omega), decide_true]
      exact lp _ _
    · have b3 : hr ≤ I (23 + 18 * m + P 0) 3 := Int32.not_lt.mp b2
      simp only [e_14_0, e_14_1, e_14_4, e_14_5, e_14_6, e_14_7, e_14_8, e_14_11, e_14_12, e_14_15, e_14_16, e_14_19, e_14_20, e_14_23, e_14_25, e_14_26, e_14_28, e_14_29r, e_14_29i, e_14_30, e_14_33, e_14_35, e_14_36, e_14_39, e_14_40r, e_14_40i, e_14_41, e_14_44, e_14_45, e_14_46, e_14_49, e_14_50, e_14_51, e_14_54, e_14_57, e_14_58r, e_14_58i, e_14_59, e_14_62, e_14_63, e_14_64, e_14_67, e_14_68, e_14_71, e_14_74, e_14_77, e_14_78, e_14_79, e_14_82, e_14_83, e_14_84, e_14_85, e_14_88, e_14_90, e_14_91, e_14_92, e_14_93, e_14_94r, e_14_94i, e_14_95, e_14_98, e_14_99, e_14_100, e_14_103, e_14_104, e_14_108, e_14_110, e_14_113, e_14_114, e_14_117, e_14_119, e_14_120, e_14_123, e_14_125, e_14_126, e_14_127, e_14_128, e_14_129, e_14_132, e_14_135, e_14_136, e_14_139, e_14_141, e_14_142, e_14_143, cV_some, tl_some, tl_none, mZO_0, mZO_1, mL1_n, mL1_i, mL1_r, oB_some, List.cons_append, List.nil_append, mK_wI, mL_wI, mN_wI, mR_wI, mJ_wI, mK_wJ, mL_wJ, mI_wJ, mR_wJ, mK_wR, mL_wR, mI_wR, mJ_wR, bI_0, bI_n0, if_true, if_false, Nat.reduceLeDiff, Nat.reduceAdd, ite_not, reduceIte, not_false_eq_true, not_true_eq_false, true_and, and_true, and_self, or_false, false_or, or_true, true_or, Nat.reduceEqDiff, Nat.reduceLT, Nat.zero_le, Nat.add_zero, eq_self, false_and, and_false, mc_, mc_i, mc_r, mc_l, mc_ii, mc_ir, mc_il, mc_ri, mc_rr, mc_rl, mc_li, mc_lr, mc_ll, mc_iii, mc_iir, mc_iil, mc_iri, mc_irr, mc_irl, mc_ili, mc_ilr, mc_ill, mc_rii, mc_rir, mc_ril, mc_rri, mc_rrr, mc_rrl, mc_rli, mc_rlr, mc_rll, mc_lii, mc_lir, mc_lil, mc_lri, mc_lrr, mc_lrl, mc_lli, mc_llr, mc_lll, mc_iiii, mc_iiir, mc_iiri, mc_iirr, mc_irii, mc_irir, mc_irri, mc_irrr, mc_riii, mc_riir, mc_riri, mc_rirr, mc_rrii, mc_rrir, mc_rrri, mc_rrrr, mc_iiiii, mc_iiiir, mc_iiiri, mc_iiirr, mc_iirii, mc_iirir, mc_iirri, mc_iirrr, mc_iriii, mc_iriir, mc_iriri, mc_irirr, mc_irrii, mc_irrir, mc_irrri, mc_irrrr, mc_riiii, mc_riiir, mc_riiri, mc_riirr, mc_ririi, mc_ririr, mc_rirri, mc_rirrr, mc_rriii, mc_rriir, mc_rriri, mc_rrirr, mc_rrrii, mc_rrrir, mc_rrrri, mc_rrrrr, mK_wA, mL_wA, mI_wA, mR_wA, wR_wA, wI_wA, u2_ap, gK_mill g hm, gK_sac g hm, gL_sac g hm, gK_105 g, gL_105 g, hs, h0.1, hb, k3, i0, c0, b1, b2, b3, z16, e0, c68, r9, nM, nM2, ns1, ixN hcu (by omega), cl (show cu < 2 ^ 31 by omega), decide_false, Bool.false_eq_true]
      exact lp _ _
  · by_cases b2 : I (23 + 18 * m + P 0) 3 < hr
    · have b3 : ¬ hr ≤ I (23 + 18 * m + P 0) 3 := Int32.not_le.mpr b2
      simp only [e_14_0, e_14_1, e_14_4, e_14_5, e_14_6, e_14_7, e_14_8, e_14_11, e_14_12, e_14_15, e_14_16, e_14_19, e_14_20, e_14_23, e_14_25, e_14_26, e_14_28, e_14_29r, e_14_29i, e_14_30, e_14_33, e_14_35, e_14_36, e_14_39, e_14_40r, e_14_40i, e_14_41, e_14_44, e_14_45, e_14_46, e_14_49, e_14_50, e_14_51, e_14_54, e_14_57, e_14_58r, e_14_58i, e_14_59, e_14_62, e_14_63, e_14_64, e_14_67, e_14_68, e_14_71, e_14_74, e_14_77, e_14_78, e_14_79, e_14_82, e_14_83, e_14_84, e_14_85, e_14_88, e_14_90, e_14_91, e_14_92, e_14_93, e_14_94r, e_14_94i, e_14_95, e_14_98, e_14_99, e_14_100, e_14_103, e_14_104, e_14_108, e_14_110, e_14_113, e_14_114, e_14_117, e_14_119, e_14_120, e_14_123, e_14_125, e_14_126, e_14_127, e_14_128, e_14_129, e_14_132, e_14_135, e_14_136, e_14_139, e_14_141, e_14_142, e_14_143, cV_some, tl_some, tl_none, mZO_0, mZO_1, mL1_n, mL1_i, mL1_r, oB_some, List.cons_append, List.nil_append, mK_wI, mL_wI, mN_wI, mR_wI, mJ_wI, mK_wJ, mL_wJ, mI_wJ, mR_wJ, mK_wR, mL_wR, mI_wR, mJ_wR, bI_0, bI_n0, if_true, if_false, Nat.reduceLeDiff, Nat.reduceAdd, ite_not, reduceIte, not_false_eq_true, not_true_eq_false, true_and, and_true, and_self, or_false, false_or, or_true, true_or, Nat.reduceEqDiff, Nat.reduceLT, Nat.zero_le, Nat.add_zero, eq_self, false_and, and_false, mc_, mc_i, mc_r, mc_l, mc_ii, mc_ir, mc_il, mc_ri, mc_rr, mc_rl, mc_li, mc_lr, mc_ll, mc_iii, mc_iir, mc_iil, mc_iri, mc_irr, mc_irl, mc_ili, mc_ilr, mc_ill, mc_rii, mc_rir, mc_ril, mc_rri, mc_rrr, mc_rrl, mc_rli, mc_rlr, mc_rll, mc_lii, mc_lir, mc_lil, mc_lri, mc_lrr, mc_lrl, mc_lli, mc_llr, mc_lll, mc_iiii, mc_iiir, mc_iiri, mc_iirr, mc_irii, mc_irir, mc_irri, mc_irrr, mc_riii, mc_riir, mc_riri, mc_rirr, mc_rrii, mc_rrir, mc_rrri, mc_rrrr, mc_iiiii, mc_iiiir, mc_iiiri, mc_iiirr, mc_iirii, mc_iirir, mc_iirri, mc_iirrr, mc_iriii, mc_iriir, mc_iriri, mc_irirr, mc_irrii, mc_irrir, mc_irrri, mc_irrrr, mc_riiii, mc_riiir, mc_riiri, mc_riirr, mc_ririi, mc_ririr, mc_rirri, mc_rirrr, mc_rriii, mc_rriir, mc_rriri, mc_rrirr, mc_rrrii, mc_rrrir, mc_rrrri, mc_rrrrr, mK_wA, mL_wA, mI_wA, mR_wA, wR_wA, wI_wA, u2_ap, gK_mill g hm, gK_sac g hm, gL_sac g hm, gK_105 g, gL_105 g, hs, h0.1, hb, k3, i0, c0, b1, b2, b3, z16, e0, c68, r9, nM, nM2, ns1, ixN hcu (by omega), cl (show cu < 2 ^ 31 by omega), decide_true]
      exact lp _ _
    · have b3 : hr ≤ I (23 + 18 * m + P 0) 3 := Int32.not_lt.mp b2
      simp only [e_14_0, e_14_1, e_14_4, e_14_5, e_14_6, e_14_7, e_14_8, e_14_11, e_14_12, e_14_15, e_14_16, e_14_19, e_14_20, e_14_23, e_14_25, e_14_26, e_14_28, e_14_29r, e_14_29i, e_14_30, e_14_33, e_14_35, e_14_36, e_14_39, e_14_40r, e_14_40i, e_14_41, e_14_44, e_14_45, e_14_46, e_14_49, e_14_50, e_14_51, e_14_54, e_14_57, e_14_58r, e_14_58i, e_14_59, e_14_62, e_14_63, e_14_64, e_14_67, e_14_68, e_14_71, e_14_74, e_14_77, e_14_78, e_14_79, e_14_82, e_14_83, e_14_84, e_14_85, e_14_88, e_14_90, e_14_91, e_14_92, e_14_93, e_14_94r, e_14_94i, e_14_95, e_14_98, e_14_99, e_14_100, e_14_103, e_14_104, e_14_108, e_14_110, e_14_113, e_14_114, e_14_117, e_14_119, e_14_120, e_14_123, e_14_125, e_14_126, e_14_127, e_14_128, e_14_129, e_14_132, e_14_135, e_14_136, e_14_139, e_14_141, e_14_142, e_14_143, cV_some, tl_some, tl_none, mZO_0, mZO_1, mL1_n, mL1_i, mL1_r, oB_some, List.cons_append, List.nil_append, mK_wI, mL_wI, mN_wI, mR_wI, mJ_wI, mK_wJ, mL_wJ, mI_wJ, mR_wJ, mK_wR, mL_wR, mI_wR, mJ_wR, bI_0, bI_n0, if_true, if_false, Nat.reduceLeDiff, Nat.reduceAdd, ite_not, reduceIte, not_false_eq_true, not_true_eq_false, true_and, and_true, and_self, or_false, false_or, or_true, true_or, Nat.reduceEqDiff, Nat.reduceLT, Nat.zero_le, Nat.add_zero, eq_self, false_and, and_false, mc_, mc_i, mc_r, mc_l, mc_ii, mc_ir, mc_il, mc_ri, mc_rr, mc_rl, mc_li, mc_lr, mc_ll, mc_iii, mc_iir, mc_iil, mc_iri, mc_irr, mc_irl, mc_ili, mc_ilr, mc_ill, mc_rii, mc_rir, mc_ril, mc_rri, mc_rrr, mc_rrl, mc_rli, mc_rlr, mc_rll, mc_lii, mc_lir, mc_lil, mc_lri, mc_lrr, mc_lrl, mc_lli, mc_llr, mc_lll, mc_iiii, mc_iiir, mc_iiri, mc_iirr, mc_irii, mc_irir, mc_irri, mc_irrr, mc_riii, mc_riir, mc_riri, mc_rirr, mc_rrii, mc_rrir, mc_rrri, mc_rrrr, mc_iiiii, mc_iiiir, mc_iiiri, mc_iiirr, mc_iirii, mc_iirir, mc_iirri, mc_iirrr, mc_iriii, mc_iriir, mc_iriri, mc_irirr, mc_irrii, mc_irrir, mc_irrri, mc_irrrr, mc_riiii, mc_riiir, mc_riiri, mc_riirr, mc_ririi, mc_ririr, mc_rirri, mc_rirrr, mc_rriii, mc_rriir, mc_rriri, mc_rrirr, mc_rrrii, mc_rrrir, mc_rrrri, mc_rrrrr, mK_wA, mL_wA, mI_wA, mR_wA, wR_wA, wI_wA, u2_ap, gK_mill g hm, gK_sac g hm, gL_sac g hm, gK_105 g, gL_105 g, hs, h0.1, hb, k3, i0, c0, b1, b2, b3, z16, e0, c68, r9, nM, nM2, ns1, ixN hcu (by omega), cl (show cu < 2 ^ 31 by omega), decide_false, Bool.false_eq_true]
      exact lp _ _
