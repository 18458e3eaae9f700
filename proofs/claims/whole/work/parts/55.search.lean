-- the landed file's search for the best hours
def SC (h : mM) (I : Nat → Nat → Int32) : Prop := ∀ b j, b < 91 ∨ 103 < b → I b j = mI h b j
def cpI (I : Nat → Nat → Int32) (a b : Nat) : Nat → Nat → Int32 := fun a' k' => if a' = b ∧ 0 ≤ k' ∧ k' < 0 + 4 then I a (0 + (k' - 0)) else I a' k'
theorem wC_wA {h : mM} {I : Nat → Nat → Int32} {R : Nat → Nat → Option Nat} {a b : Nat} : wC (wA h I R) a b 0 0 4 = wA h (cpI I a b) R := rfl
theorem cpI_in {I : Nat → Nat → Int32} {a b p : Nat} (hp : p < 4) : cpI I a b b p = I a p := by
  show (if b = b ∧ 0 ≤ p ∧ p < 0 + 4 then I a (0 + (p - 0)) else I b p) = _
  rw [if_pos ⟨rfl, by omega, by omega⟩, Nat.sub_zero, Nat.zero_add]
theorem cpI_ne {I : Nat → Nat → Int32} {a b c j : Nat} (h : c ≠ b) : cpI I a b c j = I c j := if_neg (fun z => h z.1)
theorem SC_st {h : mM} {I : Nat → Nat → Int32} (t : SC h I) : ∀ b j, ST b j → mI (wA h I (mR h)) b j = mI h b j := fun b j z => by
  refine t b j ?_
  rcases z with e | e | e | ⟨m, hm, e, hj⟩ | ⟨m, s, hm, hs, e⟩ | e | e | ⟨e, _⟩ <;> omega
theorem c25 {d : Nat} {h : mM} {rd hr : Nat} (q : CH h rd hr) {I : Nat → Nat → Int32} (t : SC h I) {k m : Nat} (hk : k < 8) (hm : m < 4) (h5 : I 91 5 = nI hr) (h3 : I 91 3 = nI m) {r : Int32} {rn : Nat} (hrs : RS r rn) {w : Nat → Nat} (hw : WB (cfg h) w) (hw2 : ∀ p, p < cfg h 0 0 → I (93 + k) p = nI (w p)) : ∃ I', (∀ b j, b ≠ 93 + (k + 1) → b ≠ 102 → b ≠ 103 → I' b j = I b j) ∧ (∀ p, p < cfg h 0 0 → I' (93 + (k + 1)) p = nI ((HN (cfg h) (TD h rd (hr + k)) rn w).1 p)) ∧ ev (d + 5) 25 0 [some (.ref 91), some (.int (nI k)), some (.int r)] [] (wA h I (mR h)) = some (some (.int (nI (gbN (HN (cfg h) (TD h rd (hr + k)) rn w).2.2 m))), wA h I' (mR h)) := by
  have g := q.1.2.1
  have n4 := q.1.1.1.1
  have h10 := q.1.2.2.2.1.2
  have gA := G.wA g (I := I) (RG_self (h := h))
  have t1 : SC h (cpI I (93 + k) (93 + (k + 1))) := fun b j hb => by
    rw [cpI_ne (by omega)]
    exact t b j hb
  have gA1 := G.wA g (I := cpI I (93 + k) (93 + (k + 1))) (RG_self (h := h))
  have hs := SC_st t1
  have ec := cfg_congr hs
  have cfA := CF_congr hs q.1.1
  have fw : FW (wA h (cpI I (93 + k) (93 + (k + 1))) (mR h)) (93 + (k + 1)) 102 103 := ⟨gA1, gK_grid gA1 (by omega), gL_grid gA1 (by omega), gK_102 gA1, gR_102_0 gA1, gR_102_1 gA1, gK_103 gA1, gL_103 gA1, by omega, by omega, by decide⟩
  obtain ⟨σ, RCs, e2⟩ := goBy (d := d) cfA fw (t := TD h rd (hr + k)) (q.1.td (hr + k)).2 hrs (w := w) (by rw [ec]; exact hw) (by
    rw [ec]
    intro p hp
    show cpI I (93 + k) (93 + (k + 1)) (93 + (k + 1)) p = _
    rw [cpI_in (by omega)]
    exact hw2 p hp)
  rw [ec] at RCs
  rw [wX_wA] at e2
  obtain ⟨s1, s2, s3⟩ := RCs
  have t31 := at31 (d := d + 4) q (RG_self (h := h)) (I := cpI I (93 + k) (93 + (k + 1))) (fun j => ⟨t1 2 j (by omega), t1 3 j (by omega)⟩) (x := hr + k) (by omega)
  have l0 : ¬ (0 : Int32) < 0 := by decide
  have l4 : ¬ (4 : Int32) < 0 := by decide
  have c0 : (0 : Int32).toNatClampNeg = 0 := by decide
  have c4 : (4 : Int32).toNatClampNeg = 4 := by decide
  have k18 : 12 < 18 ∧ 18 < 19 := by decide
  have i5 : cpI I (93 + k) (93 + (k + 1)) 91 5 = nI hr := by rw [cpI_ne (by omega)]; exact h5
  have gA2 := G.wA g (I := xI (cpI I (93 + k) (93 + (k + 1))) (93 + (k + 1)) 102 103 σ) (RG_self (h := h))
  have gb := c9 (d := d + 4) (h := wA h (xI (cpI I (93 + k) (93 + (k + 1))) (93 + (k + 1)) 102 103 σ) (mR h)) (F := 102) (GA := 103) (m := m) (gK_102 gA2) (gR_102_1 gA2) (gK_103 gA2) (gL_103 gA2) hm
  rw [gb_I (gr := mI (wA h (xI (cpI I (93 + k) (93 + (k + 1))) (93 + (k + 1)) 102 103 σ) (mR h)) 103) (g := (HN (cfg h) (TD h rd (hr + k)) rn w).2.2) (fun i hi => s3 i hi) hm] at gb
  have i3 : xI (cpI I (93 + k) (93 + (k + 1))) (93 + (k + 1)) 102 103 σ 91 3 = nI m := by
    rw [xI_ap, if_neg (by omega), if_neg (by omega), if_neg (by omega), cpI_ne (by omega)]
    exact h3
  refine ⟨xI (cpI I (93 + k) (93 + (k + 1))) (93 + (k + 1)) 102 103 σ, fun b j h1 h2 h3 => ?_, fun p hp => ?_, ?_⟩
  rotate_left 2
  · simp only [e_25_0, e_25_1, e_25_4, e_25_5, e_25_6, e_25_7, e_25_8, e_25_11, e_25_12, e_25_13, e_25_14, e_25_15, e_25_16, e_25_17, e_25_20, e_25_21, e_25_24, e_25_25, e_25_28, e_25_29, e_25_30, e_25_31, e_25_32, e_25_33, e_25_36, e_25_37, e_25_40, e_25_41, e_25_42, e_25_45, e_25_46, e_25_49, e_25_50, e_25_53, e_25_54, e_25_57, e_25_60, cV_some, tl_some, tl_none, mZO_0, mZO_1, mL1_n, mL1_i, mL1_r, oB_some, List.cons_append, List.nil_append, mK_wI, mL_wI, mN_wI, mR_wI, mJ_wI, mK_wJ, mL_wJ, mI_wJ, mR_wJ, mK_wR, mL_wR, mI_wR, mJ_wR, bI_0, bI_n0, if_true, if_false, Nat.reduceLeDiff, Nat.reduceAdd, ite_not, reduceIte, not_false_eq_true, not_true_eq_false, true_and, and_true, and_self, or_false, false_or, or_true, true_or, Nat.reduceEqDiff, Nat.reduceLT, Nat.zero_le, Nat.add_zero, eq_self, false_and, and_false, mc_, mc_i, mc_r, mc_l, mc_ii, mc_ir, mc_il, mc_ri, mc_rr, mc_rl, mc_li, mc_lr, mc_ll, mc_iii, mc_iir, mc_iil, mc_iri, mc_irr, mc_irl, mc_ili, mc_ilr, mc_ill, mc_rii, mc_rir, mc_ril, mc_rri, mc_rrr, mc_rrl, mc_rli, mc_rlr, mc_rll, mc_lii, mc_lir, mc_lil, mc_lri, mc_lrr, mc_lrl, mc_lli, mc_llr, mc_lll, mc_iiii, mc_iiir, mc_iiri, mc_iirr, mc_irii, mc_irir, mc_irri, mc_irrr, mc_riii, mc_riir, mc_riri, mc_rirr, mc_rrii, mc_rrir, mc_rrri, mc_rrrr, mc_iiiii, mc_iiiir, mc_iiiri, mc_iiirr, mc_iirii, mc_iirir, mc_iirri, mc_iirrr, mc_iriii, mc_iriir, mc_iriri, mc_irirr, mc_irrii, mc_irrir, mc_irrri, mc_irrrr, mc_riiii, mc_riiir, mc_riiri, mc_riirr, mc_ririi, mc_ririr, mc_rirri, mc_rirrr, mc_rriii, mc_rriir, mc_rriri, mc_rrirr, mc_rrrii, mc_rrrir, mc_rrrri, mc_rrrrr, mK_wA, mL_wA, mI_wA, wC_wA, gK_91 g, gR_91_0 gA1, gR_91_1 gA1, gR_91_2 gA, gR_91_2 gA1, gK_92 g, gL_92 g, gR_grid gA (show k < 9 by omega), gR_grid gA (show k + 1 < 9 by omega), gR_grid gA1 (show k + 1 < 9 by omega), gK_grid g (show k < 9 by omega), gK_grid g (show k + 1 < 9 by omega), gL_grid g (show k < 9 by omega), gL_grid g (show k + 1 < 9 by omega), gK_102 g, gK_2 g, ixN (show k < 9 by omega) (by omega), cl (show k < 2 ^ 31 by omega), ixN (show k + 1 < 9 by omega) (by omega), cl (show k + 1 < 2 ^ 31 by omega), k18, l0, l4, c0, c4, Nat.le_refl, i5, nI_add, t31, nI_1, e2, gR_91_0 gA2, i3, gb]
  · rw [xI_ap, if_neg h3, if_neg h2, if_neg h1, cpI_ne h1]
  · rw [xI_ap, if_neg (by omega), if_neg (by omega), if_pos rfl]
    exact s1 p hp
def usr (x y : Int32) : Int32 := (x.toUInt32 >>> (y.toUInt32 &&& Int32.toUInt32 31)).toInt32
def bc1 (x : Int32) : Int32 := x - (usr x 1 &&& 1431655765)
def bc2 (x : Int32) : Int32 := (x &&& 858993459) + (usr x 2 &&& 858993459)
def bc3 (x : Int32) : Int32 := (x + usr x 4) &&& 252645135
def bc4 (x : Int32) : Int32 := x + usr x 8
def bc5 (x : Int32) : Int32 := x + usr x 16
theorem bc_all : ∀ S, S < 256 → bc5 (bc4 (bc3 (bc2 (bc1 (nI S))))) &&& 63 = nI (BC S 8) := by decide +kernel
theorem c121 {d : Nat} {h : mM} {S : Nat} (hS : S < 256) : ev d 121 0 [some (.int (nI S))] [] h = some (some (.int (nI (BC S 8))), h) := by
  rw [← bc_all S hS]
  simp only [e_121_0, e_121_1, e_121_2, e_121_3, e_121_4, e_121_7, e_121_8, e_121_9, e_121_10, e_121_11, e_121_14, e_121_15, e_121_16, e_121_17, e_121_18, e_121_21, e_121_22, e_121_23, e_121_24, e_121_25, e_121_26, e_121_27, e_121_28, e_121_29, e_121_32, e_121_33, e_121_34, e_121_35, e_121_36, e_121_38, e_121_39, e_121_40, e_121_41, e_121_42, e_121_43, e_121_45, e_121_46, e_121_47, e_121_48, e_121_49, e_121_51, e_121_52, cV_some, tl_some, tl_none, mZO_0, mZO_1, mL1_n, mL1_i, mL1_r, oB_some, List.cons_append, List.nil_append, mK_wI, mL_wI, mN_wI, mR_wI, mJ_wI, mK_wJ, mL_wJ, mI_wJ, mR_wJ, mK_wR, mL_wR, mI_wR, mJ_wR, bI_0, bI_n0, if_true, if_false, Nat.reduceLeDiff, Nat.reduceAdd, ite_not, reduceIte, not_false_eq_true, not_true_eq_false, true_and, and_true, and_self, or_false, false_or, or_true, true_or, Nat.reduceEqDiff, Nat.reduceLT, Nat.zero_le, Nat.add_zero, eq_self, false_and, and_false, mc_, mc_i, mc_r, mc_l, mc_ii, mc_ir, mc_il, mc_ri, mc_rr, mc_rl, mc_li, mc_lr, mc_ll, mc_iii, mc_iir, mc_iil, mc_iri, mc_irr, mc_irl, mc_ili, mc_ilr, mc_ill, mc_rii, mc_rir, mc_ril, mc_rri, mc_rrr, mc_rrl, mc_rli, mc_rlr, mc_rll, mc_lii, mc_lir, mc_lil, mc_lri, mc_lrr, mc_lrl, mc_lli, mc_llr, mc_lll, mc_iiii, mc_iiir, mc_iiri, mc_iirr, mc_irii, mc_irir, mc_irri, mc_irrr, mc_riii, mc_riir, mc_riri, mc_rirr, mc_rrii, mc_rrir, mc_rrri, mc_rrrr, mc_iiiii, mc_iiiir, mc_iiiri, mc_iiirr, mc_iirii, mc_iirir, mc_iirri, mc_iirrr, mc_iriii, mc_iriir, mc_iriri, mc_irirr, mc_irrii, mc_irrir, mc_irrri, mc_irrrr, mc_riiii, mc_riiir, mc_riiri, mc_riirr, mc_ririi, mc_ririr, mc_rirri, mc_rirrr, mc_rriii, mc_rriir, mc_rriri, mc_rrirr, mc_rrrii, mc_rrrir, mc_rrrri, mc_rrrrr]
  rfl
/-- better: more ground, or as much in fewer hours, or the smaller number -/
abbrev btr (b : Nat × Nat) (S g : Nat) : Prop := b.2 < g ∨ (g = b.2 ∧ (BC S 8 < BC b.1 8 ∨ (BC S 8 = BC b.1 8 ∧ S < b.1)))
def kpB (S g : Nat) (b : Nat × Nat) : Nat × Nat := if btr b S g then (S, g) else b
theorem c26 {d : Nat} {h : mM} (g : G h) {I : Nat → Nat → Int32} {S gs : Nat} (hS : S < 256) (hg : gs < 2 ^ 31) {b : Nat × Nat} (h6 : I 91 6 = nI b.1) (h7 : I 91 7 = nI b.2) (hb1 : b.1 < 256) (hb2 : b.2 < 2 ^ 31) : ev (d + 1) 26 0 [some (.ref 91), some (.int (nI S)), some (.int (nI gs)), none, none] [] (wA h I (mR h)) = some (none, wA h (if btr b S gs then u2 (u2 I 91 6 (nI S)) 91 7 (nI gs) else I) (mR h)) := by
  have bs := BC_le (S := S) 8
  have bb := BC_le (S := b.1) 8
  have e1 : nI (BC b.1 8) - nI (BC S 8) ≤ 0 ↔ BC b.1 8 ≤ BC S 8 := nI_sub0 (by omega) (by omega)
  have e2 : nI (BC b.1 8) - nI (BC S 8) = 0 ↔ BC b.1 8 = BC S 8 := by
    constructor
    · intro z
      have z1 := congrArg Int32.toInt z
      rw [pk_sub_toInt (by omega) (by omega)] at z1
      have : (0 : Int32).toInt = 0 := rfl
      omega
    · intro z
      rw [z, pk_sub (Nat.le_refl _), Nat.sub_self]
      rfl
  have z10 : ¬ (1 : Int32) = 0 := by decide
  by_cases b1 : b.2 < gs
  · have c1 : nI b.2 < nI gs := nI_lt b1 hg
    rw [if_pos (Or.inl b1)]
    simp only [e_26_0, e_26_1, e_26_4, e_26_7, e_26_8, e_26_11, e_26_12, e_26_13, e_26_14, e_26_15, e_26_18, e_26_21, e_26_22, e_26_23, e_26_26, e_26_29, e_26_30, e_26_33, e_26_34, e_26_37, e_26_38, e_26_39, e_26_42, e_26_45, e_26_46, e_26_49, e_26_50, e_26_52, e_26_54, e_26_57, e_26_58, e_26_59, e_26_62, e_26_63, e_26_64, e_26_67, cV_some, tl_some, tl_none, mZO_0, mZO_1, mL1_n, mL1_i, mL1_r, oB_some, List.cons_append, List.nil_append, mK_wI, mL_wI, mN_wI, mR_wI, mJ_wI, mK_wJ, mL_wJ, mI_wJ, mR_wJ, mK_wR, mL_wR, mI_wR, mJ_wR, bI_0, bI_n0, if_true, if_false, Nat.reduceLeDiff, Nat.reduceAdd, ite_not, reduceIte, not_false_eq_true, not_true_eq_false, true_and, and_true, and_self, or_false, false_or, or_true, true_or, Nat.reduceEqDiff, Nat.reduceLT, Nat.zero_le, Nat.add_zero, eq_self, false_and, and_false, mc_, mc_i, mc_r, mc_l, mc_ii, mc_ir, mc_il, mc_ri, mc_rr, mc_rl, mc_li, mc_lr, mc_ll, mc_iii, mc_iir, mc_iil, mc_iri, mc_irr, mc_irl, mc_ili, mc_ilr, mc_ill, mc_rii, mc_rir, mc_ril, mc_rri, mc_rrr, mc_rrl, mc_rli, mc_rlr, mc_rll, mc_lii, mc_lir, mc_lil, mc_lri, mc_lrr, mc_lrl, mc_lli, mc_llr, mc_lll, mc_iiii, mc_iiir, mc_iiri, mc_iirr, mc_irii, mc_irir, mc_irri, mc_irrr, mc_riii, mc_riir, mc_riri, mc_rirr, mc_rrii, mc_rrir, mc_rrri, mc_rrrr, mc_iiiii, mc_iiiir, mc_iiiri, mc_iiirr, mc_iirii, mc_iirir, mc_iirri, mc_iirrr, mc_iriii, mc_iriir, mc_iriri, mc_irirr, mc_irrii, mc_irrir, mc_irrri, mc_irrrr, mc_riiii, mc_riiir, mc_riiri, mc_riirr, mc_ririi, mc_ririr, mc_rirri, mc_rirrr, mc_rriii, mc_rriir, mc_rriri, mc_rrirr, mc_rrrii, mc_rrrir, mc_rrrri, mc_rrrrr, mK_wA, mI_wA, wI_wA, gK_91 g, h6, h7, c121 hb1, c121 hS, c1, z10]
  · have c1 : ¬ nI b.2 < nI gs := nI_nlt (by omega) hb2
    by_cases b2 : gs = b.2
    · have c2 : nI gs = nI b.2 := by rw [b2]
      by_cases b3 : BC S 8 < BC b.1 8
      · have c3 : 0 < nI (BC b.1 8) - nI (BC S 8) := Int32.not_le.mp (fun z => by have := e1.mp z; omega)
        rw [if_pos (Or.inr ⟨b2, Or.inl b3⟩)]
        simp only [e_26_0, e_26_1, e_26_4, e_26_7, e_26_8, e_26_11, e_26_12, e_26_13, e_26_14, e_26_15, e_26_18, e_26_21, e_26_22, e_26_23, e_26_26, e_26_29, e_26_30, e_26_33, e_26_34, e_26_37, e_26_38, e_26_39, e_26_42, e_26_45, e_26_46, e_26_49, e_26_50, e_26_52, e_26_54, e_26_57, e_26_58, e_26_59, e_26_62, e_26_63, e_26_64, e_26_67, cV_some, tl_some, tl_none, mZO_0, mZO_1, mL1_n, mL1_i, mL1_r, oB_some, List.cons_append, List.nil_append, mK_wI, mL_wI, mN_wI, mR_wI, mJ_wI, mK_wJ, mL_wJ, mI_wJ, mR_wJ, mK_wR, mL_wR, mI_wR, mJ_wR, bI_0, bI_n0, if_true, if_false, Nat.reduceLeDiff, Nat.reduceAdd, ite_not, reduceIte, not_false_eq_true, not_true_eq_false, true_and, and_true, and_self, or_false, false_or, or_true, true_or, Nat.reduceEqDiff, Nat.reduceLT, Nat.zero_le, Nat.add_zero, eq_self, false_and, and_false, mc_, mc_i, mc_r, mc_l, mc_ii, mc_ir, mc_il, mc_ri, mc_rr, mc_rl, mc_li, mc_lr, mc_ll, mc_iii, mc_iir, mc_iil, mc_iri, mc_irr, mc_irl, mc_ili, mc_ilr, mc_ill, mc_rii, mc_rir, mc_ril, mc_rri, mc_rrr, mc_rrl, mc_rli, mc_rlr, mc_rll, mc_lii, mc_lir, mc_lil, mc_lri, mc_lrr, mc_lrl, mc_lli, mc_llr, mc_lll, mc_iiii, mc_iiir, mc_iiri, mc_iirr, mc_irii, mc_irir, mc_irri, mc_irrr, mc_riii, mc_riir, mc_riri, mc_rirr, mc_rrii, mc_rrir, mc_rrri, mc_rrrr, mc_iiiii, mc_iiiir, mc_iiiri, mc_iiirr, mc_iirii, mc_iirir, mc_iirri, mc_iirrr, mc_iriii, mc_iriir, mc_iriri, mc_irirr, mc_irrii, mc_irrir, mc_irrri, mc_irrrr, mc_riiii, mc_riiir, mc_riiri, mc_riirr, mc_ririi, mc_ririr, mc_rirri, mc_rirrr, mc_rriii, mc_rriir, mc_rriri, mc_rrirr, mc_rrrii, mc_rrrir, mc_rrrri, mc_rrrrr, mK_wA, mI_wA, wI_wA, gK_91 g, h6, h7, c121 hb1, c121 hS, c1, c2, c3, z10, Int32.lt_irrefl]
      · have c3 : ¬ 0 < nI (BC b.1 8) - nI (BC S 8) := Int32.not_lt.mpr (e1.mpr (by omega))
        by_cases b4 : BC S 8 = BC b.1 8
        · have c4 : nI (BC b.1 8) - nI (BC S 8) = 0 := e2.mpr b4.symm
          have z00 : ¬ (0 : Int32) < 0 := by decide
          by_cases b5 : S < b.1
          · have c5 : ¬ nI b.1 ≤ nI S := nI_ge b5 (by omega)
            rw [if_pos (Or.inr ⟨b2, Or.inr ⟨b4, b5⟩⟩)]
            simp only [e_26_0, e_26_1, e_26_4, e_26_7, e_26_8, e_26_11, e_26_12, e_26_13, e_26_14, e_26_15, e_26_18, e_26_21, e_26_22, e_26_23, e_26_26, e_26_29, e_26_30, e_26_33, e_26_34, e_26_37, e_26_38, e_26_39, e_26_42, e_26_45, e_26_46, e_26_49, e_26_50, e_26_52, e_26_54, e_26_57, e_26_58, e_26_59, e_26_62, e_26_63, e_26_64, e_26_67, cV_some, tl_some, tl_none, mZO_0, mZO_1, mL1_n, mL1_i, mL1_r, oB_some, List.cons_append, List.nil_append, mK_wI, mL_wI, mN_wI, mR_wI, mJ_wI, mK_wJ, mL_wJ, mI_wJ, mR_wJ, mK_wR, mL_wR, mI_wR, mJ_wR, bI_0, bI_n0, if_true, if_false, Nat.reduceLeDiff, Nat.reduceAdd, ite_not, reduceIte, not_false_eq_true, not_true_eq_false, true_and, and_true, and_self, or_false, false_or, or_true, true_or, Nat.reduceEqDiff, Nat.reduceLT, Nat.zero_le, Nat.add_zero, eq_self, false_and, and_false, mc_, mc_i, mc_r, mc_l, mc_ii, mc_ir, mc_il, mc_ri, mc_rr, mc_rl, mc_li, mc_lr, mc_ll, mc_iii, mc_iir, mc_iil, mc_iri, mc_irr, mc_irl, mc_ili, mc_ilr, mc_ill, mc_rii, mc_rir, mc_ril, mc_rri, mc_rrr, mc_rrl, mc_rli, mc_rlr, mc_rll, mc_lii, mc_lir, mc_lil, mc_lri, mc_lrr, mc_lrl, mc_lli, mc_llr, mc_lll, mc_iiii, mc_iiir, mc_iiri, mc_iirr, mc_irii, mc_irir, mc_irri, mc_irrr, mc_riii, mc_riir, mc_riri, mc_rirr, mc_rrii, mc_rrir, mc_rrri, mc_rrrr, mc_iiiii, mc_iiiir, mc_iiiri, mc_iiirr, mc_iirii, mc_iirir, mc_iirri, mc_iirrr, mc_iriii, mc_iriir, mc_iriri, mc_irirr, mc_irrii, mc_irrir, mc_irrri, mc_irrrr, mc_riiii, mc_riiir, mc_riiri, mc_riirr, mc_ririi, mc_ririr, mc_rirri, mc_rirrr, mc_rriii, mc_rriir, mc_rriri, mc_rrirr, mc_rrrii, mc_rrrir, mc_rrrri, mc_rrrrr, mK_wA, mI_wA, wI_wA, gK_91 g, h6, h7, c121 hb1, c121 hS, c1, c2, c4, c5, z10, z00, Int32.lt_irrefl]
          · have c5 : nI b.1 ≤ nI S := nI_le (by omega) (by omega)
            rw [if_neg (by omega)]
            simp only [e_26_0, e_26_1, e_26_4, e_26_7, e_26_8, e_26_11, e_26_12, e_26_13, e_26_14, e_26_15, e_26_18, e_26_21, e_26_22, e_26_23, e_26_26, e_26_29, e_26_30, e_26_33, e_26_34, e_26_37, e_26_38, e_26_39, e_26_42, e_26_45, e_26_46, e_26_49, e_26_50, e_26_52, e_26_54, e_26_57, e_26_58, e_26_59, e_26_62, e_26_63, e_26_64, e_26_67, cV_some, tl_some, tl_none, mZO_0, mZO_1, mL1_n, mL1_i, mL1_r, oB_some, List.cons_append, List.nil_append, mK_wI, mL_wI, mN_wI, mR_wI, mJ_wI, mK_wJ, mL_wJ, mI_wJ, mR_wJ, mK_wR, mL_wR, mI_wR, mJ_wR, bI_0, bI_n0, if_true, if_false, Nat.reduceLeDiff, Nat.reduceAdd, ite_not, reduceIte, not_false_eq_true, not_true_eq_false, true_and, and_true, and_self, or_false, false_or, or_true, true_or, Nat.reduceEqDiff, Nat.reduceLT, Nat.zero_le, Nat.add_zero, eq_self, false_and, and_false, mc_, mc_i, mc_r, mc_l, mc_ii, mc_ir, mc_il, mc_ri, mc_rr, mc_rl, mc_li, mc_lr, mc_ll, mc_iii, mc_iir, mc_iil, mc_iri, mc_irr, mc_irl, mc_ili, mc_ilr, mc_ill, mc_rii, mc_rir, mc_ril, mc_rri, mc_rrr, mc_rrl, mc_rli, mc_rlr, mc_rll, mc_lii, mc_lir, mc_lil, mc_lri, mc_lrr, mc_lrl, mc_lli, mc_llr, mc_lll, mc_iiii, mc_iiir, mc_iiri, mc_iirr, mc_irii, mc_irir, mc_irri, mc_irrr, mc_riii, mc_riir, mc_riri, mc_rirr, mc_rrii, mc_rrir, mc_rrri, mc_rrrr, mc_iiiii, mc_iiiir, mc_iiiri, mc_iiirr, mc_iirii, mc_iirir, mc_iirri, mc_iirrr, mc_iriii, mc_iriir, mc_iriri, mc_irirr, mc_irrii, mc_irrir, mc_irrri, mc_irrrr, mc_riiii, mc_riiir, mc_riiri, mc_riirr, mc_ririi, mc_ririr, mc_rirri, mc_rirrr, mc_rriii, mc_rriir, mc_rriri, mc_rrirr, mc_rrrii, mc_rrrir, mc_rrrri, mc_rrrrr, mK_wA, mI_wA, wI_wA, gK_91 g, h6, h7, c121 hb1, c121 hS, c1, c2, c4, c5, z10, z00, Int32.lt_irrefl]
        · have c4 : ¬ nI (BC b.1 8) - nI (BC S 8) = 0 := fun z => b4 (e2.mp z).symm
          rw [if_neg (by omega)]
          simp only [e_26_0, e_26_1, e_26_4, e_26_7, e_26_8, e_26_11, e_26_12, e_26_13, e_26_14, e_26_15, e_26_18, e_26_21, e_26_22, e_26_23, e_26_26, e_26_29, e_26_30, e_26_33, e_26_34, e_26_37, e_26_38, e_26_39, e_26_42, e_26_45, e_26_46, e_26_49, e_26_50, e_26_52, e_26_54, e_26_57, e_26_58, e_26_59, e_26_62, e_26_63, e_26_64, e_26_67, cV_some, tl_some, tl_none, mZO_0, mZO_1, mL1_n, mL1_i, mL1_r, oB_some, List.cons_append, List.nil_append, mK_wI, mL_wI, mN_wI, mR_wI, mJ_wI, mK_wJ, mL_wJ, mI_wJ, mR_wJ, mK_wR, mL_wR, mI_wR, mJ_wR, bI_0, bI_n0, if_true, if_false, Nat.reduceLeDiff, Nat.reduceAdd, ite_not, reduceIte, not_false_eq_true, not_true_eq_false, true_and, and_true, and_self, or_false, false_or, or_true, true_or, Nat.reduceEqDiff, Nat.reduceLT, Nat.zero_le, Nat.add_zero, eq_self, false_and, and_false, mc_, mc_i, mc_r, mc_l, mc_ii, mc_ir, mc_il, mc_ri, mc_rr, mc_rl, mc_li, mc_lr, mc_ll, mc_iii, mc_iir, mc_iil, mc_iri, mc_irr, mc_irl, mc_ili, mc_ilr, mc_ill, mc_rii, mc_rir, mc_ril, mc_rri, mc_rrr, mc_rrl, mc_rli, mc_rlr, mc_rll, mc_lii, mc_lir, mc_lil, mc_lri, mc_lrr, mc_lrl, mc_lli, mc_llr, mc_lll, mc_iiii, mc_iiir, mc_iiri, mc_iirr, mc_irii, mc_irir, mc_irri, mc_irrr, mc_riii, mc_riir, mc_riri, mc_rirr, mc_rrii, mc_rrir, mc_rrri, mc_rrrr, mc_iiiii, mc_iiiir, mc_iiiri, mc_iiirr, mc_iirii, mc_iirir, mc_iirri, mc_iirrr, mc_iriii, mc_iriir, mc_iriri, mc_irirr, mc_irrii, mc_irrir, mc_irrri, mc_irrrr, mc_riiii, mc_riiir, mc_riiri, mc_riirr, mc_ririi, mc_ririr, mc_rirri, mc_rirrr, mc_rriii, mc_rriir, mc_rriri, mc_rrirr, mc_rrrii, mc_rrrir, mc_rrrri, mc_rrrrr, mK_wA, mI_wA, wI_wA, gK_91 g, h6, h7, c121 hb1, c121 hS, c1, c2, c3, c4, z10, Int32.lt_irrefl]
    · have c2 : ¬ nI gs = nI b.2 := nI_ne b2 hg hb2
      rw [if_neg (by omega)]
      simp only [e_26_0, e_26_1, e_26_4, e_26_7, e_26_8, e_26_11, e_26_12, e_26_13, e_26_14, e_26_15, e_26_18, e_26_21, e_26_22, e_26_23, e_26_26, e_26_29, e_26_30, e_26_33, e_26_34, e_26_37, e_26_38, e_26_39, e_26_42, e_26_45, e_26_46, e_26_49, e_26_50, e_26_52, e_26_54, e_26_57, e_26_58, e_26_59, e_26_62, e_26_63, e_26_64, e_26_67, cV_some, tl_some, tl_none, mZO_0, mZO_1, mL1_n, mL1_i, mL1_r, oB_some, List.cons_append, List.nil_append, mK_wI, mL_wI, mN_wI, mR_wI, mJ_wI, mK_wJ, mL_wJ, mI_wJ, mR_wJ, mK_wR, mL_wR, mI_wR, mJ_wR, bI_0, bI_n0, if_true, if_false, Nat.reduceLeDiff, Nat.reduceAdd, ite_not, reduceIte, not_false_eq_true, not_true_eq_false, true_and, and_true, and_self, or_false, false_or, or_true, true_or, Nat.reduceEqDiff, Nat.reduceLT, Nat.zero_le, Nat.add_zero, eq_self, false_and, and_false, mc_, mc_i, mc_r, mc_l, mc_ii, mc_ir, mc_il, mc_ri, mc_rr, mc_rl, mc_li, mc_lr, mc_ll, mc_iii, mc_iir, mc_iil, mc_iri, mc_irr, mc_irl, mc_ili, mc_ilr, mc_ill, mc_rii, mc_rir, mc_ril, mc_rri, mc_rrr, mc_rrl, mc_rli, mc_rlr, mc_rll, mc_lii, mc_lir, mc_lil, mc_lri, mc_lrr, mc_lrl, mc_lli, mc_llr, mc_lll, mc_iiii, mc_iiir, mc_iiri, mc_iirr, mc_irii, mc_irir, mc_irri, mc_irrr, mc_riii, mc_riir, mc_riri, mc_rirr, mc_rrii, mc_rrir, mc_rrri, mc_rrrr, mc_iiiii, mc_iiiir, mc_iiiri, mc_iiirr, mc_iirii, mc_iirir, mc_iirri, mc_iirrr, mc_iriii, mc_iriir, mc_iriri, mc_irirr, mc_irrii, mc_irrir, mc_irrri, mc_irrrr, mc_riiii, mc_riiir, mc_riiri, mc_riirr, mc_ririi, mc_ririr, mc_rirri, mc_rirrr, mc_rriii, mc_rriir, mc_rriri, mc_rrirr, mc_rrrii, mc_rrrir, mc_rrrri, mc_rrrrr, mK_wA, mI_wA, wI_wA, gK_91 g, h6, h7, c121 hb1, c121 hS, c1, c2, z10]
