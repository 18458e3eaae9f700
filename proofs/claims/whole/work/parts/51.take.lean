-- a mill takes what was ground
def Qc (I : Nat → Nat → Int32) (m : Nat) (P : Nat → Nat) : Nat → List Sk → Prop
  | _, [] => True
  | i, s :: q => (I (23 + 18 * m + P i) 0 = nI s.1 ∧ I (23 + 18 * m + P i) 1 = nI s.2.1 ∧ I (23 + 18 * m + P i) 2 = nI s.2.2.1 ∧ I (23 + 18 * m + P i) 3 = s.2.2.2) ∧ Qc I m P (i + 1) q
theorem Qc_congr {I I' : Nat → Nat → Int32} {m : Nat} {P P' : Nat → Nat} {e : Nat} : ∀ {q : List Sk} {i : Nat}, (∀ k, i ≤ k → k < i + q.length → ∀ j, j < 4 → I' (23 + 18 * m + P' k) j = I (23 + 18 * m + P (k + e)) j) → Qc I m P (i + e) q → Qc I' m P' i q
  | [], _, _, _ => trivial
  | s :: q, i, he, ⟨⟨h1, h2, h3, h4⟩, hq⟩ => by
    have hl : (s :: q).length = q.length + 1 := rfl
    rw [hl] at he
    have z := he i (by omega) (by omega)
    refine ⟨⟨(z 0 (by omega)).trans h1, (z 1 (by omega)).trans h2, (z 2 (by omega)).trans h3, (z 3 (by omega)).trans h4⟩, Qc_congr (e := e) (i := i + 1) (fun k k1 k2 => he k (by omega) (by omega)) ?_⟩
    rw [show i + 1 + e = i + e + 1 by omega]
    exact hq
/-- the sacks of mill m -/
def CS (I : Nat → Nat → Int32) (R : Nat → Nat → Option Nat) (m : Nat) (q : List Sk) (P : Nat → Nat) : Prop := PS R m P ∧ I (17 + 18 * m) 8 = nI q.length ∧ Qc I m P 0 q
/-- what taking x makes of the cells -/
def TK (kd hr : Int32) (m x : Nat) (q : List Sk) (I : Nat → Nat → Int32) (R : Nat → Nat → Option Nat) (I' : Nat → Nat → Int32) (R' : Nat → Nat → Option Nat) (P' : Nat → Nat) : Prop := (∀ b j, b ≠ 17 + 18 * m → b ≠ 105 → ¬ (23 + 18 * m ≤ b ∧ b < 35 + 18 * m) → I' b j = I b j) ∧ (∀ j, j < 8 ∨ j = 9 ∨ 13 < j → I' (17 + 18 * m) j = I (17 + 18 * m) j) ∧ (I' (17 + 18 * m) 10 = I (17 + 18 * m) 10 + nI (sumD (tlN kd) (gvQ x q).2.1) ∧ I' (17 + 18 * m) 11 = I (17 + 18 * m) 11 + nI (gvQ x q).2.1.length ∧ I' (17 + 18 * m) 12 = I (17 + 18 * m) 12 + nI (sumD (ltN hr) (gvQ x q).2.1) ∧ I' (17 + 18 * m) 13 = I (17 + 18 * m) 13 + nI (gvQ x q).2.2) ∧ (∀ c, I' 105 c = I 105 c + nI (sumD (flN kd c) (gvQ x q).2.1)) ∧ (∀ b j, b ≠ 19 + 18 * m → R' b j = R b j) ∧ CS I' R' m (gvQ x q).1 P'
theorem nI_z (x : Int32) : x + nI 0 = x := Int32.add_zero x
theorem nI_sum {x : Int32} {a b : Nat} : x + nI a + nI b = x + nI (a + b) := by rw [Int32.add_assoc, nI_add]
theorem RG_of {h : mM} {R R' : Nat → Nat → Option Nat} {m : Nat} (hm : m < 4) (hR : RG h R) (h' : ∀ b j, b ≠ 19 + 18 * m → R' b j = R b j) : RG h R' := fun b j hb => by
  rw [h' b j (hb m hm)]
  exact hR b j hb
theorem exit13 {d : Nat} {h : mM} (g : G h) {I : Nat → Nat → Int32} {R : Nat → Nat → Option Nat} {m x i n : Nat} (hm : m < 4) (hx : x < 2 ^ 31) (hi : i ≤ 12) (hn : I (17 + 18 * m) 8 = nI n) (hn2 : n ≤ 12) {y hr : Int32} {o6 o7 : Option Value} (h0 : 12 ≤ i ∨ x = 0 ∨ n = 0) : ev d 13 16 [some (.ref (17 + 18 * m)), some (.int y), some (.int hr), some (.ref 105), some (.int (nI x)), some (.int (nI i)), o6, o7] [] (wA h I R) = some (none, wA h (u2 I (17 + 18 * m) 13 (I (17 + 18 * m) 13 + nI x)) R) := by
  rw [e_13_16]
  by_cases b1 : 12 ≤ i
  · have c1 : (12 : Int32) ≤ nI i := nI_le (a := 12) b1 (by omega)
    simp only [e_13_0, e_13_1r, e_13_1i, e_13_2, e_13_5, e_13_6, e_13_7, e_13_10, e_13_11, e_13_13, e_13_14, e_13_18, e_13_20, e_13_23, e_13_24, e_13_27, e_13_30, e_13_32, e_13_35, e_13_36, e_13_39, e_13_40, e_13_41, e_13_43, e_13_45, e_13_47, e_13_50, e_13_53, e_13_55, e_13_57r, e_13_57i, e_13_58, e_13_61, e_13_63, e_13_64, e_13_67, e_13_69, e_13_71, e_13_72, e_13_74, e_13_76, e_13_79, e_13_82, e_13_83, e_13_84, e_13_85, e_13_88, e_13_91, e_13_94, e_13_95r, e_13_95i, e_13_96, e_13_99, e_13_101, e_13_102, e_13_105, cV_some, tl_some, tl_none, mZO_0, mZO_1, mL1_n, mL1_i, mL1_r, oB_some, List.cons_append, List.nil_append, mK_wI, mL_wI, mN_wI, mR_wI, mJ_wI, mK_wJ, mL_wJ, mI_wJ, mR_wJ, mK_wR, mL_wR, mI_wR, mJ_wR, bI_0, bI_n0, if_true, if_false, Nat.reduceLeDiff, Nat.reduceAdd, ite_not, reduceIte, not_false_eq_true, not_true_eq_false, true_and, and_true, and_self, or_false, false_or, or_true, true_or, Nat.reduceEqDiff, Nat.reduceLT, Nat.zero_le, Nat.add_zero, eq_self, false_and, and_false, mc_, mc_i, mc_r, mc_l, mc_ii, mc_ir, mc_il, mc_ri, mc_rr, mc_rl, mc_li, mc_lr, mc_ll, mc_iii, mc_iir, mc_iil, mc_iri, mc_irr, mc_irl, mc_ili, mc_ilr, mc_ill, mc_rii, mc_rir, mc_ril, mc_rri, mc_rrr, mc_rrl, mc_rli, mc_rlr, mc_rll, mc_lii, mc_lir, mc_lil, mc_lri, mc_lrr, mc_lrl, mc_lli, mc_llr, mc_lll, mc_iiii, mc_iiir, mc_iiri, mc_iirr, mc_irii, mc_irir, mc_irri, mc_irrr, mc_riii, mc_riir, mc_riri, mc_rirr, mc_rrii, mc_rrir, mc_rrri, mc_rrrr, mc_iiiii, mc_iiiir, mc_iiiri, mc_iiirr, mc_iirii, mc_iirir, mc_iirri, mc_iirrr, mc_iriii, mc_iriir, mc_iriri, mc_irirr, mc_irrii, mc_irrir, mc_irrri, mc_irrrr, mc_riiii, mc_riiir, mc_riiri, mc_riirr, mc_ririi, mc_ririr, mc_rirri, mc_rirrr, mc_rriii, mc_rriir, mc_rriri, mc_rrirr, mc_rrrii, mc_rrrir, mc_rrrri, mc_rrrrr, mK_wA, mI_wA, wI_wA, gK_mill g hm, c1]
  · have c1 : ¬ (12 : Int32) ≤ nI i := nI_ge (b := 12) (by omega) (by omega)
    by_cases b2 : n = 0
    · subst b2
      have c2 : nI 0 ≤ 0 := by decide
      simp only [e_13_0, e_13_1r, e_13_1i, e_13_2, e_13_5, e_13_6, e_13_7, e_13_10, e_13_11, e_13_13, e_13_14, e_13_18, e_13_20, e_13_23, e_13_24, e_13_27, e_13_30, e_13_32, e_13_35, e_13_36, e_13_39, e_13_40, e_13_41, e_13_43, e_13_45, e_13_47, e_13_50, e_13_53, e_13_55, e_13_57r, e_13_57i, e_13_58, e_13_61, e_13_63, e_13_64, e_13_67, e_13_69, e_13_71, e_13_72, e_13_74, e_13_76, e_13_79, e_13_82, e_13_83, e_13_84, e_13_85, e_13_88, e_13_91, e_13_94, e_13_95r, e_13_95i, e_13_96, e_13_99, e_13_101, e_13_102, e_13_105, cV_some, tl_some, tl_none, mZO_0, mZO_1, mL1_n, mL1_i, mL1_r, oB_some, List.cons_append, List.nil_append, mK_wI, mL_wI, mN_wI, mR_wI, mJ_wI, mK_wJ, mL_wJ, mI_wJ, mR_wJ, mK_wR, mL_wR, mI_wR, mJ_wR, bI_0, bI_n0, if_true, if_false, Nat.reduceLeDiff, Nat.reduceAdd, ite_not, reduceIte, not_false_eq_true, not_true_eq_false, true_and, and_true, and_self, or_false, false_or, or_true, true_or, Nat.reduceEqDiff, Nat.reduceLT, Nat.zero_le, Nat.add_zero, eq_self, false_and, and_false, mc_, mc_i, mc_r, mc_l, mc_ii, mc_ir, mc_il, mc_ri, mc_rr, mc_rl, mc_li, mc_lr, mc_ll, mc_iii, mc_iir, mc_iil, mc_iri, mc_irr, mc_irl, mc_ili, mc_ilr, mc_ill, mc_rii, mc_rir, mc_ril, mc_rri, mc_rrr, mc_rrl, mc_rli, mc_rlr, mc_rll, mc_lii, mc_lir, mc_lil, mc_lri, mc_lrr, mc_lrl, mc_lli, mc_llr, mc_lll, mc_iiii, mc_iiir, mc_iiri, mc_iirr, mc_irii, mc_irir, mc_irri, mc_irrr, mc_riii, mc_riir, mc_riri, mc_rirr, mc_rrii, mc_rrir, mc_rrri, mc_rrrr, mc_iiiii, mc_iiiir, mc_iiiri, mc_iiirr, mc_iirii, mc_iirir, mc_iirri, mc_iirrr, mc_iriii, mc_iriir, mc_iriri, mc_irirr, mc_irrii, mc_irrir, mc_irrri, mc_irrrr, mc_riiii, mc_riiir, mc_riiri, mc_riirr, mc_ririi, mc_ririr, mc_rirri, mc_rirrr, mc_rriii, mc_rriir, mc_rriri, mc_rrirr, mc_rrrii, mc_rrrir, mc_rrrri, mc_rrrrr, mK_wA, mI_wA, wI_wA, gK_mill g hm, c1, hn, c2]
    · have b3 : x = 0 := by omega
      subst b3
      have c2 : nI 0 ≤ 0 := by decide
      have c3 : ¬ nI n ≤ 0 := nI_nle (by omega) (by omega)
      simp only [e_13_0, e_13_1r, e_13_1i, e_13_2, e_13_5, e_13_6, e_13_7, e_13_10, e_13_11, e_13_13, e_13_14, e_13_18, e_13_20, e_13_23, e_13_24, e_13_27, e_13_30, e_13_32, e_13_35, e_13_36, e_13_39, e_13_40, e_13_41, e_13_43, e_13_45, e_13_47, e_13_50, e_13_53, e_13_55, e_13_57r, e_13_57i, e_13_58, e_13_61, e_13_63, e_13_64, e_13_67, e_13_69, e_13_71, e_13_72, e_13_74, e_13_76, e_13_79, e_13_82, e_13_83, e_13_84, e_13_85, e_13_88, e_13_91, e_13_94, e_13_95r, e_13_95i, e_13_96, e_13_99, e_13_101, e_13_102, e_13_105, cV_some, tl_some, tl_none, mZO_0, mZO_1, mL1_n, mL1_i, mL1_r, oB_some, List.cons_append, List.nil_append, mK_wI, mL_wI, mN_wI, mR_wI, mJ_wI, mK_wJ, mL_wJ, mI_wJ, mR_wJ, mK_wR, mL_wR, mI_wR, mJ_wR, bI_0, bI_n0, if_true, if_false, Nat.reduceLeDiff, Nat.reduceAdd, ite_not, reduceIte, not_false_eq_true, not_true_eq_false, true_and, and_true, and_self, or_false, false_or, or_true, true_or, Nat.reduceEqDiff, Nat.reduceLT, Nat.zero_le, Nat.add_zero, eq_self, false_and, and_false, mc_, mc_i, mc_r, mc_l, mc_ii, mc_ir, mc_il, mc_ri, mc_rr, mc_rl, mc_li, mc_lr, mc_ll, mc_iii, mc_iir, mc_iil, mc_iri, mc_irr, mc_irl, mc_ili, mc_ilr, mc_ill, mc_rii, mc_rir, mc_ril, mc_rri, mc_rrr, mc_rrl, mc_rli, mc_rlr, mc_rll, mc_lii, mc_lir, mc_lil, mc_lri, mc_lrr, mc_lrl, mc_lli, mc_llr, mc_lll, mc_iiii, mc_iiir, mc_iiri, mc_iirr, mc_irii, mc_irir, mc_irri, mc_irrr, mc_riii, mc_riir, mc_riri, mc_rirr, mc_rrii, mc_rrir, mc_rrri, mc_rrrr, mc_iiiii, mc_iiiir, mc_iiiri, mc_iiirr, mc_iirii, mc_iirir, mc_iirri, mc_iirrr, mc_iriii, mc_iriir, mc_iriri, mc_irirr, mc_irrii, mc_irrir, mc_irrri, mc_irrrr, mc_riiii, mc_riiir, mc_riiri, mc_riirr, mc_ririi, mc_ririr, mc_rirri, mc_rirrr, mc_rriii, mc_rriir, mc_rriri, mc_rrirr, mc_rrrii, mc_rrrir, mc_rrrri, mc_rrrrr, mK_wA, mI_wA, wI_wA, gK_mill g hm, c1, hn, c2, c3]
theorem TK_exit {kd hr : Int32} {m x : Nat} (hm : m < 4) {q : List Sk} {I : Nat → Nat → Int32} {R : Nat → Nat → Option Nat} {P : Nat → Nat} (C : CS I R m q P) (h0 : x = 0 ∨ q.length = 0) : TK kd hr m x q I R (u2 I (17 + 18 * m) 13 (I (17 + 18 * m) 13 + nI x)) R P := by
  have e : gvQ x q = (q, [], x) := by
    cases q with
    | nil => rfl
    | cons s q =>
      have : x = 0 := by
        rcases h0 with e | e
        · exact e
        · cases e
      subst this
      rfl
  unfold TK
  rw [e]
  obtain ⟨c1, c2, c3⟩ := C
  refine ⟨fun b j b1 _ _ => ?_, fun j hj => ?_, ⟨?_, ?_, ?_, ?_⟩, fun c => ?_, fun _ _ _ => rfl, c1, ?_, ?_⟩
  · rw [u2_ap, if_neg (fun z => b1 z.1)]
  · rw [u2_ap, if_neg (by omega)]
  · rw [u2_ap, if_neg (by omega)]; exact (nI_z _).symm
  · rw [u2_ap, if_neg (by omega)]; exact (nI_z _).symm
  · rw [u2_ap, if_neg (by omega)]; exact (nI_z _).symm
  · rw [u2_ap, if_pos ⟨rfl, rfl⟩]
  · rw [u2_ap, if_neg (by omega)]; exact (nI_z _).symm
  · rw [u2_ap, if_neg (by omega)]; exact c2
  · exact Qc_congr (e := 0) (fun k _ _ j hj => by rw [u2_ap, if_neg (by omega)]; rfl) c3
theorem TK_done {kd hr : Int32} {m x : Nat} (hm : m < 4) {s : Sk} (hs : okS s) {q : List Sk} (hl : q.length ≤ 11) {I : Nat → Nat → Int32} {R : Nat → Nat → Option Nat} {P : Nat → Nat} (hP : PS R m P) (hn : I (17 + 18 * m) 8 = nI (q.length + 1)) {v : Int32} {I' : Nat → Nat → Int32} {R' : Nat → Nat → Option Nat} {P' : Nat → Nat} (hx : s.2.2.1 ≤ x) (hg : TK kd hr m (x - s.2.2.1) q (finI (u2 I (23 + 18 * m + P 0) 2 v) (17 + 18 * m) s.1 (nI (tollN kd s.2.1)) (nI s.2.1) (decide (s.2.2.2 < hr))) (finR R m (23 + 18 * m + P 0)) I' R' P') : TK kd hr m x (s :: q) I R I' R' P' := by
  obtain ⟨q1, q2, q3, q4⟩ := hs
  have e : gvQ x (s :: q) = ((gvQ (x - s.2.2.1) q).1, (s.1, s.2.1, s.2.2.2) :: (gvQ (x - s.2.2.1) q).2.1, (gvQ (x - s.2.2.1) q).2.2) := gvQ_ge (by omega) (by omega)
  have p0 := (hP.1 0 (by omega)).2
  obtain ⟨g1, g2, ⟨g3, g4, g5, g6⟩, g7, g8, g9⟩ := hg
  have F : ∀ b j, finI (u2 I (23 + 18 * m + P 0) 2 v) (17 + 18 * m) s.1 (nI (tollN kd s.2.1)) (nI s.2.1) (decide (s.2.2.2 < hr)) b j = if b = 17 + 18 * m ∧ j = 8 then I (17 + 18 * m) 8 - 1 else if b = 105 ∧ j = s.1 then I 105 s.1 + (nI s.2.1 - nI (tollN kd s.2.1)) else if b = 17 + 18 * m ∧ j = 12 then (if s.2.2.2 < hr then I (17 + 18 * m) 12 + 1 else I (17 + 18 * m) 12) else if b = 17 + 18 * m ∧ j = 11 then I (17 + 18 * m) 11 + 1 else if b = 17 + 18 * m ∧ j = 10 then I (17 + 18 * m) 10 + nI (tollN kd s.2.1) else if b = 23 + 18 * m + P 0 ∧ j = 2 then v else I b j := by
    intro b j
    have z1 : ∀ k, u2 I (23 + 18 * m + P 0) 2 v (17 + 18 * m) k = I (17 + 18 * m) k := fun k => by rw [u2_ap, if_neg (by omega)]
    have z2 : ∀ k, u2 I (23 + 18 * m + P 0) 2 v 105 k = I 105 k := fun k => by rw [u2_ap, if_neg (by omega)]
    unfold finI
    simp only [z1, z2]
    by_cases l : s.2.2.2 < hr
    · simp only [l, decide_true, if_true, u2_ap]
    · simp only [l, decide_false, Bool.false_eq_true, if_false, u2_ap]
      by_cases y1 : b = 17 + 18 * m ∧ j = 8
      · rw [if_pos y1, if_pos y1]
      · rw [if_neg y1, if_neg y1]
        by_cases y2 : b = 105 ∧ j = s.1
        · rw [if_pos y2, if_pos y2]
        · rw [if_neg y2, if_neg y2]
          by_cases y3 : b = 17 + 18 * m ∧ j = 12
          · rw [if_pos y3, if_neg (by omega), if_neg (by omega), if_neg (by omega), y3.1, y3.2]
          · rw [if_neg y3]
  unfold TK
  rw [e]
  refine ⟨fun b j b1 b2 b3 => ?_, fun j hj => ?_, ⟨?_, ?_, ?_, g6.trans ?_⟩, fun c => ?_, fun b j hb => ?_, g9⟩
  · rw [g1 b j b1 b2 b3, F, if_neg (by omega), if_neg (by omega), if_neg (by omega), if_neg (by omega), if_neg (by omega), if_neg (by omega)]
  · rw [g2 j hj, F, if_neg (by omega), if_neg (by omega), if_neg (by omega), if_neg (by omega), if_neg (by omega), if_neg (by omega)]
  · rw [g3, F, if_neg (by omega), if_neg (by omega), if_neg (by omega), if_neg (by omega), if_pos ⟨rfl, rfl⟩, nI_sum]
    rfl
  · rw [g4, F, if_neg (by omega), if_neg (by omega), if_neg (by omega), if_pos ⟨rfl, rfl⟩]
    show _ + nI 1 + _ = _
    rw [nI_sum, Nat.add_comm 1]
    rfl
  · rw [g5, F, if_neg (by omega), if_neg (by omega), if_pos ⟨rfl, rfl⟩]
    have : (if s.2.2.2 < hr then I (17 + 18 * m) 12 + 1 else I (17 + 18 * m) 12) = I (17 + 18 * m) 12 + nI (ltN hr (s.1, s.2.1, s.2.2.2)) := by
      unfold ltN
      by_cases b : s.2.2.2 < hr
      · rw [if_pos b, if_pos b]; rfl
      · rw [if_neg b, if_neg b]; exact (nI_z _).symm
    rw [this, nI_sum]
    rfl
  · rw [F, if_neg (by omega), if_neg (by omega), if_neg (by omega), if_neg (by omega), if_neg (by omega), if_neg (by omega)]
  · rw [g7 c, F, if_neg (by omega)]
    show _ = I 105 c + nI (flN kd c (s.1, s.2.1, s.2.2.2) + _)
    unfold flN
    by_cases b : c = s.1
    · rw [if_pos ⟨rfl, b⟩, if_pos b, pk_sub tollN_le, nI_sum, b]
    · rw [if_neg (fun z => b z.2), if_neg (by omega), if_neg (by omega), if_neg (by omega), if_neg (by omega), if_neg b, Nat.zero_add]
  · rw [g8 b j hb]
    unfold finR
    rw [r2_ap, if_neg (fun z => hb z.1), rot_eq, if_neg (fun z => hb z.1)]
theorem loop13 {d : Nat} {h : mM} (g : G h) {m : Nat} (hm : m < 4) {y hr kd : Int32} : ∀ (q : List Sk) (x i : Nat) (I : Nat → Nat → Int32) (R : Nat → Nat → Option Nat) (P : Nat → Nat) (o6 o7 : Option Value), x < 2 ^ 31 → i + q.length ≤ 12 → RG h R → CS I R m q P → I (17 + 18 * m) 2 = kd → (∀ s ∈ q, okS s) → mLong o6 = false → ∃ I' R' P', TK kd hr m x q I R I' R' P' ∧ ev (d + 3) 13 16 [some (.ref (17 + 18 * m)), some (.int y), some (.int hr), some (.ref 105), some (.int (nI x)), some (.int (nI i)), o6, o7] [] (wA h I R) = some (none, wA h I' R')
  | [], x, i, I, R, P, o6, o7, hx, hl, hR, C, hk, hok, h6 => ⟨_, _, _, TK_exit hm C (Or.inr rfl), exit13 g hm hx (by have : ([] : List Sk).length = 0 := rfl; omega) C.2.1 (by have : ([] : List Sk).length = 0 := rfl; omega) (Or.inr (Or.inr rfl))⟩
  | s :: q, x, i, I, R, P, o6, o7, hx, hl, hR, C, hk, hok, h6 => by
    have hl2 : (s :: q).length = q.length + 1 := rfl
    by_cases b0 : x = 0
    · exact ⟨_, _, _, TK_exit hm C (Or.inl b0), exit13 g hm hx (by omega) C.2.1 (by omega) (Or.inr (Or.inl b0))⟩
    · obtain ⟨hP, hn, ⟨r0, r1, r2', r3⟩, hq⟩ := C
      have hs := hok s List.mem_cons_self
      have hs2 := hs
      obtain ⟨s1, s2, s3, s4⟩ := hs2
      have p0 := hP.1 0 (by omega)
      have hb := gK_sk g hm p0.2
      have hsac : R (17 + 18 * m) 1 = some (19 + 18 * m) := by
        rw [hR _ _ (fun m' hm' => by omega)]
        exact gR_sac g hm
      have k3 : 12 < 17 ∧ 17 < 19 := by decide
      have i0 : ixOK 0 12 = true := by decide
      have c0 : (0 : Int32).toNatClampNeg = 0 := by decide
      have ci : ¬ (12 : Int32) ≤ nI i := nI_ge (b := 12) (by omega) (by omega)
      rw [hl2] at hn
      have cn : ¬ nI (q.length + 1) ≤ 0 := nI_nle (by omega) (by omega)
      have cx : ¬ nI x ≤ 0 := nI_nle (by omega) hx
      have ns1 : ¬ 17 + 18 * m = 23 + 18 * m + P 0 := by omega
      by_cases b1 : x < s.2.2.1
      · have c1 : ¬ nI s.2.2.1 < nI x := nI_nlt (by omega) (by omega)
        have c2 : ¬ nI (s.2.2.1 - x) = 0 := nI_ne0 (by omega) (by omega)
        have c3 : nI s.2.2.1 - nI x = nI (s.2.2.1 - x) := pk_sub (by omega)
        have c4 : nI x - nI x = nI 0 := by rw [pk_sub (Nat.le_refl x), Nat.sub_self]
        have C1 : CS (u2 I (23 + 18 * m + P 0) 2 (nI (s.2.2.1 - x))) R m ((s.1, s.2.1, s.2.2.1 - x, s.2.2.2) :: q) P := by
          refine ⟨hP, ?_, ⟨?_, ?_, ?_, ?_⟩, ?_⟩
          · rw [u2_ap, if_neg (by omega)]; exact hn
          · rw [u2_ap, if_neg (by omega)]; exact r0
          · rw [u2_ap, if_neg (by omega)]; exact r1
          · rw [u2_ap, if_pos ⟨rfl, rfl⟩]
          · rw [u2_ap, if_neg (by omega)]; exact r3
          · refine Qc_congr (e := 0) (fun k k1 k2 j hj => ?_) hq
            rw [u2_ap, if_neg (fun z => ?_)]
            · rfl
            · have := hP.2 k 0 (by omega) (by omega) (by omega)
              omega
        have T := TK_exit (kd := kd) (hr := hr) (x := 0) hm C1 (Or.inl rfl)
        have z13 : u2 I (23 + 18 * m + P 0) 2 (nI (s.2.2.1 - x)) (17 + 18 * m) 13 = I (17 + 18 * m) 13 := by rw [u2_ap, if_neg (by omega)]
        have ex := fun (o6 o7 : Option Value) => exit13 (d := d + 3) g (R := R) (m := m) (x := 0) (i := i + 1) hm (by omega) (by omega) C1.2.1 (by show q.length + 1 ≤ 12; omega) (y := y) (hr := hr) (o6 := o6) (o7 := o7) (Or.inr (Or.inl rfl))
        simp only [z13] at ex
        rw [z13] at T
        refine ⟨u2 (u2 I (23 + 18 * m + P 0) 2 (nI (s.2.2.1 - x))) (17 + 18 * m) 13 (I (17 + 18 * m) 13 + nI 0), R, P, ?_, ?_⟩
        · unfold TK at T ⊢
          rw [gvQ_lt b0 b1]
          rw [gvQ_0] at T
          obtain ⟨t1, t2, ⟨t3, t4, t5, t6⟩, t7, t8, t9⟩ := T
          refine ⟨fun b j z1 z2 z3 => ?_, fun j hj => ?_, ⟨?_, ?_, ?_, ?_⟩, fun c => ?_, t8, t9⟩
          · rw [t1 b j z1 z2 z3, u2_ap, if_neg (by omega)]
          · rw [t2 j hj, u2_ap, if_neg (by omega)]
          · rw [t3, u2_ap, if_neg (by omega)]
          · rw [t4, u2_ap, if_neg (by omega)]
          · rw [t5, u2_ap, if_neg (by omega)]
          · rw [t6, u2_ap, if_neg (by omega)]
          · rw [t7, u2_ap, if_neg (by omega)]
        · rw [e_13_16]
          simp only [e_13_0, e_13_1r, e_13_1i, e_13_2, e_13_5, e_13_6, e_13_7, e_13_10, e_13_11, e_13_13, e_13_14, e_13_18, e_13_20, e_13_23, e_13_24, e_13_27, e_13_30, e_13_32, e_13_35, e_13_36, e_13_39, e_13_40, e_13_41, e_13_43, e_13_45, e_13_47, e_13_50, e_13_53, e_13_55, e_13_57r, e_13_57i, e_13_58, e_13_61, e_13_63, e_13_64, e_13_67, e_13_69, e_13_71, e_13_72, e_13_74, e_13_76, e_13_79, e_13_82, e_13_83, e_13_84, e_13_85, e_13_88, e_13_91, e_13_94, e_13_95r, e_13_95i, e_13_96, e_13_99, e_13_101, e_13_102, e_13_105, cV_some, tl_some, tl_none, mZO_0, mZO_1, mL1_n, mL1_i, mL1_r, oB_some, List.cons_append, List.nil_append, mK_wI, mL_wI, mN_wI, mR_wI, mJ_wI, mK_wJ, mL_wJ, mI_wJ, mR_wJ, mK_wR, mL_wR, mI_wR, mJ_wR, bI_0, bI_n0, if_true, if_false, Nat.reduceLeDiff, Nat.reduceAdd, ite_not, reduceIte, not_false_eq_true, not_true_eq_false, true_and, and_true, and_self, or_false, false_or, or_true, true_or, Nat.reduceEqDiff, Nat.reduceLT, Nat.zero_le, Nat.add_zero, eq_self, false_and, and_false, mc_, mc_i, mc_r, mc_l, mc_ii, mc_ir, mc_il, mc_ri, mc_rr, mc_rl, mc_li, mc_lr, mc_ll, mc_iii, mc_iir, mc_iil, mc_iri, mc_irr, mc_irl, mc_ili, mc_ilr, mc_ill, mc_rii, mc_rir, mc_ril, mc_rri, mc_rrr, mc_rrl, mc_rli, mc_rlr, mc_rll, mc_lii, mc_lir, mc_lil, mc_lri, mc_lrr, mc_lrl, mc_lli, mc_llr, mc_lll, mc_iiii, mc_iiir, mc_iiri, mc_iirr, mc_irii, mc_irir, mc_irri, mc_irrr, mc_riii, mc_riir, mc_riri, mc_rirr, mc_rrii, mc_rrir, mc_rrri, mc_rrrr, mc_iiiii, mc_iiiir, mc_iiiri, mc_iiirr, mc_iirii, mc_iirir, mc_iirri, mc_iirrr, mc_iriii, mc_iriir, mc_iriri, mc_irirr, mc_irrii, mc_irrir, mc_irrri, mc_irrrr, mc_riiii, mc_riiir, mc_riiri, mc_riirr, mc_ririi, mc_ririr, mc_rirri, mc_rirrr, mc_rriii, mc_rriir, mc_rriri, mc_rrirr, mc_rrrii, mc_rrrir, mc_rrrri, mc_rrrrr, mK_wA, mL_wA, mI_wA, mR_wA, wR_wA, wI_wA, u2_ap, h6, gK_mill g hm, gK_sac g hm, gL_sac g hm, hsac, p0.1, hb, k3, i0, c0, ci, hn, cn, cx, r2', c1, c2, c3, c4, ns1, nI_1]
          exact ex _ _
      · have c1 : (if nI s.2.2.1 < nI x then nI s.2.2.1 else nI x) = nI s.2.2.1 := by
          by_cases z : s.2.2.1 < x
          · rw [if_pos (nI_lt z hx)]
          · have : x = s.2.2.1 := by omega
            subst this
            simp
        have c3 : nI s.2.2.1 - nI s.2.2.1 = 0 := by rw [pk_sub (Nat.le_refl _), Nat.sub_self, nI_0]
        have c4 : nI x - nI s.2.2.1 = nI (x - s.2.2.1) := pk_sub (by omega)
        have f0 : u2 I (23 + 18 * m + P 0) 2 0 (23 + 18 * m + P 0) 0 = nI s.1 := by rw [u2_ap, if_neg (by omega)]; exact r0
        have hd := c14 (d := d) g (I := u2 I (23 + 18 * m + P 0) 2 0) hR hm hP (hr := hr) s1 f0
        have f1 : u2 I (23 + 18 * m + P 0) 2 0 (23 + 18 * m + P 0) 1 = nI s.2.1 := by rw [u2_ap, if_neg (by omega)]; exact r1
        have f3 : u2 I (23 + 18 * m + P 0) 2 0 (23 + 18 * m + P 0) 3 = s.2.2.2 := by rw [u2_ap, if_neg (by omega)]; exact r3
        have f2 : u2 I (23 + 18 * m + P 0) 2 0 (17 + 18 * m) 2 = kd := by rw [u2_ap, if_neg (by omega)]; exact hk
        rw [f1, f2, f3, tollM_N s2] at hd
        have hR' : RG h (finR R m (23 + 18 * m + P 0)) := RG_of hm hR (fun b j hb => by
          unfold finR
          rw [r2_ap, if_neg (fun z => hb z.1), rot_eq, if_neg (fun z => hb z.1)])
        have hsk : ∀ k j, k < 12 → j < 4 → (¬ (k = 0 ∧ j = 2)) → finI (u2 I (23 + 18 * m + P 0) 2 0) (17 + 18 * m) s.1 (nI (tollN kd s.2.1)) (nI s.2.1) (decide (s.2.2.2 < hr)) (23 + 18 * m + P k) j = I (23 + 18 * m + P k) j := fun k j hk12 hj hne => by
          have pk := (hP.1 k hk12).2
          have inj := hP.2 k 0 hk12 (by omega)
          unfold finI
          by_cases l : s.2.2.2 < hr
          · simp only [l, decide_true, if_true, u2_ap]
            rw [if_neg (by omega), if_neg (by omega), if_neg (by omega), if_neg (by omega), if_neg (by omega), if_neg (by omega)]
          · simp only [l, decide_false, Bool.false_eq_true, if_false, u2_ap]
            rw [if_neg (by omega), if_neg (by omega), if_neg (by omega), if_neg (by omega), if_neg (by omega)]
        have hm8 : finI (u2 I (23 + 18 * m + P 0) 2 0) (17 + 18 * m) s.1 (nI (tollN kd s.2.1)) (nI s.2.1) (decide (s.2.2.2 < hr)) (17 + 18 * m) 8 = nI q.length := by
          unfold finI
          rw [u2_ap, if_pos ⟨rfl, rfl⟩, u2_ap, if_neg (by omega), hn, nI_pred]
        have hm2 : finI (u2 I (23 + 18 * m + P 0) 2 0) (17 + 18 * m) s.1 (nI (tollN kd s.2.1)) (nI s.2.1) (decide (s.2.2.2 < hr)) (17 + 18 * m) 2 = kd := by
          unfold finI
          by_cases l : s.2.2.2 < hr
          · simp only [l, decide_true, if_true, u2_ap]
            rw [if_neg (by omega), if_neg (by omega), if_neg (by omega), if_neg (by omega), if_neg (by omega), if_neg (by omega)]
            exact hk
          · simp only [l, decide_false, Bool.false_eq_true, if_false, u2_ap]
            rw [if_neg (by omega), if_neg (by omega), if_neg (by omega), if_neg (by omega), if_neg (by omega)]
            exact hk
        have C2 : CS (finI (u2 I (23 + 18 * m + P 0) 2 0) (17 + 18 * m) s.1 (nI (tollN kd s.2.1)) (nI s.2.1) (decide (s.2.2.2 < hr))) (finR R m (23 + 18 * m + P 0)) m q (fun k => if k = 11 then P 0 else P (k + 1)) := by
          refine ⟨⟨fun k hk12 => ?_, fun k j hk12 hj12 e => ?_⟩, hm8, ?_⟩
          · show finR R m (23 + 18 * m + P 0) (19 + 18 * m) k = some (23 + 18 * m + (if k = 11 then P 0 else P (k + 1))) ∧ (if k = 11 then P 0 else P (k + 1)) < 12
            unfold finR
            rw [r2_ap]
            by_cases e : k = 11
            · subst e
              rw [if_pos ⟨rfl, rfl⟩, if_pos rfl]
              exact ⟨rfl, p0.2⟩
            · have z := hP.1 (k + 1) (by omega)
              rw [if_neg (fun z => e z.2), if_neg e, rot_eq, if_pos ⟨rfl, by omega⟩]
              exact z
          · have e' : (if k = 11 then P 0 else P (k + 1)) = if j = 11 then P 0 else P (j + 1) := e
            by_cases e1 : k = 11
            · by_cases e2 : j = 11
              · omega
              · rw [if_pos e1, if_neg e2] at e'
                have := hP.2 0 (j + 1) (by omega) (by omega) e'
                omega
            · by_cases e2 : j = 11
              · rw [if_neg e1, if_pos e2] at e'
                have := hP.2 (k + 1) 0 (by omega) (by omega) e'
                omega
              · rw [if_neg e1, if_neg e2] at e'
                have := hP.2 (k + 1) (j + 1) (by omega) (by omega) e'
                omega
          · refine Qc_congr (e := 1) (i := 0) (fun k k1 k2 j hj => ?_) hq
            show finI _ _ _ _ _ _ (23 + 18 * m + (if k = 11 then P 0 else P (k + 1))) j = _
            rw [if_neg (by omega), hsk (k + 1) j (by omega) hj (by omega)]
        obtain ⟨I', R', P', T, e2⟩ := loop13 (d := d) g hm (y := y) (hr := hr) q (x - s.2.2.1) (i + 1) _ _ _ (some (.ref (23 + 18 * m + P 0))) (some (.int (nI s.2.2.1))) (by omega) (by omega) hR' C2 hm2 (fun z hz => hok z (List.mem_cons_of_mem _ hz)) rfl
        refine ⟨I', R', P', TK_done hm hs (by omega) hP hn (by omega) T, ?_⟩
        rw [e_13_16]
        simp only [e_13_0, e_13_1r, e_13_1i, e_13_2, e_13_5, e_13_6, e_13_7, e_13_10, e_13_11, e_13_13, e_13_14, e_13_18, e_13_20, e_13_23, e_13_24, e_13_27, e_13_30, e_13_32, e_13_35, e_13_36, e_13_39, e_13_40, e_13_41, e_13_43, e_13_45, e_13_47, e_13_50, e_13_53, e_13_55, e_13_57r, e_13_57i, e_13_58, e_13_61, e_13_63, e_13_64, e_13_67, e_13_69, e_13_71, e_13_72, e_13_74, e_13_76, e_13_79, e_13_82, e_13_83, e_13_84, e_13_85, e_13_88, e_13_91, e_13_94, e_13_95r, e_13_95i, e_13_96, e_13_99, e_13_101, e_13_102, e_13_105, cV_some, tl_some, tl_none, mZO_0, mZO_1, mL1_n, mL1_i, mL1_r, oB_some, List.cons_append, List.nil_append, mK_wI, mL_wI, mN_wI, mR_wI, mJ_wI, mK_wJ, mL_wJ, mI_wJ, mR_wJ, mK_wR, mL_wR, mI_wR, mJ_wR, bI_0, bI_n0, if_true, if_false, Nat.reduceLeDiff, Nat.reduceAdd, ite_not, reduceIte, not_false_eq_true, not_true_eq_false, true_and, and_true, and_self, or_false, false_or, or_true, true_or, Nat.reduceEqDiff, Nat.reduceLT, Nat.zero_le, Nat.add_zero, eq_self, false_and, and_false, mc_, mc_i, mc_r, mc_l, mc_ii, mc_ir, mc_il, mc_ri, mc_rr, mc_rl, mc_li, mc_lr, mc_ll, mc_iii, mc_iir, mc_iil, mc_iri, mc_irr, mc_irl, mc_ili, mc_ilr, mc_ill, mc_rii, mc_rir, mc_ril, mc_rri, mc_rrr, mc_rrl, mc_rli, mc_rlr, mc_rll, mc_lii, mc_lir, mc_lil, mc_lri, mc_lrr, mc_lrl, mc_lli, mc_llr, mc_lll, mc_iiii, mc_iiir, mc_iiri, mc_iirr, mc_irii, mc_irir, mc_irri, mc_irrr, mc_riii, mc_riir, mc_riri, mc_rirr, mc_rrii, mc_rrir, mc_rrri, mc_rrrr, mc_iiiii, mc_iiiir, mc_iiiri, mc_iiirr, mc_iirii, mc_iirir, mc_iirri, mc_iirrr, mc_iriii, mc_iriir, mc_iriri, mc_irirr, mc_irrii, mc_irrir, mc_irrri, mc_irrrr, mc_riiii, mc_riiir, mc_riiri, mc_riirr, mc_ririi, mc_ririr, mc_rirri, mc_rirrr, mc_rriii, mc_rriir, mc_rriri, mc_rrirr, mc_rrrii, mc_rrrir, mc_rrrri, mc_rrrrr, mK_wA, mL_wA, mI_wA, mR_wA, wR_wA, wI_wA, u2_ap, h6, gK_mill g hm, gK_sac g hm, gL_sac g hm, hsac, p0.1, hb, k3, i0, c0, ci, hn, cn, cx, r2', c1, c3, c4, ns1, hd, nI_1]
        exact e2
theorem c13 {d : Nat} {h : mM} (g : G h) {m x : Nat} (hm : m < 4) (hx : x < 2 ^ 31) {hr kd : Int32} {q : List Sk} {I : Nat → Nat → Int32} {R : Nat → Nat → Option Nat} {P : Nat → Nat} (hl : q.length ≤ 12) (hR : RG h R) (C : CS I R m q P) (hk : I (17 + 18 * m) 2 = kd) (hok : ∀ s ∈ q, okS s) : ∃ I' R' P', TK kd hr m x q (u2 I (17 + 18 * m) 9 (I (17 + 18 * m) 9 + nI x)) R I' R' P' ∧ ev (d + 3) 13 0 [some (.ref (17 + 18 * m)), some (.int (nI x)), some (.int hr), some (.ref 105), none, none, none, none] [] (wA h I R) = some (none, wA h I' R') := by
  obtain ⟨I', R', P', T, e⟩ := loop13 (d := d) g hm (y := nI x) (hr := hr) (kd := kd) q x 0 (u2 I (17 + 18 * m) 9 (I (17 + 18 * m) 9 + nI x)) R P none none hx (by omega) hR ⟨C.1, by rw [u2_ap, if_neg (by omega)]; exact C.2.1, Qc_congr (e := 0) (fun k _ _ j _ => by rw [u2_ap, if_neg (by omega)]; rfl) C.2.2⟩ (by rw [u2_ap, if_neg (by omega)]; exact hk) hok rfl
  refine ⟨I', R', P', T, ?_⟩
  simp only [e_13_0, e_13_1r, e_13_1i, e_13_2, e_13_5, e_13_6, e_13_7, e_13_10, e_13_11, e_13_13, e_13_14, e_13_18, e_13_20, e_13_23, e_13_24, e_13_27, e_13_30, e_13_32, e_13_35, e_13_36, e_13_39, e_13_40, e_13_41, e_13_43, e_13_45, e_13_47, e_13_50, e_13_53, e_13_55, e_13_57r, e_13_57i, e_13_58, e_13_61, e_13_63, e_13_64, e_13_67, e_13_69, e_13_71, e_13_72, e_13_74, e_13_76, e_13_79, e_13_82, e_13_83, e_13_84, e_13_85, e_13_88, e_13_91, e_13_94, e_13_95r, e_13_95i, e_13_96, e_13_99, e_13_101, e_13_102, e_13_105, cV_some, tl_some, tl_none, mZO_0, mZO_1, mL1_n, mL1_i, mL1_r, oB_some, List.cons_append, List.nil_append, mK_wI, mL_wI, mN_wI, mR_wI, mJ_wI, mK_wJ, mL_wJ, mI_wJ, mR_wJ, mK_wR, mL_wR, mI_wR, mJ_wR, bI_0, bI_n0, if_true, if_false, Nat.reduceLeDiff, Nat.reduceAdd, ite_not, reduceIte, not_false_eq_true, not_true_eq_false, true_and, and_true, and_self, or_false, false_or, or_true, true_or, Nat.reduceEqDiff, Nat.reduceLT, Nat.zero_le, Nat.add_zero, eq_self, false_and, and_false, mc_, mc_i, mc_r, mc_l, mc_ii, mc_ir, mc_il, mc_ri, mc_rr, mc_rl, mc_li, mc_lr, mc_ll, mc_iii, mc_iir, mc_iil, mc_iri, mc_irr, mc_irl, mc_ili, mc_ilr, mc_ill, mc_rii, mc_rir, mc_ril, mc_rri, mc_rrr, mc_rrl, mc_rli, mc_rlr, mc_rll, mc_lii, mc_lir, mc_lil, mc_lri, mc_lrr, mc_lrl, mc_lli, mc_llr, mc_lll, mc_iiii, mc_iiir, mc_iiri, mc_iirr, mc_irii, mc_irir, mc_irri, mc_irrr, mc_riii, mc_riir, mc_riri, mc_rirr, mc_rrii, mc_rrir, mc_rrri, mc_rrrr, mc_iiiii, mc_iiiir, mc_iiiri, mc_iiirr, mc_iirii, mc_iirir, mc_iirri, mc_iirrr, mc_iriii, mc_iriir, mc_iriri, mc_irirr, mc_irrii, mc_irrir, mc_irrri, mc_irrrr, mc_riiii, mc_riiir, mc_riiri, mc_riirr, mc_ririi, mc_ririr, mc_rirri, mc_rirrr, mc_rriii, mc_rriir, mc_rriri, mc_rrirr, mc_rrrii, mc_rrrir, mc_rrrri, mc_rrrrr, mK_wA, mI_wA, wI_wA, gK_mill g hm]
  rw [nI_0] at e
  exact e
