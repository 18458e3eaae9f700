-- small methods of the landed file
theorem le_n {a b : Int32} : (¬ a < b) = (b ≤ a) := by
  apply propext
  exact Int32.not_lt
theorem within_eq {v lo hi : Int32} {α : Type} {x y : α} : (if v < lo then x else if hi < v then x else y) = if lo ≤ v ∧ v ≤ hi then y else x := by
  by_cases h1 : v < lo
  · have : ¬ lo ≤ v := Int32.not_le.mpr h1
    simp [h1, this]
  · have a1 : lo ≤ v := Int32.not_lt.mp h1
    by_cases h2 : hi < v
    · have : ¬ v ≤ hi := Int32.not_le.mpr h2
      simp [h1, h2, this]
    · have a2 : v ≤ hi := Int32.not_lt.mp h2
      simp [h1, h2, a1, a2]
theorem ret_bI {P : Prop} [Decidable P] {h : mM} : (if P then some (some (Value.int 1), h) else some (some (Value.int 0), h)) = some (some (.int (bI P)), h) := by
  unfold bI
  by_cases hp : P <;> simp [hp]
theorem c65 {d : Nat} {h : mM} {v lo hi : Int32} : ev d 65 0 [some (.int v), some (.int lo), some (.int hi)] [] h = some (some (.int (bI (lo ≤ v ∧ v ≤ hi))), h) := by
  simp only [e_65_0, e_65_1, e_65_2, e_65_5, e_65_6, e_65_7, e_65_10, e_65_11, e_65_14, e_65_15, cV_some, tl_some, tl_none, mZO_0, mZO_1, mLong_n, mLong_i, mLong_r, mCat_0, mCat_i, mCat_r, mCat_l, oB_some, List.cons_append, List.nil_append, mK_wI, mL_wI, mN_wI, mR_wI, mJ_wI, mK_wJ, mL_wJ, mI_wJ, mR_wJ, mK_wR, mL_wR, mI_wR, mJ_wR, bI_0, bI_n0, if_true, if_false, Nat.reduceLeDiff, Nat.reduceAdd, ite_not, reduceIte, not_false_eq_true, not_true_eq_false, true_and, and_true, and_self, or_false, false_or, or_true, true_or, Nat.reduceEqDiff, Nat.reduceLT]
  rw [within_eq, ret_bI]
theorem c80 {d : Nat} {h : mM} {v lo hi : Int32} : ev d 80 0 [some (.int v), some (.int lo), some (.int hi)] [] h = some (some (.int (bI (lo ≤ v ∧ v ≤ hi))), h) := by
  simp only [e_80_0, e_80_1, e_80_2, e_80_5, e_80_6, e_80_7, e_80_10, e_80_11, e_80_14, e_80_15, cV_some, tl_some, tl_none, mZO_0, mZO_1, mLong_n, mLong_i, mLong_r, mCat_0, mCat_i, mCat_r, mCat_l, oB_some, List.cons_append, List.nil_append, mK_wI, mL_wI, mN_wI, mR_wI, mJ_wI, mK_wJ, mL_wJ, mI_wJ, mR_wJ, mK_wR, mL_wR, mI_wR, mJ_wR, bI_0, bI_n0, if_true, if_false, Nat.reduceLeDiff, Nat.reduceAdd, ite_not, reduceIte, not_false_eq_true, not_true_eq_false, true_and, and_true, and_self, or_false, false_or, or_true, true_or, Nat.reduceEqDiff, Nat.reduceLT]
  rw [within_eq, ret_bI]
theorem c66 {d : Nat} {h : mM} {v : Int32} : ev (d + 1) 66 0 [some (.int v)] [] h = some (some (.int (bI (0 ≤ v ∧ v ≤ 200))), h) := by
  simp only [e_66_0, e_66_1, e_66_2, e_66_5, e_66_8, cV_some, tl_some, tl_none, mZO_0, mZO_1, mLong_n, mLong_i, mLong_r, mCat_0, mCat_i, mCat_r, mCat_l, oB_some, List.cons_append, List.nil_append, mK_wI, mL_wI, mN_wI, mR_wI, mJ_wI, mK_wJ, mL_wJ, mI_wJ, mR_wJ, mK_wR, mL_wR, mI_wR, mJ_wR, bI_0, bI_n0, if_true, if_false, Nat.reduceLeDiff, Nat.reduceAdd, ite_not, reduceIte, not_false_eq_true, not_true_eq_false, true_and, and_true, and_self, or_false, false_or, or_true, true_or, Nat.reduceEqDiff, Nat.reduceLT, c65, bI_zo]
theorem c67 {d : Nat} {h : mM} {v : Int32} : ev (d + 1) 67 0 [some (.int v)] [] h = some (some (.int (bI (0 ≤ v ∧ v ≤ 2))), h) := by
  simp only [e_67_0, e_67_1, e_67_2, e_67_3, e_67_6, cV_some, tl_some, tl_none, mZO_0, mZO_1, mLong_n, mLong_i, mLong_r, mCat_0, mCat_i, mCat_r, mCat_l, oB_some, List.cons_append, List.nil_append, mK_wI, mL_wI, mN_wI, mR_wI, mJ_wI, mK_wJ, mL_wJ, mI_wJ, mR_wJ, mK_wR, mL_wR, mI_wR, mJ_wR, bI_0, bI_n0, if_true, if_false, Nat.reduceLeDiff, Nat.reduceAdd, ite_not, reduceIte, not_false_eq_true, not_true_eq_false, true_and, and_true, and_self, or_false, false_or, or_true, true_or, Nat.reduceEqDiff, Nat.reduceLT, c65, bI_zo]
theorem c68 {d : Nat} {h : mM} {v : Int32} : ev (d + 1) 68 0 [some (.int v)] [] h = some (some (.int (bI (0 ≤ v ∧ v ≤ 9))), h) := by
  simp only [e_68_0, e_68_1, e_68_2, e_68_4, e_68_7, cV_some, tl_some, tl_none, mZO_0, mZO_1, mLong_n, mLong_i, mLong_r, mCat_0, mCat_i, mCat_r, mCat_l, oB_some, List.cons_append, List.nil_append, mK_wI, mL_wI, mN_wI, mR_wI, mJ_wI, mK_wJ, mL_wJ, mI_wJ, mR_wJ, mK_wR, mL_wR, mI_wR, mJ_wR, bI_0, bI_n0, if_true, if_false, Nat.reduceLeDiff, Nat.reduceAdd, ite_not, reduceIte, not_false_eq_true, not_true_eq_false, true_and, and_true, and_self, or_false, false_or, or_true, true_or, Nat.reduceEqDiff, Nat.reduceLT, c65, bI_zo]
theorem c69 {d : Nat} {h : mM} {v k : Int32} : ev (d + 2) 69 0 [some (.int v), some (.int k)] [] h = some (some (.int (bI (if k = 1 then 0 ≤ v ∧ v ≤ 9 else v = 0))), h) := by
  simp only [e_69_0, e_69_1, e_69_2, e_69_5, e_69_6, e_69_9, e_69_12, e_69_13, e_69_16, e_69_17, e_69_20, e_69_21, cV_some, tl_some, tl_none, mZO_0, mZO_1, mLong_n, mLong_i, mLong_r, mCat_0, mCat_i, mCat_r, mCat_l, oB_some, List.cons_append, List.nil_append, mK_wI, mL_wI, mN_wI, mR_wI, mJ_wI, mK_wJ, mL_wJ, mI_wJ, mR_wJ, mK_wR, mL_wR, mI_wR, mJ_wR, bI_0, bI_n0, if_true, if_false, Nat.reduceLeDiff, Nat.reduceAdd, ite_not, reduceIte, not_false_eq_true, not_true_eq_false, true_and, and_true, and_self, or_false, false_or, or_true, true_or, Nat.reduceEqDiff, Nat.reduceLT, c68, bI_zo]
  by_cases h1 : k = 1
  · simp [h1]
  · by_cases h2 : v = 0
    · simp [h1, h2, bI]
    · simp [h1, h2, bI]
theorem c70 {d : Nat} {h : mM} (g : G h) {v : Int32} : ev (d + 1) 70 0 [some (.ref 1), some (.int v)] [] h = some (some (.int (bI (0 ≤ v ∧ v ≤ mI h 4 4 - 1))), h) := by
  simp only [e_70_0, e_70_1, e_70_2, e_70_3, e_70_6, e_70_9, e_70_10, e_70_11, e_70_14, cV_some, tl_some, tl_none, mZO_0, mZO_1, mLong_n, mLong_i, mLong_r, mCat_0, mCat_i, mCat_r, mCat_l, oB_some, List.cons_append, List.nil_append, mK_wI, mL_wI, mN_wI, mR_wI, mJ_wI, mK_wJ, mL_wJ, mI_wJ, mR_wJ, mK_wR, mL_wR, mI_wR, mJ_wR, bI_0, bI_n0, if_true, if_false, Nat.reduceLeDiff, Nat.reduceAdd, ite_not, reduceIte, not_false_eq_true, not_true_eq_false, true_and, and_true, and_self, or_false, false_or, or_true, true_or, Nat.reduceEqDiff, Nat.reduceLT, gK_1 g, gR_1_1 g, gK_4 g, c65, bI_zo]
theorem c71 {d : Nat} {h : mM} (g : G h) {v : Int32} : ev (d + 1) 71 0 [some (.ref 1), some (.int v)] [] h = some (some (.int (bI (0 ≤ v ∧ v ≤ mI h 4 6 - 1))), h) := by
  simp only [e_71_0, e_71_1, e_71_2, e_71_3, e_71_6, e_71_9, e_71_10, e_71_11, e_71_14, cV_some, tl_some, tl_none, mZO_0, mZO_1, mLong_n, mLong_i, mLong_r, mCat_0, mCat_i, mCat_r, mCat_l, oB_some, List.cons_append, List.nil_append, mK_wI, mL_wI, mN_wI, mR_wI, mJ_wI, mK_wJ, mL_wJ, mI_wJ, mR_wJ, mK_wR, mL_wR, mI_wR, mJ_wR, bI_0, bI_n0, if_true, if_false, Nat.reduceLeDiff, Nat.reduceAdd, ite_not, reduceIte, not_false_eq_true, not_true_eq_false, true_and, and_true, and_self, or_false, false_or, or_true, true_or, Nat.reduceEqDiff, Nat.reduceLT, gK_1 g, gR_1_1 g, gK_4 g, c65, bI_zo]
theorem c81 {d : Nat} {h : mM} (g : G h) {v : Int32} : ev (d + 1) 81 0 [some (.ref 109), some (.int v)] [] h = some (some (.int (bI (0 ≤ v ∧ v ≤ mI h 109 3 - 1))), h) := by
  simp only [e_81_0, e_81_1, e_81_2, e_81_3, e_81_6, e_81_7, e_81_8, e_81_11, cV_some, tl_some, tl_none, mZO_0, mZO_1, mLong_n, mLong_i, mLong_r, mCat_0, mCat_i, mCat_r, mCat_l, oB_some, List.cons_append, List.nil_append, mK_wI, mL_wI, mN_wI, mR_wI, mJ_wI, mK_wJ, mL_wJ, mI_wJ, mR_wJ, mK_wR, mL_wR, mI_wR, mJ_wR, bI_0, bI_n0, if_true, if_false, Nat.reduceLeDiff, Nat.reduceAdd, ite_not, reduceIte, not_false_eq_true, not_true_eq_false, true_and, and_true, and_self, or_false, false_or, or_true, true_or, Nat.reduceEqDiff, Nat.reduceLT, gK_109 g, c80, bI_zo]
theorem c82 {d : Nat} {h : mM} (g : G h) {v : Int32} : ev (d + 1) 82 0 [some (.ref 109), some (.int v)] [] h = some (some (.int (bI (0 ≤ v ∧ v ≤ mI h 109 13 - 1))), h) := by
  simp only [e_82_0, e_82_1, e_82_2, e_82_3, e_82_6, e_82_7, e_82_8, e_82_11, cV_some, tl_some, tl_none, mZO_0, mZO_1, mLong_n, mLong_i, mLong_r, mCat_0, mCat_i, mCat_r, mCat_l, oB_some, List.cons_append, List.nil_append, mK_wI, mL_wI, mN_wI, mR_wI, mJ_wI, mK_wJ, mL_wJ, mI_wJ, mR_wJ, mK_wR, mL_wR, mI_wR, mJ_wR, bI_0, bI_n0, if_true, if_false, Nat.reduceLeDiff, Nat.reduceAdd, ite_not, reduceIte, not_false_eq_true, not_true_eq_false, true_and, and_true, and_self, or_false, false_or, or_true, true_or, Nat.reduceEqDiff, Nat.reduceLT, gK_109 g, c80, bI_zo]
/-- one finding more -/
def fC (h : mM) (k : Nat) : mM := wI h 107 k (mI h 107 k + 1)
def fM (h : mM) (k : Nat) : mM := wJ h 135 k (mJ h 135 k + 1)
theorem c64 {d : Nat} {h : mM} (g : G h) {k : Nat} (hk : k < 6) : ev d 64 0 [some (.ref 1), some (.int (nI k))] [] h = some (some (.int (-1000000000 - nI k)), fC h k) := by
  have hi : ixOK (nI k) 6 = true := by
    rcases (show k = 0 ∨ k = 1 ∨ k = 2 ∨ k = 3 ∨ k = 4 ∨ k = 5 by omega) with e | e | e | e | e | e <;> subst e <;> decide
  have hc : (nI k).toNatClampNeg = k := nI_clamp (by omega)
  simp only [e_64_0, e_64_1, e_64_4, e_64_5, e_64_6, e_64_7, e_64_8, e_64_9, e_64_10, e_64_13, e_64_14, e_64_15, cV_some, tl_some, tl_none, mZO_0, mZO_1, mLong_n, mLong_i, mLong_r, mCat_0, mCat_i, mCat_r, mCat_l, oB_some, List.cons_append, List.nil_append, mK_wI, mL_wI, mN_wI, mR_wI, mJ_wI, mK_wJ, mL_wJ, mI_wJ, mR_wJ, mK_wR, mL_wR, mI_wR, mJ_wR, bI_0, bI_n0, if_true, if_false, Nat.reduceLeDiff, Nat.reduceAdd, ite_not, reduceIte, not_false_eq_true, not_true_eq_false, true_and, and_true, and_self, or_false, false_or, or_true, true_or, Nat.reduceEqDiff, Nat.reduceLT, gK_1 g, gR_1_7 g, gK_107 g, gL_107 g, hi, hc, fC]
theorem c79 {d : Nat} {h : mM} (g : G h) {k : Nat} (hk : k < 6) : ev d 79 0 [some (.ref 109), some (.long (-1000000000 - lN k)), none] [] h = some (some (.long (-1000000000 - lN k)), fM h k) := by
  have hi : ixOK (-1000000000 - (-1000000000 - lN k)).toInt32 6 = true := by
    rcases (show k = 0 ∨ k = 1 ∨ k = 2 ∨ k = 3 ∨ k = 4 ∨ k = 5 by omega) with e | e | e | e | e | e <;> subst e <;> decide
  have hc : (-1000000000 - (-1000000000 - lN k)).toInt32.toNatClampNeg = k := by
    rcases (show k = 0 ∨ k = 1 ∨ k = 2 ∨ k = 3 ∨ k = 4 ∨ k = 5 by omega) with e | e | e | e | e | e <;> subst e <;> decide
  simp only [e_79_0, e_79_1, e_79_4, e_79_7, e_79_8, e_79_9, e_79_10, e_79_11, e_79_12, e_79_13, e_79_14, e_79_15, e_79_16, cV_some, tl_some, tl_none, mZO_0, mZO_1, mLong_n, mLong_i, mLong_r, mCat_0, mCat_i, mCat_r, mCat_l, oB_some, List.cons_append, List.nil_append, mK_wI, mL_wI, mN_wI, mR_wI, mJ_wI, mK_wJ, mL_wJ, mI_wJ, mR_wJ, mK_wR, mL_wR, mI_wR, mJ_wR, bI_0, bI_n0, if_true, if_false, Nat.reduceLeDiff, Nat.reduceAdd, ite_not, reduceIte, not_false_eq_true, not_true_eq_false, true_and, and_true, and_self, or_false, false_or, or_true, true_or, Nat.reduceEqDiff, Nat.reduceLT, gK_109 g, gR_109_32 g, gK_135 g, gL_135 g, hi, hc, fM]
theorem c77 {d : Nat} {h : mM} {v b : Int32} (hb : 0 < b) : ev d 77 0 [some (.int v), some (.int b)] [] h = some (some (.int (v / b)), h) := by
  have h1 : ¬ b ≤ 0 := Int32.not_le.mpr hb
  have h2 : ¬ b = 0 := fun e => by rw [e] at hb; exact absurd hb (by decide)
  simp only [e_77_0, e_77_1, e_77_4, e_77_5, e_77_6, e_77_7, e_77_10, e_77_11, cV_some, tl_some, tl_none, mZO_0, mZO_1, mLong_n, mLong_i, mLong_r, mCat_0, mCat_i, mCat_r, mCat_l, oB_some, List.cons_append, List.nil_append, mK_wI, mL_wI, mN_wI, mR_wI, mJ_wI, mK_wJ, mL_wJ, mI_wJ, mR_wJ, mK_wR, mL_wR, mI_wR, mJ_wR, bI_0, bI_n0, if_true, if_false, Nat.reduceLeDiff, Nat.reduceAdd, ite_not, reduceIte, not_false_eq_true, not_true_eq_false, true_and, and_true, and_self, or_false, false_or, or_true, true_or, Nat.reduceEqDiff, Nat.reduceLT, h1, h2]
theorem c16 {d : Nat} {h : mM} {a : Nat} {w : Int32} (ha : mK h a = 3) (hb : 0 < mI h a 0) : ev (d + 1) 16 0 [some (.ref a), some (.int w)] [] h = some (some (.int (w / mI h a 0)), h) := by
  simp only [e_16_0, e_16_1, e_16_2, e_16_5, e_16_8, cV_some, tl_some, tl_none, mZO_0, mZO_1, mLong_n, mLong_i, mLong_r, mCat_0, mCat_i, mCat_r, mCat_l, oB_some, List.cons_append, List.nil_append, mK_wI, mL_wI, mN_wI, mR_wI, mJ_wI, mK_wJ, mL_wJ, mI_wJ, mR_wJ, mK_wR, mL_wR, mI_wR, mJ_wR, bI_0, bI_n0, if_true, if_false, Nat.reduceLeDiff, Nat.reduceAdd, ite_not, reduceIte, not_false_eq_true, not_true_eq_false, true_and, and_true, and_self, or_false, false_or, or_true, true_or, Nat.reduceEqDiff, Nat.reduceLT, ha, c77 hb]
theorem c17 {d : Nat} {h : mM} {a : Nat} (ha : mK h a = 3) : ev d 17 0 [some (.ref a)] [] h = some (some (.int (mI h a 0 * mI h a 1)), h) := by
  simp only [e_17_0, e_17_1, e_17_4, e_17_5, e_17_8, e_17_9, cV_some, tl_some, tl_none, mZO_0, mZO_1, mLong_n, mLong_i, mLong_r, mCat_0, mCat_i, mCat_r, mCat_l, oB_some, List.cons_append, List.nil_append, mK_wI, mL_wI, mN_wI, mR_wI, mJ_wI, mK_wJ, mL_wJ, mI_wJ, mR_wJ, mK_wR, mL_wR, mI_wR, mJ_wR, bI_0, bI_n0, if_true, if_false, Nat.reduceLeDiff, Nat.reduceAdd, ite_not, reduceIte, not_false_eq_true, not_true_eq_false, true_and, and_true, and_self, or_false, false_or, or_true, true_or, Nat.reduceEqDiff, Nat.reduceLT, ha]
