-- all the stones of an hour of the reference, and the hour itself
def mlP (c : Tb) (t rn m i : Nat) (n : N3) : N3 := if m = rn then n else foldN (stN c t m) i n
theorem stN_off {c : Tb} {t m s j : Nat} {n : N3} (h : j ≠ 3 * m + s) : (stN c t m s n).2.2 j = n.2.2 j := by
  unfold stN
  split
  · exact upN_ne h
  · rfl
theorem sts_off {c : Tb} {t m : Nat} {n : N3} : ∀ (i j : Nat), (∀ s, s < i → j ≠ 3 * m + s) → (foldN (stN c t m) i n).2.2 j = n.2.2 j
  | 0, _, _ => rfl
  | i + 1, j, h => by
    show (stN c t m i (foldN (stN c t m) i n)).2.2 j = _
    rw [stN_off (h i (by omega)), sts_off i j (fun s hs => h s (by omega))]
theorem mlP_off {c : Tb} {t rn m i j : Nat} {n : N3} (h : ∀ s, s < i → j ≠ 3 * m + s) : (mlP c t rn m i n).2.2 j = n.2.2 j := by
  unfold mlP
  split
  · rfl
  · exact sts_off i j h
theorem sts_wb {c : Tb} {t m : Nat} {n : N3} (hw : WB c n.1) (i : Nat) : WB c (foldN (stN c t m) i n).1 := foldN_inv (P := fun _ (n : N3) => WB c n.1) i n hw (fun _ _ _ z => stN_wb z)
theorem mlP_wb {c : Tb} {t rn m i : Nat} {n : N3} (hw : WB c n.1) : WB c (mlP c t rn m i n).1 := by
  unfold mlP
  split
  · exact hw
  · exact sts_wb hw i
theorem rmN_wb {c : Tb} {t rn k m : Nat} {n : N3} (hw : WB c n.1) : WB c (rmN c t rn k m n).1 := by
  unfold rmN
  split
  · exact mlP_wb (i := c 13 m) hw
  · exact hw
/-- the mills that have not yet had their turn have ground nothing -/
def ZC (c : Tb) (n : N3) (k i : Nat) : Prop := ∀ m, m < c 0 2 → (k < c 10 m ∨ (c 10 m = k ∧ i ≤ m)) → ∀ s, s < 3 → n.2.2 (3 * m + s) = 0
theorem ZC_step {c : Tb} (ck : CK c) {t rn k i : Nat} {n : N3} (hi : i < c 0 2) (z : ZC c n k i) : ZC c (rmN c t rn k i n) k (i + 1) := by
  intro m hm hc s hs
  have h3 := (ck.2.2.2.1 i hi).2.2.2.2.2
  have : (rmN c t rn k i n).2.2 (3 * m + s) = n.2.2 (3 * m + s) := by
    unfold rmN
    split
    · rename_i e
      refine mlP_off (i := c 13 i) (fun s' hs' e2 => ?_)
      have : m = i := by omega
      subst this
      omega
    · rfl
  rw [this]
  exact z m hm (by omega) s hs
/-- what stays through the stones -/
def HS (h : mM) (a : Nat) (mt : Bool) (qs : Nat → List Sk) (τ0 : T8) (may : Int32) (rn : Nat) : Prop := CF h ∧ MW h a ∧ MT mt (to τ0 36) ∧ to τ0 13 = nI (cfg h 0 2) ∧ QS (mI h 119) 4 qs ∧ MY h may rn
theorem loop105c {d : Nat} {h : mM} {a : Nat} {mt : Bool} {qs : Nat → List Sk} {f0 : Nat → Int64} {τ0 : T8} {may : Int32} {rn : Nat} (S : HS h a mt qs τ0 may rn) {t : Nat} (ht : t ≤ 200) {m : Nat} (hm : m < cfg h 0 2) {n : N3} (hw : WB (cfg h) n.1) (hz : ∀ s, s < 3 → n.2.2 (3 * m + s) = 0) : ∀ (k i : Nat) (τ : T8), i + k = cfg h 13 m → TS h mt qs f0 τ0 (mlP (cfg h) t rn m i n) τ → ∃ τ', TS h mt qs f0 τ0 (mlN (cfg h) t rn m n) τ' ∧ ev (d + 3) 105 56 [some (.ref 109), some (.ref a), some (.int (nI t)), some (.int may), some (.int (nI (cfg h 10 m))), some (.int (nI m)), some (.int (nI i))] [] (wM h a τ) = ev (d + 3) 105 102 [some (.ref 109), some (.ref a), some (.int (nI t)), some (.int may), some (.int (nI (cfg h 10 m))), some (.int (nI m)), some (.int (nI (cfg h 13 m)))] [] (wM h a τ')
  | 0, i, τ, hk, T => by
    obtain ⟨q, g0, _, hn, hq, hmy⟩ := S
    have e : i = cfg h 13 m := by omega
    subst e
    have g := g0.1
    have n4 := q.1.1
    have n124 := g0.off (b := 124) (by decide) (by decide)
    have c6 := (q.m hm).2.2.2.2.2.2
    refine ⟨τ, T, ?_⟩
    rw [e_105_56]
    simp only [e_105_0, e_105_1, e_105_2, e_105_5, e_105_6, e_105_10, e_105_11, e_105_14, e_105_17, e_105_18, e_105_21, e_105_23, e_105_24, e_105_25, e_105_28, e_105_31, e_105_32, e_105_36, e_105_38, e_105_41, e_105_42, e_105_46, e_105_47, e_105_50, e_105_53, e_105_54, e_105_58, e_105_59, e_105_62, e_105_64, e_105_65, e_105_68, e_105_69, e_105_72, e_105_74, e_105_75, e_105_77, e_105_80, e_105_81, e_105_82, e_105_83, e_105_85, e_105_86, e_105_88, e_105_89, e_105_91, e_105_92, e_105_93, e_105_96, e_105_99, e_105_105, e_105_108, e_105_111, e_105_114, cV_some, tl_some, tl_none, mZO_0, mZO_1, mL1_n, mL1_i, mL1_r, oB_some, List.cons_append, List.nil_append, mK_wI, mL_wI, mN_wI, mR_wI, mJ_wI, mK_wJ, mL_wJ, mI_wJ, mR_wJ, mK_wR, mL_wR, mI_wR, mJ_wR, bI_0, bI_n0, if_true, if_false, Nat.reduceLeDiff, Nat.reduceAdd, ite_not, reduceIte, not_false_eq_true, not_true_eq_false, true_and, and_true, and_self, or_false, false_or, or_true, true_or, Nat.reduceEqDiff, Nat.reduceLT, Nat.zero_le, Nat.add_zero, eq_self, false_and, and_false, mc_, mc_i, mc_r, mc_l, mc_ii, mc_ir, mc_il, mc_ri, mc_rr, mc_rl, mc_li, mc_lr, mc_ll, mc_iii, mc_iir, mc_iil, mc_iri, mc_irr, mc_irl, mc_ili, mc_ilr, mc_ill, mc_rii, mc_rir, mc_ril, mc_rri, mc_rrr, mc_rrl, mc_rli, mc_rlr, mc_rll, mc_lii, mc_lir, mc_lil, mc_lri, mc_lrr, mc_lrl, mc_lli, mc_llr, mc_lll, mc_iiii, mc_iiir, mc_iiri, mc_iirr, mc_irii, mc_irir, mc_irri, mc_irrr, mc_riii, mc_riir, mc_riri, mc_rirr, mc_rrii, mc_rrir, mc_rrri, mc_rrrr, mc_iiiii, mc_iiiir, mc_iiiri, mc_iiirr, mc_iirii, mc_iirir, mc_iirri, mc_iirrr, mc_iriii, mc_iriir, mc_iriri, mc_irirr, mc_irrii, mc_irrir, mc_irrri, mc_irrrr, mc_riiii, mc_riiir, mc_riiri, mc_riirr, mc_ririi, mc_ririr, mc_rirri, mc_rirrr, mc_rriii, mc_rriir, mc_rriri, mc_rrirr, mc_rrrii, mc_rrrir, mc_rrrri, mc_rrrrr, tw_uw, tw_uo, tw_us, tw_ur, tw_uf, tw_ug, tw_uc, tw_ue, to_uw, to_uo, to_us, to_ur, to_uf, to_ug, to_uc, to_ue, ts_uw, ts_uo, ts_us, ts_ur, ts_uf, ts_ug, ts_uc, ts_ue, tr_uw, tr_uo, tr_us, tr_ur, tr_uf, tr_ug, tr_uc, tr_ue, tf_uw, tf_uo, tf_us, tf_ur, tf_uf, tf_ug, tf_uc, tf_ue, tg_uw, tg_uo, tg_us, tg_ur, tg_uf, tg_ug, tg_uc, tg_ue, tc_uw, tc_uo, tc_us, tc_ur, tc_uf, tc_ug, tc_uc, tc_ue, te_uw, te_uo, te_us, te_ur, te_uf, te_ug, te_uc, te_ue, mK_wM, mL_wM, mR_wM, mI_wM, mJ_wM, gK_109 g, gR_109_19 g, gK_124 g, gL_124 g, n124, ixN (show m < 4 by omega) (by omega), cl (show m < 2 ^ 31 by omega), c6, le_self32]
  | k + 1, i, τ, hk, T => by
    have S' := S
    obtain ⟨q, g0, hmt, hn, hq, hmy⟩ := S
    have g := g0.1
    have n4 := q.1.1
    have h3 := (q.1.2.2.2.1 m hm).2.2.2.2.2
    have h9 := (q.1.2.2.2.1 m hm).2.2.1
    have hi : i < cfg h 13 m := by omega
    have n124 := g0.off (b := 124) (by decide) (by decide)
    have n121 := g0.off (b := 121) (by decide) (by decide)
    have c6 := (q.m hm).2.2.2.2.2.2
    have c3 := (q.m hm).2.2.2.1
    have hc : ¬ nI (cfg h 13 m) ≤ nI i := nI_ge hi (by omega)
    have h13 : to τ 13 = nI (cfg h 0 2) := (T.2.1 13 (by omega)).trans hn
    have st : ∃ τ1, TS h mt qs f0 τ0 (mlP (cfg h) t rn m (i + 1) n) τ1 ∧ ev (d + 2) 106 0 [some (.ref 109), some (.ref a), some (.int (nI t)), some (.int (nI m)), some (.int (nI (3 * m + i))), some (.int may), none, none, none] [] (wM h a τ) = some (none, wM h a τ1) := by
      by_cases b : m = rn
      · subst b
        refine ⟨τ, ?_, st_rest q g0 hmy h13 hm hi⟩
        have e1 : mlP (cfg h) t m m (i + 1) n = n := if_pos rfl
        have e2 : mlP (cfg h) t m m i n = n := if_pos rfl
        rw [e1]
        rw [e2] at T
        exact T
      · have e1 : mlP (cfg h) t rn m (i + 1) n = stN (cfg h) t m i (foldN (stN (cfg h) t m) i n) := if_neg b
        have e2 : mlP (cfg h) t rn m i n = foldN (stN (cfg h) t m) i n := if_neg b
        rw [e1]
        rw [e2] at T
        exact st_turn q g0 ht hmt hn hq hmy T (sts_wb hw i) hm hi (by rw [sts_off i _ (fun s hs => by omega)]; exact hz i (by omega)) b
    obtain ⟨τ1, T1, e1⟩ := st
    obtain ⟨τ', T2, e2⟩ := loop105c (d := d) S' ht hm hw hz k (i + 1) τ1 (by omega) T1
    refine ⟨τ', T2, ?_⟩
    rw [e_105_56]
    simp only [e_105_0, e_105_1, e_105_2, e_105_5, e_105_6, e_105_10, e_105_11, e_105_14, e_105_17, e_105_18, e_105_21, e_105_23, e_105_24, e_105_25, e_105_28, e_105_31, e_105_32, e_105_36, e_105_38, e_105_41, e_105_42, e_105_46, e_105_47, e_105_50, e_105_53, e_105_54, e_105_58, e_105_59, e_105_62, e_105_64, e_105_65, e_105_68, e_105_69, e_105_72, e_105_74, e_105_75, e_105_77, e_105_80, e_105_81, e_105_82, e_105_83, e_105_85, e_105_86, e_105_88, e_105_89, e_105_91, e_105_92, e_105_93, e_105_96, e_105_99, e_105_105, e_105_108, e_105_111, e_105_114, cV_some, tl_some, tl_none, mZO_0, mZO_1, mL1_n, mL1_i, mL1_r, oB_some, List.cons_append, List.nil_append, mK_wI, mL_wI, mN_wI, mR_wI, mJ_wI, mK_wJ, mL_wJ, mI_wJ, mR_wJ, mK_wR, mL_wR, mI_wR, mJ_wR, bI_0, bI_n0, if_true, if_false, Nat.reduceLeDiff, Nat.reduceAdd, ite_not, reduceIte, not_false_eq_true, not_true_eq_false, true_and, and_true, and_self, or_false, false_or, or_true, true_or, Nat.reduceEqDiff, Nat.reduceLT, Nat.zero_le, Nat.add_zero, eq_self, false_and, and_false, mc_, mc_i, mc_r, mc_l, mc_ii, mc_ir, mc_il, mc_ri, mc_rr, mc_rl, mc_li, mc_lr, mc_ll, mc_iii, mc_iir, mc_iil, mc_iri, mc_irr, mc_irl, mc_ili, mc_ilr, mc_ill, mc_rii, mc_rir, mc_ril, mc_rri, mc_rrr, mc_rrl, mc_rli, mc_rlr, mc_rll, mc_lii, mc_lir, mc_lil, mc_lri, mc_lrr, mc_lrl, mc_lli, mc_llr, mc_lll, mc_iiii, mc_iiir, mc_iiri, mc_iirr, mc_irii, mc_irir, mc_irri, mc_irrr, mc_riii, mc_riir, mc_riri, mc_rirr, mc_rrii, mc_rrir, mc_rrri, mc_rrrr, mc_iiiii, mc_iiiir, mc_iiiri, mc_iiirr, mc_iirii, mc_iirir, mc_iirri, mc_iirrr, mc_iriii, mc_iriir, mc_iriri, mc_irirr, mc_irrii, mc_irrir, mc_irrri, mc_irrrr, mc_riiii, mc_riiir, mc_riiri, mc_riirr, mc_ririi, mc_ririr, mc_rirri, mc_rirrr, mc_rriii, mc_rriir, mc_rriri, mc_rrirr, mc_rrrii, mc_rrrir, mc_rrrri, mc_rrrrr, tw_uw, tw_uo, tw_us, tw_ur, tw_uf, tw_ug, tw_uc, tw_ue, to_uw, to_uo, to_us, to_ur, to_uf, to_ug, to_uc, to_ue, ts_uw, ts_uo, ts_us, ts_ur, ts_uf, ts_ug, ts_uc, ts_ue, tr_uw, tr_uo, tr_us, tr_ur, tr_uf, tr_ug, tr_uc, tr_ue, tf_uw, tf_uo, tf_us, tf_ur, tf_uf, tf_ug, tf_uc, tf_ue, tg_uw, tg_uo, tg_us, tg_ur, tg_uf, tg_ug, tg_uc, tg_ue, tc_uw, tc_uo, tc_us, tc_ur, tc_uf, tc_ug, tc_uc, tc_ue, te_uw, te_uo, te_us, te_ur, te_uf, te_ug, te_uc, te_ue, mK_wM, mL_wM, mR_wM, mI_wM, mJ_wM, gK_109 g, gR_109_16 g, gR_109_19 g, gK_124 g, gL_124 g, gK_121 g, gL_121 g, n124, n121, ixN (show m < 4 by omega) (by omega), cl (show m < 2 ^ 31 by omega), c6, c3, hc, mul3, nI_add, e1, nI_1]
    exact e2
theorem loop105b {d : Nat} {h : mM} {a : Nat} {mt : Bool} {qs : Nat → List Sk} {f0 : Nat → Int64} {τ0 : T8} {may : Int32} {rn : Nat} (S : HS h a mt qs τ0 may rn) {t : Nat} (ht : t ≤ 200) {r : Nat} (hr : r < 10) : ∀ (k i : Nat) (n : N3) (τ : T8) (o6 : Option Value), i + k = cfg h 0 2 → WB (cfg h) n.1 → ZC (cfg h) n r i → TS h mt qs f0 τ0 n τ → ∃ (n' : N3) (τ' : T8) (o : Option Value), (∀ x, foldN (rmN (cfg h) t rn r) i x = n → foldN (rmN (cfg h) t rn r) (cfg h 0 2) x = n') ∧ WB (cfg h) n'.1 ∧ ZC (cfg h) n' r (cfg h 0 2) ∧ TS h mt qs f0 τ0 n' τ' ∧ ev (d + 3) 105 44 [some (.ref 109), some (.ref a), some (.int (nI t)), some (.int may), some (.int (nI r)), some (.int (nI i)), o6] [] (wM h a τ) = ev (d + 3) 105 108 [some (.ref 109), some (.ref a), some (.int (nI t)), some (.int may), some (.int (nI r)), some (.int (nI (cfg h 0 2))), o] [] (wM h a τ')
  | 0, i, n, τ, o6, hk, hw, hz, T => by
    obtain ⟨q, g0, _, hn, hq, hmy⟩ := S
    have e : i = cfg h 0 2 := by omega
    subst e
    have g := g0.1
    have h13 : to τ 13 = nI (cfg h 0 2) := (T.2.1 13 (by omega)).trans hn
    refine ⟨n, τ, o6, fun x hx => hx, hw, hz, T, ?_⟩
    rw [e_105_44]
    simp only [e_105_0, e_105_1, e_105_2, e_105_5, e_105_6, e_105_10, e_105_11, e_105_14, e_105_17, e_105_18, e_105_21, e_105_23, e_105_24, e_105_25, e_105_28, e_105_31, e_105_32, e_105_36, e_105_38, e_105_41, e_105_42, e_105_46, e_105_47, e_105_50, e_105_53, e_105_54, e_105_58, e_105_59, e_105_62, e_105_64, e_105_65, e_105_68, e_105_69, e_105_72, e_105_74, e_105_75, e_105_77, e_105_80, e_105_81, e_105_82, e_105_83, e_105_85, e_105_86, e_105_88, e_105_89, e_105_91, e_105_92, e_105_93, e_105_96, e_105_99, e_105_105, e_105_111, e_105_114, cV_some, tl_some, tl_none, mZO_0, mZO_1, mL1_n, mL1_i, mL1_r, oB_some, List.cons_append, List.nil_append, mK_wI, mL_wI, mN_wI, mR_wI, mJ_wI, mK_wJ, mL_wJ, mI_wJ, mR_wJ, mK_wR, mL_wR, mI_wR, mJ_wR, bI_0, bI_n0, if_true, if_false, Nat.reduceLeDiff, Nat.reduceAdd, ite_not, reduceIte, not_false_eq_true, not_true_eq_false, true_and, and_true, and_self, or_false, false_or, or_true, true_or, Nat.reduceEqDiff, Nat.reduceLT, Nat.zero_le, Nat.add_zero, eq_self, false_and, and_false, mc_, mc_i, mc_r, mc_l, mc_ii, mc_ir, mc_il, mc_ri, mc_rr, mc_rl, mc_li, mc_lr, mc_ll, mc_iii, mc_iir, mc_iil, mc_iri, mc_irr, mc_irl, mc_ili, mc_ilr, mc_ill, mc_rii, mc_rir, mc_ril, mc_rri, mc_rrr, mc_rrl, mc_rli, mc_rlr, mc_rll, mc_lii, mc_lir, mc_lil, mc_lri, mc_lrr, mc_lrl, mc_lli, mc_llr, mc_lll, mc_iiii, mc_iiir, mc_iiri, mc_iirr, mc_irii, mc_irir, mc_irri, mc_irrr, mc_riii, mc_riir, mc_riri, mc_rirr, mc_rrii, mc_rrir, mc_rrri, mc_rrrr, mc_iiiii, mc_iiiir, mc_iiiri, mc_iiirr, mc_iirii, mc_iirir, mc_iirri, mc_iirrr, mc_iriii, mc_iriir, mc_iriri, mc_irirr, mc_irrii, mc_irrir, mc_irrri, mc_irrrr, mc_riiii, mc_riiir, mc_riiri, mc_riirr, mc_ririi, mc_ririr, mc_rirri, mc_rirrr, mc_rriii, mc_rriir, mc_rriri, mc_rrirr, mc_rrrii, mc_rrrir, mc_rrrri, mc_rrrrr, tw_uw, tw_uo, tw_us, tw_ur, tw_uf, tw_ug, tw_uc, tw_ue, to_uw, to_uo, to_us, to_ur, to_uf, to_ug, to_uc, to_ue, ts_uw, ts_uo, ts_us, ts_ur, ts_uf, ts_ug, ts_uc, ts_ue, tr_uw, tr_uo, tr_us, tr_ur, tr_uf, tr_ug, tr_uc, tr_ue, tf_uw, tf_uo, tf_us, tf_ur, tf_uf, tf_ug, tf_uc, tf_ue, tg_uw, tg_uo, tg_us, tg_ur, tg_uf, tg_ug, tg_uc, tg_ue, tc_uw, tc_uo, tc_us, tc_ur, tc_uf, tc_ug, tc_uc, tc_ue, te_uw, te_uo, te_us, te_ur, te_uf, te_ug, te_uc, te_ue, mK_wM, mL_wM, mR_wM, mI_wM, mJ_wM, gK_109 g, h13, le_self32]
  | k + 1, i, n, τ, o6, hk, hw, hz, T => by
    have S' := S
    obtain ⟨q, g0, hmt, hn, hq, hmy⟩ := S
    have g := g0.1
    have n4 := q.1.1
    have hi : i < cfg h 0 2 := by omega
    have k9 := (q.1.2.2.2.1 i hi).2.2.1
    have k3 := (q.1.2.2.2.1 i hi).2.2.2.2.2
    have n124 := g0.off (b := 124) (by decide) (by decide)
    have n121 := g0.off (b := 121) (by decide) (by decide)
    have c6 := (q.m hi).2.2.2.2.2.2
    have c3 := (q.m hi).2.2.2.1
    have hc : ¬ nI (cfg h 0 2) ≤ nI i := nI_ge hi (by omega)
    have h13 : to τ 13 = nI (cfg h 0 2) := (T.2.1 13 (by omega)).trans hn
    have step : ∃ (τ1 : T8) (o : Option Value), TS h mt qs f0 τ0 (rmN (cfg h) t rn r i n) τ1 ∧ ev (d + 3) 105 56 [some (.ref 109), some (.ref a), some (.int (nI t)), some (.int may), some (.int (nI r)), some (.int (nI i)), some (.int (nI 0))] [] (wM h a τ) = ev (d + 3) 105 102 [some (.ref 109), some (.ref a), some (.int (nI t)), some (.int may), some (.int (nI r)), some (.int (nI i)), o] [] (wM h a τ1) := by
      by_cases b : cfg h 10 i = r
      · have e1 : rmN (cfg h) t rn r i n = mlN (cfg h) t rn i n := if_pos b
        rw [e1]
        subst b
        have e0 : mlP (cfg h) t rn i 0 n = n := by
          unfold mlP
          split <;> rfl
        obtain ⟨τ1, T1, e1⟩ := loop105c (d := d) S' ht hi hw (fun s hs => hz i hi (Or.inr ⟨rfl, Nat.le_refl _⟩) s hs) (cfg h 13 i) 0 τ (by omega) (by rw [e0]; exact T)
        exact ⟨τ1, _, T1, e1⟩
      · have e1 : rmN (cfg h) t rn r i n = n := if_neg b
        rw [e1]
        refine ⟨τ, some (.int (nI 0)), T, ?_⟩
        have nr : ¬ nI (cfg h 10 i) = nI r := nI_ne b (by omega) (by omega)
        rw [e_105_56]
        by_cases b2 : nI (cfg h 13 i) ≤ nI 0
        · simp only [e_105_0, e_105_1, e_105_2, e_105_5, e_105_6, e_105_10, e_105_11, e_105_14, e_105_17, e_105_18, e_105_21, e_105_23, e_105_24, e_105_25, e_105_28, e_105_31, e_105_32, e_105_36, e_105_38, e_105_41, e_105_42, e_105_46, e_105_47, e_105_50, e_105_53, e_105_54, e_105_58, e_105_59, e_105_62, e_105_64, e_105_65, e_105_68, e_105_69, e_105_72, e_105_74, e_105_75, e_105_77, e_105_80, e_105_81, e_105_82, e_105_83, e_105_85, e_105_86, e_105_88, e_105_89, e_105_91, e_105_92, e_105_93, e_105_96, e_105_99, e_105_105, e_105_108, e_105_111, e_105_114, cV_some, tl_some, tl_none, mZO_0, mZO_1, mL1_n, mL1_i, mL1_r, oB_some, List.cons_append, List.nil_append, mK_wI, mL_wI, mN_wI, mR_wI, mJ_wI, mK_wJ, mL_wJ, mI_wJ, mR_wJ, mK_wR, mL_wR, mI_wR, mJ_wR, bI_0, bI_n0, if_true, if_false, Nat.reduceLeDiff, Nat.reduceAdd, ite_not, reduceIte, not_false_eq_true, not_true_eq_false, true_and, and_true, and_self, or_false, false_or, or_true, true_or, Nat.reduceEqDiff, Nat.reduceLT, Nat.zero_le, Nat.add_zero, eq_self, false_and, and_false, mc_, mc_i, mc_r, mc_l, mc_ii, mc_ir, mc_il, mc_ri, mc_rr, mc_rl, mc_li, mc_lr, mc_ll, mc_iii, mc_iir, mc_iil, mc_iri, mc_irr, mc_irl, mc_ili, mc_ilr, mc_ill, mc_rii, mc_rir, mc_ril, mc_rri, mc_rrr, mc_rrl, mc_rli, mc_rlr, mc_rll, mc_lii, mc_lir, mc_lil, mc_lri, mc_lrr, mc_lrl, mc_lli, mc_llr, mc_lll, mc_iiii, mc_iiir, mc_iiri, mc_iirr, mc_irii, mc_irir, mc_irri, mc_irrr, mc_riii, mc_riir, mc_riri, mc_rirr, mc_rrii, mc_rrir, mc_rrri, mc_rrrr, mc_iiiii, mc_iiiir, mc_iiiri, mc_iiirr, mc_iirii, mc_iirir, mc_iirri, mc_iirrr, mc_iriii, mc_iriir, mc_iriri, mc_irirr, mc_irrii, mc_irrir, mc_irrri, mc_irrrr, mc_riiii, mc_riiir, mc_riiri, mc_riirr, mc_ririi, mc_ririr, mc_rirri, mc_rirrr, mc_rriii, mc_rriir, mc_rriri, mc_rrirr, mc_rrrii, mc_rrrir, mc_rrrri, mc_rrrrr, tw_uw, tw_uo, tw_us, tw_ur, tw_uf, tw_ug, tw_uc, tw_ue, to_uw, to_uo, to_us, to_ur, to_uf, to_ug, to_uc, to_ue, ts_uw, ts_uo, ts_us, ts_ur, ts_uf, ts_ug, ts_uc, ts_ue, tr_uw, tr_uo, tr_us, tr_ur, tr_uf, tr_ug, tr_uc, tr_ue, tf_uw, tf_uo, tf_us, tf_ur, tf_uf, tf_ug, tf_uc, tf_ue, tg_uw, tg_uo, tg_us, tg_ur, tg_uf, tg_ug, tg_uc, tg_ue, tc_uw, tc_uo, tc_us, tc_ur, tc_uf, tc_ug, tc_uc, tc_ue, te_uw, te_uo, te_us, te_ur, te_uf, te_ug, te_uc, te_ue, mK_wM, mL_wM, mR_wM, mI_wM, mJ_wM, gK_109 g, gR_109_19 g, gK_124 g, gL_124 g, n124, ixN (show i < 4 by omega) (by omega), cl (show i < 2 ^ 31 by omega), c6, b2]
        · simp only [e_105_0, e_105_1, e_105_2, e_105_5, e_105_6, e_105_10, e_105_11, e_105_14, e_105_17, e_105_18, e_105_21, e_105_23, e_105_24, e_105_25, e_105_28, e_105_31, e_105_32, e_105_36, e_105_38, e_105_41, e_105_42, e_105_46, e_105_47, e_105_50, e_105_53, e_105_54, e_105_58, e_105_59, e_105_62, e_105_64, e_105_65, e_105_68, e_105_69, e_105_72, e_105_74, e_105_75, e_105_77, e_105_80, e_105_81, e_105_82, e_105_83, e_105_85, e_105_86, e_105_88, e_105_89, e_105_91, e_105_92, e_105_93, e_105_96, e_105_99, e_105_105, e_105_108, e_105_111, e_105_114, cV_some, tl_some, tl_none, mZO_0, mZO_1, mL1_n, mL1_i, mL1_r, oB_some, List.cons_append, List.nil_append, mK_wI, mL_wI, mN_wI, mR_wI, mJ_wI, mK_wJ, mL_wJ, mI_wJ, mR_wJ, mK_wR, mL_wR, mI_wR, mJ_wR, bI_0, bI_n0, if_true, if_false, Nat.reduceLeDiff, Nat.reduceAdd, ite_not, reduceIte, not_false_eq_true, not_true_eq_false, true_and, and_true, and_self, or_false, false_or, or_true, true_or, Nat.reduceEqDiff, Nat.reduceLT, Nat.zero_le, Nat.add_zero, eq_self, false_and, and_false, mc_, mc_i, mc_r, mc_l, mc_ii, mc_ir, mc_il, mc_ri, mc_rr, mc_rl, mc_li, mc_lr, mc_ll, mc_iii, mc_iir, mc_iil, mc_iri, mc_irr, mc_irl, mc_ili, mc_ilr, mc_ill, mc_rii, mc_rir, mc_ril, mc_rri, mc_rrr, mc_rrl, mc_rli, mc_rlr, mc_rll, mc_lii, mc_lir, mc_lil, mc_lri, mc_lrr, mc_lrl, mc_lli, mc_llr, mc_lll, mc_iiii, mc_iiir, mc_iiri, mc_iirr, mc_irii, mc_irir, mc_irri, mc_irrr, mc_riii, mc_riir, mc_riri, mc_rirr, mc_rrii, mc_rrir, mc_rrri, mc_rrrr, mc_iiiii, mc_iiiir, mc_iiiri, mc_iiirr, mc_iirii, mc_iirir, mc_iirri, mc_iirrr, mc_iriii, mc_iriir, mc_iriri, mc_irirr, mc_irrii, mc_irrir, mc_irrri, mc_irrrr, mc_riiii, mc_riiir, mc_riiri, mc_riirr, mc_ririi, mc_ririr, mc_rirri, mc_rirrr, mc_rriii, mc_rriir, mc_rriri, mc_rrirr, mc_rrrii, mc_rrrir, mc_rrrri, mc_rrrrr, tw_uw, tw_uo, tw_us, tw_ur, tw_uf, tw_ug, tw_uc, tw_ue, to_uw, to_uo, to_us, to_ur, to_uf, to_ug, to_uc, to_ue, ts_uw, ts_uo, ts_us, ts_ur, ts_uf, ts_ug, ts_uc, ts_ue, tr_uw, tr_uo, tr_us, tr_ur, tr_uf, tr_ug, tr_uc, tr_ue, tf_uw, tf_uo, tf_us, tf_ur, tf_uf, tf_ug, tf_uc, tf_ue, tg_uw, tg_uo, tg_us, tg_ur, tg_uf, tg_ug, tg_uc, tg_ue, tc_uw, tc_uo, tc_us, tc_ur, tc_uf, tc_ug, tc_uc, tc_ue, te_uw, te_uo, te_us, te_ur, te_uf, te_ug, te_uc, te_ue, mK_wM, mL_wM, mR_wM, mI_wM, mJ_wM, gK_109 g, gR_109_16 g, gR_109_19 g, gK_124 g, gL_124 g, gK_121 g, gL_121 g, n124, n121, ixN (show i < 4 by omega) (by omega), cl (show i < 2 ^ 31 by omega), c6, c3, b2, nr]
    obtain ⟨τ1, o, T1, e1⟩ := step
    obtain ⟨n', τ', o', f1, w1, z1, T2, e2⟩ := loop105b (d := d) S' ht hr k (i + 1) (rmN (cfg h) t rn r i n) τ1 o (by omega) (rmN_wb hw) (ZC_step q.1 hi hz) T1
    refine ⟨n', τ', o', fun x hx => f1 x (by rw [← hx]; rfl), w1, z1, T2, ?_⟩
    rw [e_105_44]
    simp only [e_105_0, e_105_1, e_105_2, e_105_5, e_105_6, e_105_10, e_105_11, e_105_14, e_105_17, e_105_18, e_105_21, e_105_23, e_105_24, e_105_25, e_105_28, e_105_31, e_105_32, e_105_36, e_105_38, e_105_41, e_105_42, e_105_46, e_105_47, e_105_50, e_105_53, e_105_54, e_105_58, e_105_59, e_105_62, e_105_64, e_105_65, e_105_68, e_105_69, e_105_72, e_105_74, e_105_75, e_105_77, e_105_80, e_105_81, e_105_82, e_105_83, e_105_85, e_105_86, e_105_88, e_105_89, e_105_91, e_105_92, e_105_93, e_105_96, e_105_99, e_105_105, e_105_111, e_105_114, cV_some, tl_some, tl_none, mZO_0, mZO_1, mL1_n, mL1_i, mL1_r, oB_some, List.cons_append, List.nil_append, mK_wI, mL_wI, mN_wI, mR_wI, mJ_wI, mK_wJ, mL_wJ, mI_wJ, mR_wJ, mK_wR, mL_wR, mI_wR, mJ_wR, bI_0, bI_n0, if_true, if_false, Nat.reduceLeDiff, Nat.reduceAdd, ite_not, reduceIte, not_false_eq_true, not_true_eq_false, true_and, and_true, and_self, or_false, false_or, or_true, true_or, Nat.reduceEqDiff, Nat.reduceLT, Nat.zero_le, Nat.add_zero, eq_self, false_and, and_false, mc_, mc_i, mc_r, mc_l, mc_ii, mc_ir, mc_il, mc_ri, mc_rr, mc_rl, mc_li, mc_lr, mc_ll, mc_iii, mc_iir, mc_iil, mc_iri, mc_irr, mc_irl, mc_ili, mc_ilr, mc_ill, mc_rii, mc_rir, mc_ril, mc_rri, mc_rrr, mc_rrl, mc_rli, mc_rlr, mc_rll, mc_lii, mc_lir, mc_lil, mc_lri, mc_lrr, mc_lrl, mc_lli, mc_llr, mc_lll, mc_iiii, mc_iiir, mc_iiri, mc_iirr, mc_irii, mc_irir, mc_irri, mc_irrr, mc_riii, mc_riir, mc_riri, mc_rirr, mc_rrii, mc_rrir, mc_rrri, mc_rrrr, mc_iiiii, mc_iiiir, mc_iiiri, mc_iiirr, mc_iirii, mc_iirir, mc_iirri, mc_iirrr, mc_iriii, mc_iriir, mc_iriri, mc_irirr, mc_irrii, mc_irrir, mc_irrri, mc_irrrr, mc_riiii, mc_riiir, mc_riiri, mc_riirr, mc_ririi, mc_ririr, mc_rirri, mc_rirrr, mc_rriii, mc_rriir, mc_rriri, mc_rrirr, mc_rrrii, mc_rrrir, mc_rrrri, mc_rrrrr, tw_uw, tw_uo, tw_us, tw_ur, tw_uf, tw_ug, tw_uc, tw_ue, to_uw, to_uo, to_us, to_ur, to_uf, to_ug, to_uc, to_ue, ts_uw, ts_uo, ts_us, ts_ur, ts_uf, ts_ug, ts_uc, ts_ue, tr_uw, tr_uo, tr_us, tr_ur, tr_uf, tr_ug, tr_uc, tr_ue, tf_uw, tf_uo, tf_us, tf_ur, tf_uf, tf_ug, tf_uc, tf_ue, tg_uw, tg_uo, tg_us, tg_ur, tg_uf, tg_ug, tg_uc, tg_ue, tc_uw, tc_uo, tc_us, tc_ur, tc_uf, tc_ug, tc_uc, tc_ue, te_uw, te_uo, te_us, te_ur, te_uf, te_ug, te_uc, te_ue, mK_wM, mL_wM, mR_wM, mI_wM, mJ_wM, gK_109 g, h13, hc]
    rw [show (0 : Int32) = nI 0 from rfl, e1]
    simp only [e_105_102, e_105_105, cV_some, tl_some, tl_none, mZO_0, mZO_1, mL1_n, mL1_i, mL1_r, oB_some, List.cons_append, List.nil_append, mK_wI, mL_wI, mN_wI, mR_wI, mJ_wI, mK_wJ, mL_wJ, mI_wJ, mR_wJ, mK_wR, mL_wR, mI_wR, mJ_wR, bI_0, bI_n0, if_true, if_false, Nat.reduceLeDiff, Nat.reduceAdd, ite_not, reduceIte, not_false_eq_true, not_true_eq_false, true_and, and_true, and_self, or_false, false_or, or_true, true_or, Nat.reduceEqDiff, Nat.reduceLT, Nat.zero_le, Nat.add_zero, eq_self, false_and, and_false, mc_, mc_i, mc_r, mc_l, mc_ii, mc_ir, mc_il, mc_ri, mc_rr, mc_rl, mc_li, mc_lr, mc_ll, mc_iii, mc_iir, mc_iil, mc_iri, mc_irr, mc_irl, mc_ili, mc_ilr, mc_ill, mc_rii, mc_rir, mc_ril, mc_rri, mc_rrr, mc_rrl, mc_rli, mc_rlr, mc_rll, mc_lii, mc_lir, mc_lil, mc_lri, mc_lrr, mc_lrl, mc_lli, mc_llr, mc_lll, mc_iiii, mc_iiir, mc_iiri, mc_iirr, mc_irii, mc_irir, mc_irri, mc_irrr, mc_riii, mc_riir, mc_riri, mc_rirr, mc_rrii, mc_rrir, mc_rrri, mc_rrrr, mc_iiiii, mc_iiiir, mc_iiiri, mc_iiirr, mc_iirii, mc_iirir, mc_iirri, mc_iirrr, mc_iriii, mc_iriir, mc_iriri, mc_irirr, mc_irrii, mc_irrir, mc_irrri, mc_irrrr, mc_riiii, mc_riiir, mc_riiri, mc_riirr, mc_ririi, mc_ririr, mc_rirri, mc_rirrr, mc_rriii, mc_rriir, mc_rriri, mc_rrirr, mc_rrrii, mc_rrrir, mc_rrrri, mc_rrrrr, nI_1]
    exact e2
theorem loop105a {d : Nat} {h : mM} {a : Nat} {mt : Bool} {qs : Nat → List Sk} {f0 : Nat → Int64} {τ0 : T8} {may : Int32} {rn : Nat} (S : HS h a mt qs τ0 may rn) {t : Nat} (ht : t ≤ 200) {x0 : N3} : ∀ (k i : Nat) (τ : T8) (o5 o6 : Option Value), i + k = 10 → WB (cfg h) (foldN (rkN (cfg h) t rn) i x0).1 → ZC (cfg h) (foldN (rkN (cfg h) t rn) i x0) i 0 → TS h mt qs f0 τ0 (foldN (rkN (cfg h) t rn) i x0) τ → ∃ τ', TS h mt qs f0 τ0 (foldN (rkN (cfg h) t rn) 10 x0) τ' ∧ ev (d + 3) 105 34 [some (.ref 109), some (.ref a), some (.int (nI t)), some (.int may), some (.int (nI i)), o5, o6] [] (wM h a τ) = some (none, wM h a τ')
  | 0, i, τ, o5, o6, hk, hw, hz, T => by
    have e : i = 10 := by omega
    subst e
    refine ⟨τ, T, ?_⟩
    have e10 : (10 : Int32) ≤ nI 10 := by decide
    rw [e_105_34]
    simp only [e_105_0, e_105_1, e_105_2, e_105_5, e_105_6, e_105_10, e_105_11, e_105_14, e_105_17, e_105_18, e_105_21, e_105_23, e_105_24, e_105_25, e_105_28, e_105_31, e_105_32, e_105_36, e_105_38, e_105_41, e_105_42, e_105_46, e_105_47, e_105_50, e_105_53, e_105_54, e_105_58, e_105_59, e_105_62, e_105_64, e_105_65, e_105_68, e_105_69, e_105_72, e_105_74, e_105_75, e_105_77, e_105_80, e_105_81, e_105_82, e_105_83, e_105_85, e_105_86, e_105_88, e_105_89, e_105_91, e_105_92, e_105_93, e_105_96, e_105_99, e_105_105, e_105_111, e_105_114, cV_some, tl_some, tl_none, mZO_0, mZO_1, mL1_n, mL1_i, mL1_r, oB_some, List.cons_append, List.nil_append, mK_wI, mL_wI, mN_wI, mR_wI, mJ_wI, mK_wJ, mL_wJ, mI_wJ, mR_wJ, mK_wR, mL_wR, mI_wR, mJ_wR, bI_0, bI_n0, if_true, if_false, Nat.reduceLeDiff, Nat.reduceAdd, ite_not, reduceIte, not_false_eq_true, not_true_eq_false, true_and, and_true, and_self, or_false, false_or, or_true, true_or, Nat.reduceEqDiff, Nat.reduceLT, Nat.zero_le, Nat.add_zero, eq_self, false_and, and_false, mc_, mc_i, mc_r, mc_l, mc_ii, mc_ir, mc_il, mc_ri, mc_rr, mc_rl, mc_li, mc_lr, mc_ll, mc_iii, mc_iir, mc_iil, mc_iri, mc_irr, mc_irl, mc_ili, mc_ilr, mc_ill, mc_rii, mc_rir, mc_ril, mc_rri, mc_rrr, mc_rrl, mc_rli, mc_rlr, mc_rll, mc_lii, mc_lir, mc_lil, mc_lri, mc_lrr, mc_lrl, mc_lli, mc_llr, mc_lll, mc_iiii, mc_iiir, mc_iiri, mc_iirr, mc_irii, mc_irir, mc_irri, mc_irrr, mc_riii, mc_riir, mc_riri, mc_rirr, mc_rrii, mc_rrir, mc_rrri, mc_rrrr, mc_iiiii, mc_iiiir, mc_iiiri, mc_iiirr, mc_iirii, mc_iirir, mc_iirri, mc_iirrr, mc_iriii, mc_iriir, mc_iriri, mc_irirr, mc_irrii, mc_irrir, mc_irrri, mc_irrrr, mc_riiii, mc_riiir, mc_riiri, mc_riirr, mc_ririi, mc_ririr, mc_rirri, mc_rirrr, mc_rriii, mc_rriir, mc_rriri, mc_rrirr, mc_rrrii, mc_rrrir, mc_rrrri, mc_rrrrr, e10]
  | k + 1, i, τ, o5, o6, hk, hw, hz, T => by
    have hc : ¬ (10 : Int32) ≤ nI i := nI_ge (b := 10) (by omega) (by omega)
    obtain ⟨n', τ1, o, f1, w1, z1, T1, e1⟩ := loop105b (d := d) S ht (show i < 10 by omega) (cfg h 0 2) 0 (foldN (rkN (cfg h) t rn) i x0) τ o6 (by omega) hw hz T
    have fn : foldN (rkN (cfg h) t rn) (i + 1) x0 = n' := f1 (foldN (rkN (cfg h) t rn) i x0) rfl
    have ih := fun (o5 o6 : Option Value) => loop105a (d := d) (f0 := f0) S ht (x0 := x0) k (i + 1) τ1 o5 o6 (by omega)
    rw [fn] at ih
    have ih2 := fun (o5 o6 : Option Value) => ih o5 o6 w1 (fun m hm hc2 s hs => z1 m hm (by omega) s hs) T1
    obtain ⟨τ', T2, e2⟩ := ih2 (some (.int (nI (cfg h 0 2)))) o
    refine ⟨τ', T2, ?_⟩
    rw [e_105_34]
    simp only [e_105_0, e_105_1, e_105_2, e_105_5, e_105_6, e_105_10, e_105_11, e_105_14, e_105_17, e_105_18, e_105_21, e_105_23, e_105_24, e_105_25, e_105_28, e_105_31, e_105_32, e_105_36, e_105_38, e_105_41, e_105_42, e_105_46, e_105_47, e_105_50, e_105_53, e_105_54, e_105_58, e_105_59, e_105_62, e_105_64, e_105_65, e_105_68, e_105_69, e_105_72, e_105_74, e_105_75, e_105_77, e_105_80, e_105_81, e_105_82, e_105_83, e_105_85, e_105_86, e_105_88, e_105_89, e_105_91, e_105_92, e_105_93, e_105_96, e_105_99, e_105_105, e_105_111, e_105_114, cV_some, tl_some, tl_none, mZO_0, mZO_1, mL1_n, mL1_i, mL1_r, oB_some, List.cons_append, List.nil_append, mK_wI, mL_wI, mN_wI, mR_wI, mJ_wI, mK_wJ, mL_wJ, mI_wJ, mR_wJ, mK_wR, mL_wR, mI_wR, mJ_wR, bI_0, bI_n0, if_true, if_false, Nat.reduceLeDiff, Nat.reduceAdd, ite_not, reduceIte, not_false_eq_true, not_true_eq_false, true_and, and_true, and_self, or_false, false_or, or_true, true_or, Nat.reduceEqDiff, Nat.reduceLT, Nat.zero_le, Nat.add_zero, eq_self, false_and, and_false, mc_, mc_i, mc_r, mc_l, mc_ii, mc_ir, mc_il, mc_ri, mc_rr, mc_rl, mc_li, mc_lr, mc_ll, mc_iii, mc_iir, mc_iil, mc_iri, mc_irr, mc_irl, mc_ili, mc_ilr, mc_ill, mc_rii, mc_rir, mc_ril, mc_rri, mc_rrr, mc_rrl, mc_rli, mc_rlr, mc_rll, mc_lii, mc_lir, mc_lil, mc_lri, mc_lrr, mc_lrl, mc_lli, mc_llr, mc_lll, mc_iiii, mc_iiir, mc_iiri, mc_iirr, mc_irii, mc_irir, mc_irri, mc_irrr, mc_riii, mc_riir, mc_riri, mc_rirr, mc_rrii, mc_rrir, mc_rrri, mc_rrrr, mc_iiiii, mc_iiiir, mc_iiiri, mc_iiirr, mc_iirii, mc_iirir, mc_iirri, mc_iirrr, mc_iriii, mc_iriir, mc_iriri, mc_irirr, mc_irrii, mc_irrir, mc_irrri, mc_irrrr, mc_riiii, mc_riiir, mc_riiri, mc_riirr, mc_ririi, mc_ririr, mc_rirri, mc_rirrr, mc_rriii, mc_rriir, mc_rriri, mc_rrirr, mc_rrrii, mc_rrrir, mc_rrrri, mc_rrrrr, hc]
    rw [show (0 : Int32) = nI 0 from rfl, e1]
    simp only [e_105_108, e_105_111, cV_some, tl_some, tl_none, mZO_0, mZO_1, mL1_n, mL1_i, mL1_r, oB_some, List.cons_append, List.nil_append, mK_wI, mL_wI, mN_wI, mR_wI, mJ_wI, mK_wJ, mL_wJ, mI_wJ, mR_wJ, mK_wR, mL_wR, mI_wR, mJ_wR, bI_0, bI_n0, if_true, if_false, Nat.reduceLeDiff, Nat.reduceAdd, ite_not, reduceIte, not_false_eq_true, not_true_eq_false, true_and, and_true, and_self, or_false, false_or, or_true, true_or, Nat.reduceEqDiff, Nat.reduceLT, Nat.zero_le, Nat.add_zero, eq_self, false_and, and_false, mc_, mc_i, mc_r, mc_l, mc_ii, mc_ir, mc_il, mc_ri, mc_rr, mc_rl, mc_li, mc_lr, mc_ll, mc_iii, mc_iir, mc_iil, mc_iri, mc_irr, mc_irl, mc_ili, mc_ilr, mc_ill, mc_rii, mc_rir, mc_ril, mc_rri, mc_rrr, mc_rrl, mc_rli, mc_rlr, mc_rll, mc_lii, mc_lir, mc_lil, mc_lri, mc_lrr, mc_lrl, mc_lli, mc_llr, mc_lll, mc_iiii, mc_iiir, mc_iiri, mc_iirr, mc_irii, mc_irir, mc_irri, mc_irrr, mc_riii, mc_riir, mc_riri, mc_rirr, mc_rrii, mc_rrir, mc_rrri, mc_rrrr, mc_iiiii, mc_iiiir, mc_iiiri, mc_iiirr, mc_iirii, mc_iirir, mc_iirri, mc_iirrr, mc_iriii, mc_iriir, mc_iriri, mc_irirr, mc_irrii, mc_irrir, mc_irrri, mc_irrrr, mc_riiii, mc_riiir, mc_riiri, mc_riirr, mc_ririi, mc_ririr, mc_rirri, mc_rirrr, mc_rriii, mc_rriir, mc_rriri, mc_rrirr, mc_rrrii, mc_rrrir, mc_rrrri, mc_rrrrr, nI_1]
    exact e2
def zg (m : Nat) (τ : T8) : T8 := ug τ (vp_updL (tg τ) m 0)
theorem zg_eq : ∀ (n : Nat) (τ : T8), foldN zg n τ = ug τ (fun m => if m < n then 0 else tg τ m)
  | 0, τ => by
    show τ = ug τ (fun m => if m < 0 then 0 else tg τ m)
    simp only [Nat.not_lt_zero, if_false]
    rfl
  | n + 1, τ => by
    show zg n (foldN zg n τ) = _
    rw [zg_eq n τ]
    show ug τ (vp_updL (fun m => if m < n then 0 else tg τ m) n 0) = _
    congr 1
    funext m
    rw [updL_ap]
    by_cases e : m = n
    · subst e
      rw [if_pos rfl, if_pos (by omega)]
    · rw [if_neg e]
      by_cases e2 : m < n
      · rw [if_pos e2, if_pos (by omega)]
      · rw [if_neg e2, if_neg (by omega)]
theorem zg_to : ∀ (n : Nat) (τ : T8), to (foldN zg n τ) = to τ := fun n τ => by rw [zg_eq]; rfl
theorem loop105z {d : Nat} {h : mM} {a : Nat} (g0 : MW h a) {np : Nat} (h4 : np ≤ 4) {t may : Int32} (σ : T8) (hn : to σ 13 = nI np) : ∀ (k i : Nat), i + k = np → ev d 105 8 [some (.ref 109), some (.ref a), some (.int t), some (.int may), some (.int (nI i)), none, none] [] (wM h a (foldN zg i σ)) = ev d 105 34 [some (.ref 109), some (.ref a), some (.int t), some (.int may), some (.int 0), none, none] [] (wM h a (foldN zg np σ))
  | 0, i, hk => by
    have e : i = np := by omega
    subst e
    have g := g0.1
    rw [e_105_8]
    simp only [e_105_0, e_105_1, e_105_2, e_105_5, e_105_6, e_105_10, e_105_11, e_105_14, e_105_17, e_105_18, e_105_21, e_105_23, e_105_24, e_105_25, e_105_28, e_105_31, e_105_32, e_105_36, e_105_38, e_105_41, e_105_42, e_105_46, e_105_47, e_105_50, e_105_53, e_105_54, e_105_58, e_105_59, e_105_62, e_105_64, e_105_65, e_105_68, e_105_69, e_105_72, e_105_74, e_105_75, e_105_77, e_105_80, e_105_81, e_105_82, e_105_83, e_105_85, e_105_86, e_105_88, e_105_89, e_105_91, e_105_92, e_105_93, e_105_96, e_105_99, e_105_105, e_105_111, e_105_114, cV_some, tl_some, tl_none, mZO_0, mZO_1, mL1_n, mL1_i, mL1_r, oB_some, List.cons_append, List.nil_append, mK_wI, mL_wI, mN_wI, mR_wI, mJ_wI, mK_wJ, mL_wJ, mI_wJ, mR_wJ, mK_wR, mL_wR, mI_wR, mJ_wR, bI_0, bI_n0, if_true, if_false, Nat.reduceLeDiff, Nat.reduceAdd, ite_not, reduceIte, not_false_eq_true, not_true_eq_false, true_and, and_true, and_self, or_false, false_or, or_true, true_or, Nat.reduceEqDiff, Nat.reduceLT, Nat.zero_le, Nat.add_zero, eq_self, false_and, and_false, mc_, mc_i, mc_r, mc_l, mc_ii, mc_ir, mc_il, mc_ri, mc_rr, mc_rl, mc_li, mc_lr, mc_ll, mc_iii, mc_iir, mc_iil, mc_iri, mc_irr, mc_irl, mc_ili, mc_ilr, mc_ill, mc_rii, mc_rir, mc_ril, mc_rri, mc_rrr, mc_rrl, mc_rli, mc_rlr, mc_rll, mc_lii, mc_lir, mc_lil, mc_lri, mc_lrr, mc_lrl, mc_lli, mc_llr, mc_lll, mc_iiii, mc_iiir, mc_iiri, mc_iirr, mc_irii, mc_irir, mc_irri, mc_irrr, mc_riii, mc_riir, mc_riri, mc_rirr, mc_rrii, mc_rrir, mc_rrri, mc_rrrr, mc_iiiii, mc_iiiir, mc_iiiri, mc_iiirr, mc_iirii, mc_iirir, mc_iirri, mc_iirrr, mc_iriii, mc_iriir, mc_iriri, mc_irirr, mc_irrii, mc_irrir, mc_irrri, mc_irrrr, mc_riiii, mc_riiir, mc_riiri, mc_riirr, mc_ririi, mc_ririr, mc_rirri, mc_rirrr, mc_rriii, mc_rriir, mc_rriri, mc_rrirr, mc_rrrii, mc_rrrir, mc_rrrri, mc_rrrrr, tw_uw, tw_uo, tw_us, tw_ur, tw_uf, tw_ug, tw_uc, tw_ue, to_uw, to_uo, to_us, to_ur, to_uf, to_ug, to_uc, to_ue, ts_uw, ts_uo, ts_us, ts_ur, ts_uf, ts_ug, ts_uc, ts_ue, tr_uw, tr_uo, tr_us, tr_ur, tr_uf, tr_ug, tr_uc, tr_ue, tf_uw, tf_uo, tf_us, tf_ur, tf_uf, tf_ug, tf_uc, tf_ue, tg_uw, tg_uo, tg_us, tg_ur, tg_uf, tg_ug, tg_uc, tg_ue, tc_uw, tc_uo, tc_us, tc_ur, tc_uf, tc_ug, tc_uc, tc_ue, te_uw, te_uo, te_us, te_ur, te_uf, te_ug, te_uc, te_ue, mK_wM, mL_wM, mR_wM, mI_wM, mJ_wM, gK_109 g, zg_to, hn, le_self32]
  | k + 1, i, hk => by
    have g := g0.1
    have hc : ¬ nI np ≤ nI i := nI_ge (by omega) (by omega)
    have ih := loop105z (d := d) g0 h4 (t := t) (may := may) σ hn k (i + 1) (by omega)
    rw [e_105_8]
    simp only [e_105_0, e_105_1, e_105_2, e_105_5, e_105_6, e_105_10, e_105_11, e_105_14, e_105_17, e_105_18, e_105_21, e_105_23, e_105_24, e_105_25, e_105_28, e_105_31, e_105_32, e_105_36, e_105_38, e_105_41, e_105_42, e_105_46, e_105_47, e_105_50, e_105_53, e_105_54, e_105_58, e_105_59, e_105_62, e_105_64, e_105_65, e_105_68, e_105_69, e_105_72, e_105_74, e_105_75, e_105_77, e_105_80, e_105_81, e_105_82, e_105_83, e_105_85, e_105_86, e_105_88, e_105_89, e_105_91, e_105_92, e_105_93, e_105_96, e_105_99, e_105_105, e_105_111, e_105_114, cV_some, tl_some, tl_none, mZO_0, mZO_1, mL1_n, mL1_i, mL1_r, oB_some, List.cons_append, List.nil_append, mK_wI, mL_wI, mN_wI, mR_wI, mJ_wI, mK_wJ, mL_wJ, mI_wJ, mR_wJ, mK_wR, mL_wR, mI_wR, mJ_wR, bI_0, bI_n0, if_true, if_false, Nat.reduceLeDiff, Nat.reduceAdd, ite_not, reduceIte, not_false_eq_true, not_true_eq_false, true_and, and_true, and_self, or_false, false_or, or_true, true_or, Nat.reduceEqDiff, Nat.reduceLT, Nat.zero_le, Nat.add_zero, eq_self, false_and, and_false, mc_, mc_i, mc_r, mc_l, mc_ii, mc_ir, mc_il, mc_ri, mc_rr, mc_rl, mc_li, mc_lr, mc_ll, mc_iii, mc_iir, mc_iil, mc_iri, mc_irr, mc_irl, mc_ili, mc_ilr, mc_ill, mc_rii, mc_rir, mc_ril, mc_rri, mc_rrr, mc_rrl, mc_rli, mc_rlr, mc_rll, mc_lii, mc_lir, mc_lil, mc_lri, mc_lrr, mc_lrl, mc_lli, mc_llr, mc_lll, mc_iiii, mc_iiir, mc_iiri, mc_iirr, mc_irii, mc_irir, mc_irri, mc_irrr, mc_riii, mc_riir, mc_riri, mc_rirr, mc_rrii, mc_rrir, mc_rrri, mc_rrrr, mc_iiiii, mc_iiiir, mc_iiiri, mc_iiirr, mc_iirii, mc_iirir, mc_iirri, mc_iirrr, mc_iriii, mc_iriir, mc_iriri, mc_irirr, mc_irrii, mc_irrir, mc_irrri, mc_irrrr, mc_riiii, mc_riiir, mc_riiri, mc_riirr, mc_ririi, mc_ririr, mc_rirri, mc_rirrr, mc_rriii, mc_rriir, mc_rriri, mc_rrirr, mc_rrrii, mc_rrrir, mc_rrrri, mc_rrrrr, tw_uw, tw_uo, tw_us, tw_ur, tw_uf, tw_ug, tw_uc, tw_ue, to_uw, to_uo, to_us, to_ur, to_uf, to_ug, to_uc, to_ue, ts_uw, ts_uo, ts_us, ts_ur, ts_uf, ts_ug, ts_uc, ts_ue, tr_uw, tr_uo, tr_us, tr_ur, tr_uf, tr_ug, tr_uc, tr_ue, tf_uw, tf_uo, tf_us, tf_ur, tf_uf, tf_ug, tf_uc, tf_ue, tg_uw, tg_uo, tg_us, tg_ur, tg_uf, tg_ug, tg_uc, tg_ue, tc_uw, tc_uo, tc_us, tc_ur, tc_uf, tc_ug, tc_uc, tc_ue, te_uw, te_uo, te_us, te_ur, te_uf, te_ug, te_uc, te_ue, mK_wM, mL_wM, mR_wM, mI_wM, mJ_wM, gK_109 g, gR_109_35 g, gK_137 g, gL_137 g, zg_to, hn, hc, ixN (show i < 4 by omega) (by omega), cl (show i < 2 ^ 31 by omega), wJ_Mg, nI_1]
    exact ih
/-- the sacks as the reference holds them -/
def QR (nm : Nat) (qs : Nat → List Sk) (τ : T8) : Prop := ∀ m, m < nm → ts τ m = nI (qs m).length ∧ Qr (tr τ) (48 * m) (qs m)
theorem AC_0 {kd : Nat → Int32} {hr : Int32} {nm : Nat} {qs : Nat → List Sk} {τ0 τ : T8} (hQ : QR nm qs τ) (e : tc τ = tc τ0 ∧ te τ = te τ0) {g : Nat → Nat} (hg : ∀ i, g i = 0) : AC kd hr nm qs τ0 g τ := by
  have g0 : ∀ m, gbN g m = 0 := fun m => by unfold gbN; rw [hg, hg, hg]
  have r0 : ∀ m, rcN g m = 0 := fun m => by unfold rcN; rw [hg, hg, hg]; rfl
  refine ⟨fun m hm => by rw [g0, gvQ_0]; exact hQ m hm, fun m hm j hj => ?_, fun c => ?_⟩
  · rw [e.1, g0, r0]
    have : acD (kd m) hr 0 0 (qs m) j = 0 := by
      unfold acD
      rw [gvQ_0]
      repeat' split
      all_goals rfl
    rw [this, lN_0]
  · rw [e.2]
    have : ∀ n, sumN (flD kd g qs c) n = 0 := by
      intro n
      induction n with
      | zero => rfl
      | succ n ih =>
        show sumN _ n + flD kd g qs c n = 0
        rw [ih]
        unfold flD
        rw [g0, gvQ_0]
        rfl
    rw [this, lN_0]
theorem r105 {d : Nat} {h : mM} {a : Nat} {mt : Bool} {qs : Nat → List Sk} {f0 : Nat → Int64} {τ0 : T8} {may : Int32} {rn : Nat} (S : HS h a mt qs τ0 may rn) {t : Nat} (ht : t ≤ 200) {n : N3} (hw : WB (cfg h) n.1) (hg : ∀ i, n.2.2 i = 0) (W : WF (cfg h) mt f0 n τ0) (hQ : mt = true → QR 4 qs τ0) : ∃ τ', TS h mt qs f0 τ0 (foldN (rkN (cfg h) t rn) 10 n) τ' ∧ ev (d + 3) 105 0 [some (.ref 109), some (.ref a), some (.int (nI t)), some (.int may), none, none, none] [] (wM h a τ0) = some (none, wM h a τ') := by
  have S' := S
  obtain ⟨q, g0, hmt, hn, hq, hmy⟩ := S
  obtain ⟨qa, k1, k2⟩ := g0.ok
  have g := g0.1
  have hn2 : to (uo τ0 (upd (to τ0) 34 0)) 13 = nI (cfg h 0 2) := by
    show upd (to τ0) 34 0 13 = _
    rw [upd_ap, if_neg (by omega)]
    exact hn
  have z := loop105z (d := d + 3) g0 q.1.1.2.2 (t := nI t) (may := may) (uo τ0 (upd (to τ0) 34 0)) hn2 (cfg h 0 2) 0 (by omega)
  rw [zg_eq (cfg h 0 2)] at z
  have T : TS h mt qs f0 τ0 n (ug (uo τ0 (upd (to τ0) 34 0)) (fun m => if m < cfg h 0 2 then 0 else tg (uo τ0 (upd (to τ0) 34 0)) m)) := by
    refine ⟨W, fun j hj => ?_, fun i hi => ?_, fun m hm => ?_, fun _ => ⟨rfl, rfl, rfl, rfl⟩, fun e => AC_0 (hQ e) ⟨rfl, rfl⟩ hg, fun _ _ => rfl⟩
    · show upd (to τ0) 34 0 j = _
      rw [upd_ap, if_neg hj]
    · show bt (upd (to τ0) 34 0 34) i = _
      rw [upd_ap, if_pos rfl, b_0, hg i, decide_eq_false (by omega)]
    · show (if m < cfg h 0 2 then (0 : Int64) else _) = _
      rw [if_pos hm]
      unfold gbN
      rw [hg, hg, hg]
      rfl
  obtain ⟨τ', T2, e2⟩ := loop105a (d := d) S' ht (x0 := n) 10 0 _ none none (by omega) hw (fun m _ _ s _ => hg _) T
  refine ⟨τ', T2, ?_⟩
  simp only [e_105_0, e_105_1, e_105_2, e_105_5, e_105_6, e_105_10, e_105_11, e_105_14, e_105_17, e_105_18, e_105_21, e_105_23, e_105_24, e_105_25, e_105_28, e_105_31, e_105_32, e_105_36, e_105_38, e_105_41, e_105_42, e_105_46, e_105_47, e_105_50, e_105_53, e_105_54, e_105_58, e_105_59, e_105_62, e_105_64, e_105_65, e_105_68, e_105_69, e_105_72, e_105_74, e_105_75, e_105_77, e_105_80, e_105_81, e_105_82, e_105_83, e_105_85, e_105_86, e_105_88, e_105_89, e_105_91, e_105_92, e_105_93, e_105_96, e_105_99, e_105_105, e_105_111, e_105_114, cV_some, tl_some, tl_none, mZO_0, mZO_1, mL1_n, mL1_i, mL1_r, oB_some, List.cons_append, List.nil_append, mK_wI, mL_wI, mN_wI, mR_wI, mJ_wI, mK_wJ, mL_wJ, mI_wJ, mR_wJ, mK_wR, mL_wR, mI_wR, mJ_wR, bI_0, bI_n0, if_true, if_false, Nat.reduceLeDiff, Nat.reduceAdd, ite_not, reduceIte, not_false_eq_true, not_true_eq_false, true_and, and_true, and_self, or_false, false_or, or_true, true_or, Nat.reduceEqDiff, Nat.reduceLT, Nat.zero_le, Nat.add_zero, eq_self, false_and, and_false, mc_, mc_i, mc_r, mc_l, mc_ii, mc_ir, mc_il, mc_ri, mc_rr, mc_rl, mc_li, mc_lr, mc_ll, mc_iii, mc_iir, mc_iil, mc_iri, mc_irr, mc_irl, mc_ili, mc_ilr, mc_ill, mc_rii, mc_rir, mc_ril, mc_rri, mc_rrr, mc_rrl, mc_rli, mc_rlr, mc_rll, mc_lii, mc_lir, mc_lil, mc_lri, mc_lrr, mc_lrl, mc_lli, mc_llr, mc_lll, mc_iiii, mc_iiir, mc_iiri, mc_iirr, mc_irii, mc_irir, mc_irri, mc_irrr, mc_riii, mc_riir, mc_riri, mc_rirr, mc_rrii, mc_rrir, mc_rrri, mc_rrrr, mc_iiiii, mc_iiiir, mc_iiiri, mc_iiirr, mc_iirii, mc_iirir, mc_iirri, mc_iirrr, mc_iriii, mc_iriir, mc_iriri, mc_irirr, mc_irrii, mc_irrir, mc_irrri, mc_irrrr, mc_riiii, mc_riiir, mc_riiri, mc_riirr, mc_ririi, mc_ririr, mc_rirri, mc_rirrr, mc_rriii, mc_rriir, mc_rriri, mc_rrirr, mc_rrrii, mc_rrrir, mc_rrrri, mc_rrrrr, tw_uw, tw_uo, tw_us, tw_ur, tw_uf, tw_ug, tw_uc, tw_ue, to_uw, to_uo, to_us, to_ur, to_uf, to_ug, to_uc, to_ue, ts_uw, ts_uo, ts_us, ts_ur, ts_uf, ts_ug, ts_uc, ts_ue, tr_uw, tr_uo, tr_us, tr_ur, tr_uf, tr_ug, tr_uc, tr_ue, tf_uw, tf_uo, tf_us, tf_ur, tf_uf, tf_ug, tf_uc, tf_ue, tg_uw, tg_uo, tg_us, tg_ur, tg_uf, tg_ug, tg_uc, tg_ue, tc_uw, tc_uo, tc_us, tc_ur, tc_uf, tc_ug, tc_uc, tc_ue, te_uw, te_uo, te_us, te_ur, te_uf, te_ug, te_uc, te_ue, mK_wM, mL_wM, mR_wM, mI_wM, mJ_wM, gK_109 g, wI_Mo qa]
  rw [show foldN zg 0 (uo τ0 (upd (to τ0) 34 0)) = uo τ0 (upd (to τ0) 34 0) from rfl] at z
  rw [nI_0] at z e2
  rw [z]
  exact e2
