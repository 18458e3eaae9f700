-- the reference gives what was ground to the sacks of a mill
/-- a sack: whose, how much, how much is wanting, when due -/
abbrev Sk : Type := Nat × Nat × Nat × Int32
/-- a sack that is done: whose, how much, when due -/
abbrev Dn : Type := Nat × Nat × Int32
def Qr (r : Nat → Int32) : Nat → List Sk → Prop
  | _, [] => True
  | b, s :: q => (r b = nI s.1 ∧ r (b + 1) = nI s.2.1 ∧ r (b + 2) = nI s.2.2.1 ∧ r (b + 3) = s.2.2.2) ∧ Qr r (b + 4) q
def okS (s : Sk) : Prop := s.1 < 10 ∧ s.2.1 ≤ 2000 ∧ 1 ≤ s.2.2.1 ∧ s.2.2.1 ≤ 2000
def gvQ : Nat → List Sk → List Sk × List Dn × Nat
  | x, [] => ([], [], x)
  | x, s :: q => if x = 0 then (s :: q, [], 0) else if x < s.2.2.1 then ((s.1, s.2.1, s.2.2.1 - x, s.2.2.2) :: q, [], 0) else ((gvQ (x - s.2.2.1) q).1, (s.1, s.2.1, s.2.2.2) :: (gvQ (x - s.2.2.1) q).2.1, (gvQ (x - s.2.2.1) q).2.2)
theorem gvQ_0 : ∀ (q : List Sk), gvQ 0 q = (q, [], 0)
  | [] => rfl
  | _ :: _ => rfl
def sumD (f : Dn → Nat) : List Dn → Nat
  | [] => 0
  | s :: q => f s + sumD f q
def tollN (kd : Int32) (am : Nat) : Nat := if kd = 1 then 0 else am / 16
def tlN (kd : Int32) (s : Dn) : Nat := tollN kd s.2.1
def ltN (hr : Int32) (s : Dn) : Nat := if s.2.2 < hr then 1 else 0
def flN (kd : Int32) (c : Nat) (s : Dn) : Nat := if c = s.1 then s.2.1 - tollN kd s.2.1 else 0
theorem Qr_congr {r r' : Nat → Int32} : ∀ {q : List Sk} {b : Nat}, (∀ k, b ≤ k → k < b + 4 * q.length → r' k = r k) → Qr r b q → Qr r' b q
  | [], _, _, _ => trivial
  | s :: q, b, he, ⟨⟨h1, h2, h3, h4⟩, hq⟩ => by
    have hl : (s :: q).length = q.length + 1 := rfl
    rw [hl] at he
    refine ⟨⟨?_, ?_, ?_, ?_⟩, Qr_congr (fun k k1 k2 => he k (by omega) (by omega)) hq⟩
    · rw [he b (by omega) (by omega)]; exact h1
    · rw [he (b + 1) (by omega) (by omega)]; exact h2
    · rw [he (b + 2) (by omega) (by omega)]; exact h3
    · rw [he (b + 3) (by omega) (by omega)]; exact h4
theorem Qr_shift {r r' : Nat → Int32} : ∀ {q : List Sk} {b : Nat}, (∀ k, b ≤ k → k < b + 4 * q.length → r' k = r (k + 4)) → Qr r (b + 4) q → Qr r' b q
  | [], _, _, _ => trivial
  | s :: q, b, he, ⟨⟨h1, h2, h3, h4⟩, hq⟩ => by
    have hl : (s :: q).length = q.length + 1 := rfl
    rw [hl] at he
    refine ⟨⟨?_, ?_, ?_, ?_⟩, Qr_shift (fun k k1 k2 => he k (by omega) (by omega)) hq⟩
    · rw [he b (by omega) (by omega)]; exact h1
    · rw [he (b + 1) (by omega) (by omega)]; exact h2
    · rw [he (b + 2) (by omega) (by omega)]; exact h3
    · rw [he (b + 3) (by omega) (by omega)]; exact h4
theorem foldN_shS {m : Nat} {r : Nat → Int32} : ∀ (n j : Nat), foldN (shS m) n r j = if 48 * m ≤ j ∧ j < 48 * m + n then r (j + 4) else r j
  | 0, j => by
    rw [if_neg (by omega)]
    rfl
  | n + 1, j => by
    show upd (foldN (shS m) n r) (48 * m + n) (foldN (shS m) n r (48 * m + n + 4)) j = _
    rw [upd_ap]
    by_cases e : j = 48 * m + n
    · subst e
      rw [if_pos rfl, if_pos (by omega), foldN_shS n, if_neg (by omega)]
    · rw [if_neg e, foldN_shS n j]
      by_cases e2 : 48 * m ≤ j ∧ j < 48 * m + n
      · rw [if_pos e2, if_pos (by omega)]
      · rw [if_neg e2, if_neg (by omega)]
/-- what giving x to mill m makes of the rows -/
def GV (kd : Int32) (m x : Nat) (q : List Sk) (τ τ' : T8) : Prop := tw τ' = tw τ ∧ to τ' = to τ ∧ tf τ' = tf τ ∧ tg τ' = tg τ ∧ ts τ' = upd (ts τ) m (nI (gvQ x q).1.length) ∧ Qr (tr τ') (48 * m) (gvQ x q).1 ∧ (∀ k, k < 48 * m ∨ 48 * m + 48 ≤ k → tr τ' k = tr τ k) ∧
  (∀ k, tc τ' k = tc τ k + lN (if k = 6 * m + 1 then sumD (tlN kd) (gvQ x q).2.1 else if k = 6 * m + 2 then (gvQ x q).2.1.length else if k = 6 * m + 3 then sumD (ltN (to τ 0)) (gvQ x q).2.1 else if k = 6 * m + 4 then (gvQ x q).2.2 else 0)) ∧ (∀ c, te τ' c = te τ c + lN (sumD (flN kd c) (gvQ x q).2.1))
theorem lN_0 (x : Int64) : x + lN 0 = x := by
  show x + Int64.ofNat 0 = x
  exact Int64.add_zero x
theorem lN_sum {x : Int64} {a b : Nat} : x + lN a + lN b = x + lN (a + b) := by rw [Int64.add_assoc, lN_add]
theorem upd_self {f : Nat → Int32} {k : Nat} {v : Int32} (e : f k = v) : upd f k v = f := by
  funext j
  rw [upd_ap]
  by_cases q : j = k
  · subst q; rw [if_pos rfl, e]
  · rw [if_neg q]
theorem upd_upd {f : Nat → Int32} {k : Nat} {v v' : Int32} : upd (upd f k v) k v' = upd f k v' := by
  funext j
  simp only [upd_ap]
  by_cases q : j = k
  · rw [if_pos q, if_pos q]
  · rw [if_neg q, if_neg q, if_neg q]
theorem exit107 {d : Nat} {h : mM} {a : Nat} (q : MW h a) {m x : Nat} (hm : m < 4) (hx : x < 2 ^ 31) {y : Int32} {o5 o6 : Option Value} (τ : T8) {n : Nat} (hn : ts τ m = nI n) (h0 : x = 0 ∨ n = 0) : ev d 107 42 [some (.ref 109), some (.int (nI m)), some (.int y), some (.int (nI (6 * m))), some (.int (nI x)), o5, o6] [] (wM h a τ) = some (none, wM h a (uc τ (vp_updL (tc τ) (6 * m + 4) (tc τ (6 * m + 4) + lN x)))) := by
  have g := q.1
  have j4 := ixN (show 6 * m + 4 < 24 by omega) (by omega)
  have l4 := cl (show 6 * m + 4 < 2 ^ 31 by omega)
  have le0 : (0 : Int32) ≤ 0 := by decide
  by_cases b : x = 0
  · subst b
    rw [e_107_42]
    simp only [e_107_0, e_107_2, e_107_3, e_107_4, e_107_5, e_107_6, e_107_9, e_107_10, e_107_11, e_107_12, e_107_15, e_107_16, e_107_19, e_107_20, e_107_21, e_107_22, e_107_23, e_107_24, e_107_25, e_107_26, e_107_27, e_107_28, e_107_29, e_107_32, e_107_33, e_107_34, e_107_35, e_107_36, e_107_37, e_107_38, e_107_39, e_107_40, e_107_44, e_107_47, e_107_48, e_107_51, e_107_52, e_107_53, e_107_56, e_107_58, e_107_59, e_107_60, e_107_62, e_107_64, e_107_65, e_107_68, e_107_70, e_107_71, e_107_72, e_107_73, e_107_76, e_107_78, e_107_79, e_107_82, e_107_84, e_107_85, e_107_86, e_107_87, e_107_88, e_107_90, e_107_91, e_107_92, e_107_94, e_107_96, e_107_97, e_107_99, e_107_100, e_107_103, e_107_105, e_107_106, e_107_107, e_107_108, e_107_111, e_107_112, e_107_113, e_107_115, e_107_118, e_107_121, e_107_122, e_107_125, e_107_126, e_107_127, e_107_128, e_107_129, e_107_130, e_107_132, e_107_133, e_107_134, e_107_135, cV_some, tl_some, tl_none, mZO_0, mZO_1, mL1_n, mL1_i, mL1_r, oB_some, List.cons_append, List.nil_append, mK_wI, mL_wI, mN_wI, mR_wI, mJ_wI, mK_wJ, mL_wJ, mI_wJ, mR_wJ, mK_wR, mL_wR, mI_wR, mJ_wR, bI_0, bI_n0, if_true, if_false, Nat.reduceLeDiff, Nat.reduceAdd, ite_not, reduceIte, not_false_eq_true, not_true_eq_false, true_and, and_true, and_self, or_false, false_or, or_true, true_or, Nat.reduceEqDiff, Nat.reduceLT, Nat.zero_le, Nat.add_zero, eq_self, false_and, and_false, mc_, mc_i, mc_r, mc_l, mc_ii, mc_ir, mc_il, mc_ri, mc_rr, mc_rl, mc_li, mc_lr, mc_ll, mc_iii, mc_iir, mc_iil, mc_iri, mc_irr, mc_irl, mc_ili, mc_ilr, mc_ill, mc_rii, mc_rir, mc_ril, mc_rri, mc_rrr, mc_rrl, mc_rli, mc_rlr, mc_rll, mc_lii, mc_lir, mc_lil, mc_lri, mc_lrr, mc_lrl, mc_lli, mc_llr, mc_lll, mc_iiii, mc_iiir, mc_iiri, mc_iirr, mc_irii, mc_irir, mc_irri, mc_irrr, mc_riii, mc_riir, mc_riri, mc_rirr, mc_rrii, mc_rrir, mc_rrri, mc_rrrr, mc_iiiii, mc_iiiir, mc_iiiri, mc_iiirr, mc_iirii, mc_iirir, mc_iirri, mc_iirrr, mc_iriii, mc_iriir, mc_iriri, mc_irirr, mc_irrii, mc_irrir, mc_irrri, mc_irrrr, mc_riiii, mc_riiir, mc_riiri, mc_riirr, mc_ririi, mc_ririr, mc_rirri, mc_rirrr, mc_rriii, mc_rriir, mc_rriri, mc_rrirr, mc_rrrii, mc_rrrir, mc_rrrri, mc_rrrrr, tw_uw, tw_uo, tw_us, tw_ur, tw_uf, tw_ug, tw_uc, tw_ue, to_uw, to_uo, to_us, to_ur, to_uf, to_ug, to_uc, to_ue, ts_uw, ts_uo, ts_us, ts_ur, ts_uf, ts_ug, ts_uc, ts_ue, tr_uw, tr_uo, tr_us, tr_ur, tr_uf, tr_ug, tr_uc, tr_ue, tf_uw, tf_uo, tf_us, tf_ur, tf_uf, tf_ug, tf_uc, tf_ue, tg_uw, tg_uo, tg_us, tg_ur, tg_uf, tg_ug, tg_uc, tg_ue, tc_uw, tc_uo, tc_us, tc_ur, tc_uf, tc_ug, tc_uc, tc_ue, te_uw, te_uo, te_us, te_ur, te_uf, te_ug, te_uc, te_ue, mK_wM, mL_wM, mR_wM, mI_wM, mJ_wM, gK_109 g, gR_109_27 g, gK_131 g, gL_131 g, nI_0, le0, add4', j4, l4, wJ_Mc, nI_l (show 0 < 2 ^ 31 by omega)]
    rfl
  · have b2 : n = 0 := by omega
    subst b2
    have b3 : ¬ nI x ≤ 0 := nI_nle (by omega) hx
    rw [nI_0] at hn
    rw [e_107_42]
    simp only [e_107_0, e_107_2, e_107_3, e_107_4, e_107_5, e_107_6, e_107_9, e_107_10, e_107_11, e_107_12, e_107_15, e_107_16, e_107_19, e_107_20, e_107_21, e_107_22, e_107_23, e_107_24, e_107_25, e_107_26, e_107_27, e_107_28, e_107_29, e_107_32, e_107_33, e_107_34, e_107_35, e_107_36, e_107_37, e_107_38, e_107_39, e_107_40, e_107_44, e_107_47, e_107_48, e_107_51, e_107_52, e_107_53, e_107_56, e_107_58, e_107_59, e_107_60, e_107_62, e_107_64, e_107_65, e_107_68, e_107_70, e_107_71, e_107_72, e_107_73, e_107_76, e_107_78, e_107_79, e_107_82, e_107_84, e_107_85, e_107_86, e_107_87, e_107_88, e_107_90, e_107_91, e_107_92, e_107_94, e_107_96, e_107_97, e_107_99, e_107_100, e_107_103, e_107_105, e_107_106, e_107_107, e_107_108, e_107_111, e_107_112, e_107_113, e_107_115, e_107_118, e_107_121, e_107_122, e_107_125, e_107_126, e_107_127, e_107_128, e_107_129, e_107_130, e_107_132, e_107_133, e_107_134, e_107_135, cV_some, tl_some, tl_none, mZO_0, mZO_1, mL1_n, mL1_i, mL1_r, oB_some, List.cons_append, List.nil_append, mK_wI, mL_wI, mN_wI, mR_wI, mJ_wI, mK_wJ, mL_wJ, mI_wJ, mR_wJ, mK_wR, mL_wR, mI_wR, mJ_wR, bI_0, bI_n0, if_true, if_false, Nat.reduceLeDiff, Nat.reduceAdd, ite_not, reduceIte, not_false_eq_true, not_true_eq_false, true_and, and_true, and_self, or_false, false_or, or_true, true_or, Nat.reduceEqDiff, Nat.reduceLT, Nat.zero_le, Nat.add_zero, eq_self, false_and, and_false, mc_, mc_i, mc_r, mc_l, mc_ii, mc_ir, mc_il, mc_ri, mc_rr, mc_rl, mc_li, mc_lr, mc_ll, mc_iii, mc_iir, mc_iil, mc_iri, mc_irr, mc_irl, mc_ili, mc_ilr, mc_ill, mc_rii, mc_rir, mc_ril, mc_rri, mc_rrr, mc_rrl, mc_rli, mc_rlr, mc_rll, mc_lii, mc_lir, mc_lil, mc_lri, mc_lrr, mc_lrl, mc_lli, mc_llr, mc_lll, mc_iiii, mc_iiir, mc_iiri, mc_iirr, mc_irii, mc_irir, mc_irri, mc_irrr, mc_riii, mc_riir, mc_riri, mc_rirr, mc_rrii, mc_rrir, mc_rrri, mc_rrrr, mc_iiiii, mc_iiiir, mc_iiiri, mc_iiirr, mc_iirii, mc_iirir, mc_iirri, mc_iirrr, mc_iriii, mc_iriir, mc_iriri, mc_irirr, mc_irrii, mc_irrir, mc_irrri, mc_irrrr, mc_riiii, mc_riiir, mc_riiri, mc_riirr, mc_ririi, mc_ririr, mc_rirri, mc_rirrr, mc_rriii, mc_rriir, mc_rriri, mc_rrirr, mc_rrrii, mc_rrrir, mc_rrrri, mc_rrrrr, tw_uw, tw_uo, tw_us, tw_ur, tw_uf, tw_ug, tw_uc, tw_ue, to_uw, to_uo, to_us, to_ur, to_uf, to_ug, to_uc, to_ue, ts_uw, ts_uo, ts_us, ts_ur, ts_uf, ts_ug, ts_uc, ts_ue, tr_uw, tr_uo, tr_us, tr_ur, tr_uf, tr_ug, tr_uc, tr_ue, tf_uw, tf_uo, tf_us, tf_ur, tf_uf, tf_ug, tf_uc, tf_ue, tg_uw, tg_uo, tg_us, tg_ur, tg_uf, tg_ug, tg_uc, tg_ue, tc_uw, tc_uo, tc_us, tc_ur, tc_uf, tc_ug, tc_uc, tc_ue, te_uw, te_uo, te_us, te_ur, te_uf, te_ug, te_uc, te_ue, mK_wM, mL_wM, mR_wM, mI_wM, mJ_wM, gK_109 g, gR_109_25 g, gR_109_27 g, gK_129 g, gL_129 g, gK_131 g, gL_131 g, ixN hm (by omega), cl (show m < 2 ^ 31 by omega), hn, b3, le0, add4', j4, l4, wJ_Mc, nI_l hx]
theorem GV_exit {kd : Int32} {m x : Nat} {q : List Sk} {τ : T8} (hn : ts τ m = nI q.length) (hq : Qr (tr τ) (48 * m) q) (h0 : x = 0 ∨ q.length = 0) : GV kd m x q τ (uc τ (vp_updL (tc τ) (6 * m + 4) (tc τ (6 * m + 4) + lN x))) := by
  have e : gvQ x q = (q, [], x) := by
    cases q with
    | nil => rfl
    | cons s q =>
      have : x = 0 := by
        rcases h0 with e | e
        · exact e
        · cases e
      subst this
      rfl
  unfold GV
  rw [e]
  refine ⟨rfl, rfl, rfl, rfl, (upd_self hn).symm, hq, fun _ _ => rfl, fun k => ?_, fun c => (lN_0 _).symm⟩
  show vp_updL (tc τ) _ _ k = _
  rw [updL_ap]
  by_cases e4 : k = 6 * m + 4
  · subst e4
    rw [if_pos rfl, if_neg (by omega), if_neg (by omega), if_neg (by omega), if_pos rfl]
  · rw [if_neg e4]
    by_cases e1 : k = 6 * m + 1
    · rw [if_pos e1]; exact (lN_0 _).symm
    · rw [if_neg e1]
      by_cases e2 : k = 6 * m + 2
      · rw [if_pos e2]; exact (lN_0 _).symm
      · rw [if_neg e2]
        by_cases e3 : k = 6 * m + 3
        · rw [if_pos e3]; exact (lN_0 _).symm
        · rw [if_neg e3, if_neg e4]; exact (lN_0 _).symm
theorem tollM_N {kd : Int32} {am : Nat} (h : am ≤ 2000) : tollM kd (nI am) = nI (tollN kd am) := by
  unfold tollM tollN
  by_cases b : kd = 1
  · rw [if_pos b, if_pos b]; rfl
  · rw [if_neg b, if_neg b]
    exact pk_div (by omega) (by omega) (by omega) (d := 16)
theorem tollN_le {kd : Int32} {am : Nat} : tollN kd am ≤ am := by
  unfold tollN
  split
  · omega
  · exact Nat.div_le_self _ _
theorem GV_done {kd : Int32} {m x : Nat} (hm : m < 4) {s : Sk} (hs : okS s) {q : List Sk} (hl : q.length ≤ 11) {τ τ1 τ' : T8} (hx : s.2.2.1 ≤ x) (hr1 : ∀ k, k < 48 * m ∨ 48 * m + 4 ≤ k → tr τ1 k = tr τ k) (e1 : tr τ1 (48 * m + 1) = nI s.2.1) (e3 : tr τ1 (48 * m + 3) = s.2.2.2) (et : (tw τ1, to τ1, ts τ1, tf τ1, tg τ1, tc τ1, te τ1) = (tw τ, to τ, ts τ, tf τ, tg τ, tc τ, te τ)) (hg : GV kd m (x - s.2.2.1) q (doneM kd m q.length s.1 τ1) τ') : GV kd m x (s :: q) τ τ' := by
  obtain ⟨q1, q2, q3, q4⟩ := hs
  simp only [Prod.mk.injEq] at et
  obtain ⟨t1, t2, t3, t4, t5, t6, t7⟩ := et
  have e : gvQ x (s :: q) = ((gvQ (x - s.2.2.1) q).1, (s.1, s.2.1, s.2.2.2) :: (gvQ (x - s.2.2.1) q).2.1, (gvQ (x - s.2.2.1) q).2.2) := by
    show (if x = 0 then _ else _) = _
    rw [if_neg (by omega), if_neg (by omega)]
  obtain ⟨g1, g2, g3, g4, g5, g6, g7, g8, g9⟩ := hg
  have hto : to (doneM kd m q.length s.1 τ1) = to τ := t2
  unfold GV
  rw [e]
  refine ⟨g1.trans t1, g2.trans t2, g3.trans t4, g4.trans t5, ?_, g6, ?_, fun k => ?_, fun c => ?_⟩
  · rw [g5]
    show upd (upd (ts τ1) m _) m _ = _
    rw [upd_upd, t3]
  · intro k hk
    rw [g7 k hk]
    show foldN (shS m) (4 * q.length) (tr τ1) k = _
    rw [foldN_shS, if_neg (by omega), hr1 k (by omega)]
  · rw [g8 k, hto]
    show vp_updL (vp_updL (vp_updL (tc τ1) _ _) _ _) _ _ k + _ = _
    simp only [updL_ap, t6, e1, e3, t2]
    have : (if s.2.2.2 < to τ 0 then (1 : Int64) else 0) = lN (ltN (to τ 0) (s.1, s.2.1, s.2.2.2)) := by
      unfold ltN
      by_cases b : s.2.2.2 < to τ 0
      · rw [if_pos b, if_pos b]; rfl
      · rw [if_neg b, if_neg b]; rfl
    rw [this, tollM_N q2, nI_l (show tollN kd s.2.1 < 2 ^ 31 by have := @tollN_le kd s.2.1; omega)]
    by_cases k1 : k = 6 * m + 1
    · subst k1
      rw [if_neg (by omega), if_neg (by omega), if_pos rfl, if_pos rfl, if_pos rfl, lN_sum]
      rfl
    · by_cases k2 : k = 6 * m + 2
      · subst k2
        rw [if_neg (by omega), if_pos rfl, if_neg (by omega), if_pos rfl, if_neg (by omega), if_pos rfl]
        show tc τ _ + lN 1 + _ = _
        rw [lN_sum, Nat.add_comm 1]
        rfl
      · by_cases k3 : k = 6 * m + 3
        · subst k3
          rw [if_pos rfl, if_neg (by omega), if_neg (by omega), if_pos rfl, if_neg (by omega), if_neg (by omega), if_pos rfl]
          rw [lN_sum]
          rfl
        · rw [if_neg k3, if_neg k2, if_neg k1, if_neg k1, if_neg k2, if_neg k3, if_neg k1, if_neg k2, if_neg k3]
  · rw [g9 c]
    show vp_updL (te τ1) s.1 _ c + _ = _
    rw [updL_ap, t7, e1, tollM_N q2, pk_sub tollN_le, nI_l (show s.2.1 - tollN kd s.2.1 < 2 ^ 31 by omega)]
    show _ = te τ c + lN (flN kd c (s.1, s.2.1, s.2.2.2) + _)
    unfold flN
    by_cases b : c = s.1
    · subst b
      rw [if_pos rfl, if_pos rfl, lN_sum]
    · rw [if_neg b, if_neg b, Nat.zero_add]
theorem loop107 {d : Nat} {h : mM} {a : Nat} (g0 : MW h a) {m : Nat} (hm : m < 4) {y : Int32} : ∀ (q : List Sk) (x : Nat) (τ : T8) (o5 o6 : Option Value), x < 2 ^ 31 → q.length ≤ 12 → ts τ m = nI q.length → Qr (tr τ) (48 * m) q → (∀ s ∈ q, okS s) → mLong o5 = false → ∃ τ', GV (mI h 119 m) m x q τ τ' ∧ ev (d + 1) 107 42 [some (.ref 109), some (.int (nI m)), some (.int y), some (.int (nI (6 * m))), some (.int (nI x)), o5, o6] [] (wM h a τ) = some (none, wM h a τ')
  | [], x, τ, o5, o6, hx, hl, hn, hq, hok, h5 => ⟨_, GV_exit hn hq (Or.inr rfl), exit107 g0 hm hx τ hn (Or.inr rfl)⟩
  | s :: q, x, τ, o5, o6, hx, hl, hn, hq, hok, h5 => by
    by_cases b0 : x = 0
    · exact ⟨_, GV_exit hn hq (Or.inl b0), exit107 g0 hm hx τ hn (Or.inl b0)⟩
    · obtain ⟨qa, k1, k2⟩ := g0.ok
      have g := g0.1
      have hs := hok s List.mem_cons_self
      have hs2 := hs
      obtain ⟨s1, s2, s3, s4⟩ := hs2
      obtain ⟨⟨r0, r1, r2, r3⟩, hq'⟩ := hq
      have hl2 : q.length ≤ 11 := by
        have : (s :: q).length = q.length + 1 := rfl
        omega
      have hn2 : ts τ m = nI (q.length + 1) := hn
      have n1 : ¬ nI x ≤ 0 := nI_nle (by omega) hx
      have n2 : ¬ nI (q.length + 1) ≤ 0 := nI_nle (by omega) (by omega)
      have i2 := ixN (show 48 * m + 2 < 192 by omega) (by omega)
      have l2 := cl (show 48 * m + 2 < 2 ^ 31 by omega)
      by_cases b1 : x < s.2.2.1
      · have c1 : ¬ nI s.2.2.1 < nI x := nI_nlt (by omega) (by omega)
        have c2 : ¬ nI (s.2.2.1 - x) = 0 := nI_ne0 (by omega) (by omega)
        have c3 : nI s.2.2.1 - nI x = nI (s.2.2.1 - x) := pk_sub (by omega)
        have c4 : nI x - nI x = nI 0 := by rw [pk_sub (Nat.le_refl x), Nat.sub_self]
        have hn3 : ts (ur τ (upd (tr τ) (48 * m + 2) (nI (s.2.2.1 - x)))) m = nI (q.length + 1) := hn2
        have ex := fun (o5 o6 : Option Value) => exit107 (d := d + 1) g0 hm (show 0 < 2 ^ 31 by omega) (y := y) (o5 := o5) (o6 := o6) (ur τ (upd (tr τ) (48 * m + 2) (nI (s.2.2.1 - x)))) hn3 (Or.inl rfl)
        refine ⟨uc (ur τ (upd (tr τ) (48 * m + 2) (nI (s.2.2.1 - x)))) (vp_updL (tc τ) (6 * m + 4) (tc τ (6 * m + 4) + lN 0)), ?_, ?_⟩
        · have gv : GV (mI h 119 m) m 0 ((s.1, s.2.1, s.2.2.1 - x, s.2.2.2) :: q) (ur τ (upd (tr τ) (48 * m + 2) (nI (s.2.2.1 - x)))) (uc (ur τ (upd (tr τ) (48 * m + 2) (nI (s.2.2.1 - x)))) (vp_updL (tc τ) (6 * m + 4) (tc τ (6 * m + 4) + lN 0))) := by
            refine GV_exit hn3 ?_ (Or.inl rfl)
            show Qr (upd (tr τ) (48 * m + 2) _) _ _
            refine ⟨⟨?_, ?_, ?_, ?_⟩, Qr_congr (fun k kk1 kk2 => ?_) hq'⟩
            · rw [upd_ap, if_neg (by omega)]; exact r0
            · rw [upd_ap, if_neg (by omega)]; exact r1
            · rw [upd_ap, if_pos rfl]
            · rw [upd_ap, if_neg (by omega)]; exact r3
            · rw [upd_ap, if_neg (by omega)]
          have e : gvQ x (s :: q) = ((s.1, s.2.1, s.2.2.1 - x, s.2.2.2) :: q, [], 0) := by
            show (if x = 0 then _ else _) = _
            rw [if_neg b0, if_pos b1]
          unfold GV at gv ⊢
          rw [e]
          rw [gvQ_0] at gv
          obtain ⟨z1, z2, z3, z4, z5, z6, z7, z8, z9⟩ := gv
          refine ⟨rfl, rfl, rfl, rfl, z5, z6, fun k kk => ?_, z8, z9⟩
          rw [z7 k kk]
          show upd (tr τ) _ _ k = _
          rw [upd_ap, if_neg (by omega)]
        · rw [e_107_42]
          simp only [e_107_0, e_107_2, e_107_3, e_107_4, e_107_5, e_107_6, e_107_9, e_107_10, e_107_11, e_107_12, e_107_15, e_107_16, e_107_19, e_107_20, e_107_21, e_107_22, e_107_23, e_107_24, e_107_25, e_107_26, e_107_27, e_107_28, e_107_29, e_107_32, e_107_33, e_107_34, e_107_35, e_107_36, e_107_37, e_107_38, e_107_39, e_107_40, e_107_44, e_107_47, e_107_48, e_107_51, e_107_52, e_107_53, e_107_56, e_107_58, e_107_59, e_107_60, e_107_62, e_107_64, e_107_65, e_107_68, e_107_70, e_107_71, e_107_72, e_107_73, e_107_76, e_107_78, e_107_79, e_107_82, e_107_84, e_107_85, e_107_86, e_107_87, e_107_88, e_107_90, e_107_91, e_107_92, e_107_94, e_107_96, e_107_97, e_107_99, e_107_100, e_107_103, e_107_105, e_107_106, e_107_107, e_107_108, e_107_111, e_107_112, e_107_113, e_107_115, e_107_118, e_107_121, e_107_122, e_107_125, e_107_126, e_107_127, e_107_128, e_107_129, e_107_130, e_107_132, e_107_133, e_107_134, e_107_135, cV_some, tl_some, tl_none, mZO_0, mZO_1, mL1_n, mL1_i, mL1_r, oB_some, List.cons_append, List.nil_append, mK_wI, mL_wI, mN_wI, mR_wI, mJ_wI, mK_wJ, mL_wJ, mI_wJ, mR_wJ, mK_wR, mL_wR, mI_wR, mJ_wR, bI_0, bI_n0, if_true, if_false, Nat.reduceLeDiff, Nat.reduceAdd, ite_not, reduceIte, not_false_eq_true, not_true_eq_false, true_and, and_true, and_self, or_false, false_or, or_true, true_or, Nat.reduceEqDiff, Nat.reduceLT, Nat.zero_le, Nat.add_zero, eq_self, false_and, and_false, mc_, mc_i, mc_r, mc_l, mc_ii, mc_ir, mc_il, mc_ri, mc_rr, mc_rl, mc_li, mc_lr, mc_ll, mc_iii, mc_iir, mc_iil, mc_iri, mc_irr, mc_irl, mc_ili, mc_ilr, mc_ill, mc_rii, mc_rir, mc_ril, mc_rri, mc_rrr, mc_rrl, mc_rli, mc_rlr, mc_rll, mc_lii, mc_lir, mc_lil, mc_lri, mc_lrr, mc_lrl, mc_lli, mc_llr, mc_lll, mc_iiii, mc_iiir, mc_iiri, mc_iirr, mc_irii, mc_irir, mc_irri, mc_irrr, mc_riii, mc_riir, mc_riri, mc_rirr, mc_rrii, mc_rrir, mc_rrri, mc_rrrr, mc_iiiii, mc_iiiir, mc_iiiri, mc_iiirr, mc_iirii, mc_iirir, mc_iirri, mc_iirrr, mc_iriii, mc_iriir, mc_iriri, mc_irirr, mc_irrii, mc_irrir, mc_irrri, mc_irrrr, mc_riiii, mc_riiir, mc_riiri, mc_riirr, mc_ririi, mc_ririr, mc_rirri, mc_rirrr, mc_rriii, mc_rriir, mc_rriri, mc_rrirr, mc_rrrii, mc_rrrir, mc_rrrri, mc_rrrrr, tw_uw, tw_uo, tw_us, tw_ur, tw_uf, tw_ug, tw_uc, tw_ue, to_uw, to_uo, to_us, to_ur, to_uf, to_ug, to_uc, to_ue, ts_uw, ts_uo, ts_us, ts_ur, ts_uf, ts_ug, ts_uc, ts_ue, tr_uw, tr_uo, tr_us, tr_ur, tr_uf, tr_ug, tr_uc, tr_ue, tf_uw, tf_uo, tf_us, tf_ur, tf_uf, tf_ug, tf_uc, tf_ue, tg_uw, tg_uo, tg_us, tg_ur, tg_uf, tg_ug, tg_uc, tg_ue, tc_uw, tc_uo, tc_us, tc_ur, tc_uf, tc_ug, tc_uc, tc_ue, te_uw, te_uo, te_us, te_ur, te_uf, te_ug, te_uc, te_ue, mK_wM, mL_wM, mR_wM, mI_wM, mJ_wM, h5, gK_109 g, gR_109_25 g, gR_109_26 g, gK_129 g, gL_129 g, gK_130 g, gL_130 g, ixN hm (by omega), cl (show m < 2 ^ 31 by omega), hn2, n1, n2, mul48, add2', i2, l2, r2, c1, c2, c3, c4, wI_Mr qa, upd_ap]
          exact ex _ _
      · have c1 : (if nI s.2.2.1 < nI x then nI s.2.2.1 else nI x) = nI s.2.2.1 := by
          by_cases z : s.2.2.1 < x
          · rw [if_pos (nI_lt z hx)]
          · have : x = s.2.2.1 := by omega
            subst this
            simp
        have c3 : nI s.2.2.1 - nI s.2.2.1 = 0 := by rw [pk_sub (Nat.le_refl _), Nat.sub_self, nI_0]
        have c4 : nI x - nI s.2.2.1 = nI (x - s.2.2.1) := pk_sub (by omega)
        have hd := r108 (d := d) g0 hm (ur τ (upd (tr τ) (48 * m + 2) 0)) hn2 hl2 (cu := s.1) (by show upd (tr τ) _ _ _ = _; rw [upd_ap, if_neg (by omega)]; exact r0) s1
        have ih := fun (o5 o6 : Option Value) (h5 : mLong o5 = false) => loop107 (d := d) g0 hm (y := y) q (x - s.2.2.1) (doneM (mI h 119 m) m q.length s.1 (ur τ (upd (tr τ) (48 * m + 2) 0))) o5 o6 (by omega) (by omega) (by show upd (ts τ) m _ m = _; rw [upd_ap, if_pos rfl]) (by
            show Qr (foldN (shS m) (4 * q.length) (upd (tr τ) (48 * m + 2) 0)) _ _
            refine Qr_shift (fun k k1 k2 => ?_) hq'
            rw [foldN_shS, if_pos (by omega), upd_ap, if_neg (by omega)]) (fun z hz => hok z (List.mem_cons_of_mem _ hz)) h5
        obtain ⟨τ', gv, ev'⟩ := ih (some (.int (nI (48 * m)))) (some (.int (nI s.2.2.1))) rfl
        refine ⟨τ', GV_done (τ1 := ur τ (upd (tr τ) (48 * m + 2) 0)) hm hs hl2 (by omega) (fun k hk => ?_) ?_ ?_ rfl gv, ?_⟩
        · show upd (tr τ) _ _ k = _
          rw [upd_ap, if_neg (by omega)]
        · show upd (tr τ) _ _ _ = _
          rw [upd_ap, if_neg (by omega)]; exact r1
        · show upd (tr τ) _ _ _ = _
          rw [upd_ap, if_neg (by omega)]; exact r3
        · rw [e_107_42]
          simp only [e_107_0, e_107_2, e_107_3, e_107_4, e_107_5, e_107_6, e_107_9, e_107_10, e_107_11, e_107_12, e_107_15, e_107_16, e_107_19, e_107_20, e_107_21, e_107_22, e_107_23, e_107_24, e_107_25, e_107_26, e_107_27, e_107_28, e_107_29, e_107_32, e_107_33, e_107_34, e_107_35, e_107_36, e_107_37, e_107_38, e_107_39, e_107_40, e_107_44, e_107_47, e_107_48, e_107_51, e_107_52, e_107_53, e_107_56, e_107_58, e_107_59, e_107_60, e_107_62, e_107_64, e_107_65, e_107_68, e_107_70, e_107_71, e_107_72, e_107_73, e_107_76, e_107_78, e_107_79, e_107_82, e_107_84, e_107_85, e_107_86, e_107_87, e_107_88, e_107_90, e_107_91, e_107_92, e_107_94, e_107_96, e_107_97, e_107_99, e_107_100, e_107_103, e_107_105, e_107_106, e_107_107, e_107_108, e_107_111, e_107_112, e_107_113, e_107_115, e_107_118, e_107_121, e_107_122, e_107_125, e_107_126, e_107_127, e_107_128, e_107_129, e_107_130, e_107_132, e_107_133, e_107_134, e_107_135, cV_some, tl_some, tl_none, mZO_0, mZO_1, mL1_n, mL1_i, mL1_r, oB_some, List.cons_append, List.nil_append, mK_wI, mL_wI, mN_wI, mR_wI, mJ_wI, mK_wJ, mL_wJ, mI_wJ, mR_wJ, mK_wR, mL_wR, mI_wR, mJ_wR, bI_0, bI_n0, if_true, if_false, Nat.reduceLeDiff, Nat.reduceAdd, ite_not, reduceIte, not_false_eq_true, not_true_eq_false, true_and, and_true, and_self, or_false, false_or, or_true, true_or, Nat.reduceEqDiff, Nat.reduceLT, Nat.zero_le, Nat.add_zero, eq_self, false_and, and_false, mc_, mc_i, mc_r, mc_l, mc_ii, mc_ir, mc_il, mc_ri, mc_rr, mc_rl, mc_li, mc_lr, mc_ll, mc_iii, mc_iir, mc_iil, mc_iri, mc_irr, mc_irl, mc_ili, mc_ilr, mc_ill, mc_rii, mc_rir, mc_ril, mc_rri, mc_rrr, mc_rrl, mc_rli, mc_rlr, mc_rll, mc_lii, mc_lir, mc_lil, mc_lri, mc_lrr, mc_lrl, mc_lli, mc_llr, mc_lll, mc_iiii, mc_iiir, mc_iiri, mc_iirr, mc_irii, mc_irir, mc_irri, mc_irrr, mc_riii, mc_riir, mc_riri, mc_rirr, mc_rrii, mc_rrir, mc_rrri, mc_rrrr, mc_iiiii, mc_iiiir, mc_iiiri, mc_iiirr, mc_iirii, mc_iirir, mc_iirri, mc_iirrr, mc_iriii, mc_iriir, mc_iriri, mc_irirr, mc_irrii, mc_irrir, mc_irrri, mc_irrrr, mc_riiii, mc_riiir, mc_riiri, mc_riirr, mc_ririi, mc_ririr, mc_rirri, mc_rirrr, mc_rriii, mc_rriir, mc_rriri, mc_rrirr, mc_rrrii, mc_rrrir, mc_rrrri, mc_rrrrr, tw_uw, tw_uo, tw_us, tw_ur, tw_uf, tw_ug, tw_uc, tw_ue, to_uw, to_uo, to_us, to_ur, to_uf, to_ug, to_uc, to_ue, ts_uw, ts_uo, ts_us, ts_ur, ts_uf, ts_ug, ts_uc, ts_ue, tr_uw, tr_uo, tr_us, tr_ur, tr_uf, tr_ug, tr_uc, tr_ue, tf_uw, tf_uo, tf_us, tf_ur, tf_uf, tf_ug, tf_uc, tf_ue, tg_uw, tg_uo, tg_us, tg_ur, tg_uf, tg_ug, tg_uc, tg_ue, tc_uw, tc_uo, tc_us, tc_ur, tc_uf, tc_ug, tc_uc, tc_ue, te_uw, te_uo, te_us, te_ur, te_uf, te_ug, te_uc, te_ue, mK_wM, mL_wM, mR_wM, mI_wM, mJ_wM, h5, gK_109 g, gR_109_25 g, gR_109_26 g, gK_129 g, gL_129 g, gK_130 g, gL_130 g, ixN hm (by omega), cl (show m < 2 ^ 31 by omega), hn2, n1, n2, mul48, add2', i2, l2, r2, c1, c3, c4, wI_Mr qa, upd_ap, hd]
          exact ev'
theorem r107 {d : Nat} {h : mM} {a : Nat} (g0 : MW h a) {m x : Nat} (hm : m < 4) (hx : x < 2 ^ 31) {q : List Sk} (τ : T8) (hl : q.length ≤ 12) (hn : ts τ m = nI q.length) (hq : Qr (tr τ) (48 * m) q) (hok : ∀ s ∈ q, okS s) (hk : ¬ mI h 119 m = 2) : ∃ τ', GV (mI h 119 m) m x q (uc τ (vp_updL (tc τ) (6 * m) (tc τ (6 * m) + lN x))) τ' ∧ ev (d + 1) 107 0 [some (.ref 109), some (.int (nI m)), some (.int (nI x)), none, none, none, none] [] (wM h a τ) = some (none, wM h a τ') := by
  have g := g0.1
  have n119 := g0.off (b := 119) (by decide) (by decide)
  have j0 := ixN (show 6 * m < 24 by omega) (by omega)
  have l0 := cl (show 6 * m < 2 ^ 31 by omega)
  obtain ⟨τ', gv, e⟩ := loop107 (d := d) g0 hm (y := nI x) q x (uc τ (vp_updL (tc τ) (6 * m) (tc τ (6 * m) + lN x))) none none hx hl hn hq hok rfl
  refine ⟨τ', gv, ?_⟩
  simp only [e_107_0, e_107_2, e_107_3, e_107_4, e_107_5, e_107_6, e_107_9, e_107_10, e_107_11, e_107_12, e_107_15, e_107_16, e_107_19, e_107_20, e_107_21, e_107_22, e_107_23, e_107_24, e_107_25, e_107_26, e_107_27, e_107_28, e_107_29, e_107_32, e_107_33, e_107_34, e_107_35, e_107_36, e_107_37, e_107_38, e_107_39, e_107_40, e_107_44, e_107_47, e_107_48, e_107_51, e_107_52, e_107_53, e_107_56, e_107_58, e_107_59, e_107_60, e_107_62, e_107_64, e_107_65, e_107_68, e_107_70, e_107_71, e_107_72, e_107_73, e_107_76, e_107_78, e_107_79, e_107_82, e_107_84, e_107_85, e_107_86, e_107_87, e_107_88, e_107_90, e_107_91, e_107_92, e_107_94, e_107_96, e_107_97, e_107_99, e_107_100, e_107_103, e_107_105, e_107_106, e_107_107, e_107_108, e_107_111, e_107_112, e_107_113, e_107_115, e_107_118, e_107_121, e_107_122, e_107_125, e_107_126, e_107_127, e_107_128, e_107_129, e_107_130, e_107_132, e_107_133, e_107_134, e_107_135, cV_some, tl_some, tl_none, mZO_0, mZO_1, mL1_n, mL1_i, mL1_r, oB_some, List.cons_append, List.nil_append, mK_wI, mL_wI, mN_wI, mR_wI, mJ_wI, mK_wJ, mL_wJ, mI_wJ, mR_wJ, mK_wR, mL_wR, mI_wR, mJ_wR, bI_0, bI_n0, if_true, if_false, Nat.reduceLeDiff, Nat.reduceAdd, ite_not, reduceIte, not_false_eq_true, not_true_eq_false, true_and, and_true, and_self, or_false, false_or, or_true, true_or, Nat.reduceEqDiff, Nat.reduceLT, Nat.zero_le, Nat.add_zero, eq_self, false_and, and_false, mc_, mc_i, mc_r, mc_l, mc_ii, mc_ir, mc_il, mc_ri, mc_rr, mc_rl, mc_li, mc_lr, mc_ll, mc_iii, mc_iir, mc_iil, mc_iri, mc_irr, mc_irl, mc_ili, mc_ilr, mc_ill, mc_rii, mc_rir, mc_ril, mc_rri, mc_rrr, mc_rrl, mc_rli, mc_rlr, mc_rll, mc_lii, mc_lir, mc_lil, mc_lri, mc_lrr, mc_lrl, mc_lli, mc_llr, mc_lll, mc_iiii, mc_iiir, mc_iiri, mc_iirr, mc_irii, mc_irir, mc_irri, mc_irrr, mc_riii, mc_riir, mc_riri, mc_rirr, mc_rrii, mc_rrir, mc_rrri, mc_rrrr, mc_iiiii, mc_iiiir, mc_iiiri, mc_iiirr, mc_iirii, mc_iirir, mc_iirri, mc_iirrr, mc_iriii, mc_iriir, mc_iriri, mc_irirr, mc_irrii, mc_irrir, mc_irrri, mc_irrrr, mc_riiii, mc_riiir, mc_riiri, mc_riirr, mc_ririi, mc_ririr, mc_rirri, mc_rirrr, mc_rriii, mc_rriir, mc_rriri, mc_rrirr, mc_rrrii, mc_rrrir, mc_rrrri, mc_rrrrr, tw_uw, tw_uo, tw_us, tw_ur, tw_uf, tw_ug, tw_uc, tw_ue, to_uw, to_uo, to_us, to_ur, to_uf, to_ug, to_uc, to_ue, ts_uw, ts_uo, ts_us, ts_ur, ts_uf, ts_ug, ts_uc, ts_ue, tr_uw, tr_uo, tr_us, tr_ur, tr_uf, tr_ug, tr_uc, tr_ue, tf_uw, tf_uo, tf_us, tf_ur, tf_uf, tf_ug, tf_uc, tf_ue, tg_uw, tg_uo, tg_us, tg_ur, tg_uf, tg_ug, tg_uc, tg_ue, tc_uw, tc_uo, tc_us, tc_ur, tc_uf, tc_ug, tc_uc, tc_ue, te_uw, te_uo, te_us, te_ur, te_uf, te_ug, te_uc, te_ue, mK_wM, mL_wM, mR_wM, mI_wM, mJ_wM, gK_109 g, gR_109_14 g, gR_109_27 g, gK_119 g, gL_119 g, gK_131 g, gL_131 g, n119, ixN hm (by omega), cl (show m < 2 ^ 31 by omega), hk, mul6, j0, l0, wJ_Mc, nI_l hx]
  exact e
theorem r107_f {d : Nat} {h : mM} {a : Nat} (g0 : MW h a) {m : Nat} (hm : m < 4) {x : Int32} (τ : T8) (hk : mI h 119 m = 2) : ev d 107 0 [some (.ref 109), some (.int (nI m)), some (.int x), none, none, none, none] [] (wM h a τ) = some (none, wM h a (uc τ (vp_updL (tc τ) (6 * m + 5) (tc τ (6 * m + 5) + 1)))) := by
  have g := g0.1
  have n119 := g0.off (b := 119) (by decide) (by decide)
  have j0 := ixN (show 6 * m + 5 < 24 by omega) (by omega)
  have l0 := cl (show 6 * m + 5 < 2 ^ 31 by omega)
  simp only [e_107_0, e_107_2, e_107_3, e_107_4, e_107_5, e_107_6, e_107_9, e_107_10, e_107_11, e_107_12, e_107_15, e_107_16, e_107_19, e_107_20, e_107_21, e_107_22, e_107_23, e_107_24, e_107_25, e_107_26, e_107_27, e_107_28, e_107_29, e_107_32, e_107_33, e_107_34, e_107_35, e_107_36, e_107_37, e_107_38, e_107_39, e_107_40, e_107_44, e_107_47, e_107_48, e_107_51, e_107_52, e_107_53, e_107_56, e_107_58, e_107_59, e_107_60, e_107_62, e_107_64, e_107_65, e_107_68, e_107_70, e_107_71, e_107_72, e_107_73, e_107_76, e_107_78, e_107_79, e_107_82, e_107_84, e_107_85, e_107_86, e_107_87, e_107_88, e_107_90, e_107_91, e_107_92, e_107_94, e_107_96, e_107_97, e_107_99, e_107_100, e_107_103, e_107_105, e_107_106, e_107_107, e_107_108, e_107_111, e_107_112, e_107_113, e_107_115, e_107_118, e_107_121, e_107_122, e_107_125, e_107_126, e_107_127, e_107_128, e_107_129, e_107_130, e_107_132, e_107_133, e_107_134, e_107_135, cV_some, tl_some, tl_none, mZO_0, mZO_1, mL1_n, mL1_i, mL1_r, oB_some, List.cons_append, List.nil_append, mK_wI, mL_wI, mN_wI, mR_wI, mJ_wI, mK_wJ, mL_wJ, mI_wJ, mR_wJ, mK_wR, mL_wR, mI_wR, mJ_wR, bI_0, bI_n0, if_true, if_false, Nat.reduceLeDiff, Nat.reduceAdd, ite_not, reduceIte, not_false_eq_true, not_true_eq_false, true_and, and_true, and_self, or_false, false_or, or_true, true_or, Nat.reduceEqDiff, Nat.reduceLT, Nat.zero_le, Nat.add_zero, eq_self, false_and, and_false, mc_, mc_i, mc_r, mc_l, mc_ii, mc_ir, mc_il, mc_ri, mc_rr, mc_rl, mc_li, mc_lr, mc_ll, mc_iii, mc_iir, mc_iil, mc_iri, mc_irr, mc_irl, mc_ili, mc_ilr, mc_ill, mc_rii, mc_rir, mc_ril, mc_rri, mc_rrr, mc_rrl, mc_rli, mc_rlr, mc_rll, mc_lii, mc_lir, mc_lil, mc_lri, mc_lrr, mc_lrl, mc_lli, mc_llr, mc_lll, mc_iiii, mc_iiir, mc_iiri, mc_iirr, mc_irii, mc_irir, mc_irri, mc_irrr, mc_riii, mc_riir, mc_riri, mc_rirr, mc_rrii, mc_rrir, mc_rrri, mc_rrrr, mc_iiiii, mc_iiiir, mc_iiiri, mc_iiirr, mc_iirii, mc_iirir, mc_iirri, mc_iirrr, mc_iriii, mc_iriir, mc_iriri, mc_irirr, mc_irrii, mc_irrir, mc_irrri, mc_irrrr, mc_riiii, mc_riiir, mc_riiri, mc_riirr, mc_ririi, mc_ririr, mc_rirri, mc_rirrr, mc_rriii, mc_rriir, mc_rriri, mc_rrirr, mc_rrrii, mc_rrrir, mc_rrrri, mc_rrrrr, tw_uw, tw_uo, tw_us, tw_ur, tw_uf, tw_ug, tw_uc, tw_ue, to_uw, to_uo, to_us, to_ur, to_uf, to_ug, to_uc, to_ue, ts_uw, ts_uo, ts_us, ts_ur, ts_uf, ts_ug, ts_uc, ts_ue, tr_uw, tr_uo, tr_us, tr_ur, tr_uf, tr_ug, tr_uc, tr_ue, tf_uw, tf_uo, tf_us, tf_ur, tf_uf, tf_ug, tf_uc, tf_ue, tg_uw, tg_uo, tg_us, tg_ur, tg_uf, tg_ug, tg_uc, tg_ue, tc_uw, tc_uo, tc_us, tc_ur, tc_uf, tc_ug, tc_uc, tc_ue, te_uw, te_uo, te_us, te_ur, te_uf, te_ug, te_uc, te_ue, mK_wM, mL_wM, mR_wM, mI_wM, mJ_wM, gK_109 g, gR_109_14 g, gR_109_27 g, gK_119 g, gL_119 g, gK_131 g, gL_131 g, n119, ixN hm (by omega), cl (show m < 2 ^ 31 by omega), hk, mul6, add5', j0, l0, wJ_Mc]
