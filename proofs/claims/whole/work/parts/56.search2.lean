-- the whole search of the landed file
def SF (c : Tb) (T : Nat → Nat) (hr m : Nat) : Nat → Nat → Nat → Nat → (Nat → Nat) → Nat × Nat → Nat × Nat
  | 0, _, S, gs, _, b => kpB S gs b
  | r + 1, k, S, gs, w, b => if 0 < gbN (HN c (T (hr + k)) 4 w).2.2 m then SF c T hr m r (k + 1) S gs (HN c (T (hr + k)) m w).1 (SF c T hr m r (k + 1) (S + 2 ^ k) (gs + gbN (HN c (T (hr + k)) 4 w).2.2 m) (HN c (T (hr + k)) 4 w).1 b) else SF c T hr m r (k + 1) S gs (HN c (T (hr + k)) 4 w).1 b
theorem or_bit {S k : Nat} (hS : S < 2 ^ k) (hk : k < 31) : nI S ||| (1 <<< (nI k &&& 31)) = nI (S + 2 ^ k) := by
  have hp : 2 ^ k < 2 ^ 32 := Nat.pow_lt_pow_right (by omega) (by omega)
  have := pk_shlN (n := 1) (nI k &&& 31) k (s_l k (by omega)) (by omega)
  rw [show (1 : Int32) = nI 1 from rfl, this, Nat.one_mul]
  refine b_ext (fun i hi => ?_)
  rw [b_or]
  have e : S + 2 ^ k = 2 ^ k ||| S := by
    have := Nat.two_pow_add_eq_or_of_lt hS 1
    rw [Nat.mul_one] at this
    rw [Nat.add_comm]; exact this
  have tb : ∀ n, bt (nI n) i = n.testBit i := fun n => by
    show (BitVec.ofNat 32 n).getLsbD i = _
    rw [BitVec.getLsbD_ofNat]
    simp [hi]
  rw [tb, tb, tb, e, Nat.testBit_or, Bool.or_comm]
theorem gb_le {h : mM} {rd hr : Nat} (q : MH h rd hr) {x r m : Nat} {w : Nat → Nat} (hw : WB (cfg h) w) : gbN (HN (cfg h) (TD h rd x) r w).2.2 m ≤ 3000 := by
  have o := (HN_ok q.1.1 (r := r) (q.td x).2 hw).2.2
  have o0 := o (3 * m)
  have o1 := o (3 * m + 1)
  have o2 := o (3 * m + 2)
  unfold gbN
  omega
theorem SF_in {h : mM} {rd hr : Nat} (q : MH h rd hr) {m n : Nat} (hn : n ≤ 8) : ∀ (r k S gs : Nat) (w : Nat → Nat) (b : Nat × Nat), k + r = n → S < 2 ^ k → gs ≤ 3000 * k → WB (cfg h) w → b.1 < 256 → b.2 ≤ 24000 → (SF (cfg h) (TD h rd) hr m r k S gs w b).1 < 256 ∧ (SF (cfg h) (TD h rd) hr m r k S gs w b).2 ≤ 24000
  | 0, k, S, gs, w, b, hk, hS, hg, hw, b1, b2 => by
    have p8 : 2 ^ k ≤ 2 ^ 8 := Nat.pow_le_pow_right (by omega) (by omega)
    show (ite _ _ _ : Nat × Nat).1 < _ ∧ (ite _ _ _ : Nat × Nat).2 ≤ _
    split
    · exact ⟨by show S < 256; omega, by show gs ≤ 24000; omega⟩
    · exact ⟨b1, b2⟩
  | r + 1, k, S, gs, w, b, hk, hS, hg, hw, b1, b2 => by
    have hp : 2 ^ (k + 1) = 2 ^ k + 2 ^ k := by rw [Nat.pow_succ]; omega
    have w4 := wb_bk q.1.1 (HN_ok q.1.1 (r := 4) (q.td (hr + k)).2 hw).1
    have wm := wb_bk q.1.1 (HN_ok q.1.1 (r := m) (q.td (hr + k)).2 hw).1
    have g3 := gb_le q (x := hr + k) (r := 4) (m := m) hw
    show (ite _ _ _ : Nat × Nat).1 < _ ∧ (ite _ _ _ : Nat × Nat).2 ≤ _
    split
    · have i1 := SF_in q (m := m) hn r (k + 1) (S + 2 ^ k) (gs + gbN (HN (cfg h) (TD h rd (hr + k)) 4 w).2.2 m) _ b (by omega) (by omega) (by omega) w4 b1 b2
      exact SF_in q hn r (k + 1) S gs _ _ (by omega) (by omega) (by omega) wm i1.1 i1.2
    · exact SF_in q hn r (k + 1) S gs _ b (by omega) (by omega) (by omega) w4 b1 b2
/-- what the search holds -/
def SI (h : mM) (hr m n : Nat) (I : Nat → Nat → Int32) (b : Nat × Nat) : Prop := SC h I ∧ I 91 3 = nI m ∧ I 91 4 = nI n ∧ I 91 5 = nI hr ∧ I 91 6 = nI b.1 ∧ I 91 7 = nI b.2
theorem SI_of {h : mM} {hr m n k : Nat} (hk : k < 8) {I I' : Nat → Nat → Int32} {b : Nat × Nat} (s : SI h hr m n I b) (f : ∀ b j, b ≠ 93 + (k + 1) → b ≠ 102 → b ≠ 103 → I' b j = I b j) : SI h hr m n I' b := by
  obtain ⟨s1, s2, s3, s4, s5, s6⟩ := s
  have z := fun j => f 91 j (by omega) (by omega) (by omega)
  exact ⟨fun b j hb => by rw [f b j (by omega) (by omega) (by omega)]; exact s1 b j hb, (z 3).trans s2, (z 4).trans s3, (z 5).trans s4, (z 6).trans s5, (z 7).trans s6⟩
theorem c76 {h : mM} {rd hr : Nat} (q : CH h rd hr) {m n : Nat} (hm : m < 4) (hn : n ≤ 8) {d : Nat} : ∀ (r k S gs : Nat) (w : Nat → Nat) (b : Nat × Nat) (I : Nat → Nat → Int32), k + r = n → S < 2 ^ k → gs ≤ 3000 * k → WB (cfg h) w → b.1 < 256 → b.2 ≤ 24000 → SI h hr m n I b → (∀ p, p < cfg h 0 0 → I (93 + k) p = nI (w p)) → ∃ I', SI h hr m n I' (SF (cfg h) (TD h rd) hr m r k S gs w b) ∧ (∀ b j, 93 ≤ b → b ≤ 93 + k → I' b j = I b j) ∧ ev (d + 7 + r) 76 0 [some (.ref 91), some (.int (nI k)), some (.int (nI S)), some (.int (nI gs)), none] [] (wA h I (mR h)) = some (none, wA h I' (mR h))
  | 0, k, S, gs, w, b, I, hk, hS, hg, hw, b1, b2, s, hw2 => by
    have g := q.1.2.1
    have p8 : 2 ^ k ≤ 2 ^ 8 := Nat.pow_le_pow_right (by omega) (by omega)
    have s' := s
    obtain ⟨s1, s2, s3, s4, s5, s6⟩ := s'
    have e : k = n := by omega
    subst e
    have e26 := c26 (d := d + 5) g (I := I) (S := S) (gs := gs) (by omega) (by omega) s5 s6 b1 (by omega)
    refine ⟨if btr b S gs then u2 (u2 I 91 6 (nI S)) 91 7 (nI gs) else I, ?_, fun b' j z1 z2 => ?_, ?_⟩
    · show SI h hr m k _ (kpB S gs b)
      unfold kpB
      by_cases z : btr b S gs
      · rw [if_pos z, if_pos z]
        refine ⟨fun b j hb => ?_, ?_, ?_, ?_, ?_, ?_⟩
        · rw [u2_ap, if_neg (by omega), u2_ap, if_neg (by omega)]; exact s1 b j hb
        · rw [u2_ap, if_neg (by omega), u2_ap, if_neg (by omega)]; exact s2
        · rw [u2_ap, if_neg (by omega), u2_ap, if_neg (by omega)]; exact s3
        · rw [u2_ap, if_neg (by omega), u2_ap, if_neg (by omega)]; exact s4
        · rw [u2_ap, if_neg (by omega), u2_ap, if_pos ⟨rfl, rfl⟩]
        · rw [u2_ap, if_pos ⟨rfl, rfl⟩]
      · rw [if_neg z, if_neg z]
        exact s
    · by_cases z : btr b S gs
      · rw [if_pos z, u2_ap, if_neg (by omega), u2_ap, if_neg (by omega)]
      · rw [if_neg z]
    · simp only [e_76_0, e_76_1, e_76_2, e_76_5, e_76_8, e_76_9, e_76_11, e_76_14, e_76_15, e_76_16, e_76_17, e_76_20, e_76_21, e_76_22, e_76_23, e_76_24, e_76_27, e_76_29, e_76_31, e_76_34, e_76_35, e_76_36, e_76_37, e_76_38, e_76_39, e_76_40, e_76_41, e_76_42, e_76_43, e_76_44, e_76_46, e_76_47, e_76_50, e_76_51, e_76_52, e_76_53, e_76_56, e_76_59, e_76_60, e_76_61, e_76_62, e_76_63, e_76_64, e_76_65, e_76_66, e_76_69, cV_some, tl_some, tl_none, mZO_0, mZO_1, mL1_n, mL1_i, mL1_r, oB_some, List.cons_append, List.nil_append, mK_wI, mL_wI, mN_wI, mR_wI, mJ_wI, mK_wJ, mL_wJ, mI_wJ, mR_wJ, mK_wR, mL_wR, mI_wR, mJ_wR, bI_0, bI_n0, if_true, if_false, Nat.reduceLeDiff, Nat.reduceAdd, ite_not, reduceIte, not_false_eq_true, not_true_eq_false, true_and, and_true, and_self, or_false, false_or, or_true, true_or, Nat.reduceEqDiff, Nat.reduceLT, Nat.zero_le, Nat.add_zero, eq_self, false_and, and_false, mc_, mc_i, mc_r, mc_l, mc_ii, mc_ir, mc_il, mc_ri, mc_rr, mc_rl, mc_li, mc_lr, mc_ll, mc_iii, mc_iir, mc_iil, mc_iri, mc_irr, mc_irl, mc_ili, mc_ilr, mc_ill, mc_rii, mc_rir, mc_ril, mc_rri, mc_rrr, mc_rrl, mc_rli, mc_rlr, mc_rll, mc_lii, mc_lir, mc_lil, mc_lri, mc_lrr, mc_lrl, mc_lli, mc_llr, mc_lll, mc_iiii, mc_iiir, mc_iiri, mc_iirr, mc_irii, mc_irir, mc_irri, mc_irrr, mc_riii, mc_riir, mc_riri, mc_rirr, mc_rrii, mc_rrir, mc_rrri, mc_rrrr, mc_iiiii, mc_iiiir, mc_iiiri, mc_iiirr, mc_iirii, mc_iirir, mc_iirri, mc_iirrr, mc_iriii, mc_iriir, mc_iriri, mc_irirr, mc_irrii, mc_irrir, mc_irrri, mc_irrrr, mc_riiii, mc_riiir, mc_riiri, mc_riirr, mc_ririi, mc_ririr, mc_rirri, mc_rirrr, mc_rriii, mc_rriir, mc_rriri, mc_rrirr, mc_rrrii, mc_rrrir, mc_rrrri, mc_rrrrr, mK_wA, mI_wA, gK_91 g, s3, le_self32, e26]
  | r + 1, k, S, gs, w, b, I, hk, hS, hg, hw, b1, b2, s, hw2 => by
    have g := q.1.2.1
    have hk8 : k < 8 := by omega
    have hp : 2 ^ (k + 1) = 2 ^ k + 2 ^ k := by rw [Nat.pow_succ]; omega
    have s' := s
    obtain ⟨s1, s2, s3, s4, s5, s6⟩ := s'
    have w4 := wb_bk q.1.1.1 (HN_ok q.1.1.1 (r := 4) (q.1.td (hr + k)).2 hw).1
    have wm := wb_bk q.1.1.1 (HN_ok q.1.1.1 (r := m) (q.1.td (hr + k)).2 hw).1
    have g3 := gb_le q.1 (x := hr + k) (r := 4) (m := m) hw
    have hc1 : ¬ nI n ≤ nI k := nI_ge (by omega) (by omega)
    have hc2 : nI k < (8 : Int32) := nI_lt (b := 8) hk8 (by omega)
    obtain ⟨I1, f1, w1, e23⟩ := c25 (d := d + 2 + r) q s1 hk8 hm s4 s2 RS_none hw hw2
    have e23' : ev (d + 7 + r) 25 0 [some (.ref 91), some (.int (nI k)), some (.int (-1))] [] (wA h I (mR h)) = some (some (.int (nI (gbN (HN (cfg h) (TD h rd (hr + k)) 4 w).2.2 m))), wA h I1 (mR h)) := by rw [show d + 7 + r = d + 2 + r + 5 by omega]; exact e23
    have S1 := SI_of hk8 s f1
    by_cases z : 0 < gbN (HN (cfg h) (TD h rd (hr + k)) 4 w).2.2 m
    · have eSF : SF (cfg h) (TD h rd) hr m (r + 1) k S gs w b = SF (cfg h) (TD h rd) hr m r (k + 1) S gs (HN (cfg h) (TD h rd (hr + k)) m w).1 (SF (cfg h) (TD h rd) hr m r (k + 1) (S + 2 ^ k) (gs + gbN (HN (cfg h) (TD h rd (hr + k)) 4 w).2.2 m) (HN (cfg h) (TD h rd (hr + k)) 4 w).1 b) := if_pos z
      rw [eSF]
      obtain ⟨I2, S2, f2, e2⟩ := c76 q hm hn (d := d) r (k + 1) (S + 2 ^ k) (gs + gbN (HN (cfg h) (TD h rd (hr + k)) 4 w).2.2 m) _ b I1 (by omega) (by omega) (by omega) w4 b1 b2 S1 w1
      have in2 := SF_in q.1 (m := m) hn r (k + 1) (S + 2 ^ k) (gs + gbN (HN (cfg h) (TD h rd (hr + k)) 4 w).2.2 m) _ b (by omega) (by omega) (by omega) w4 b1 b2
      obtain ⟨S21, S22, S23, S24, S25, S26⟩ := S2
      have r2 : ∀ p, p < cfg h 0 0 → I2 (93 + k) p = nI (w p) := fun p hp => by
        rw [f2 (93 + k) p (by omega) (by omega), f1 (93 + k) p (by omega) (by omega) (by omega)]
        exact hw2 p hp
      obtain ⟨I3, f3, w3, e24⟩ := c25 (d := d + 2 + r) q S21 hk8 hm S24 S22 (RS_some hm) hw r2
      have e24' : ev (d + 7 + r) 25 0 [some (.ref 91), some (.int (nI k)), some (.int (nI m))] [] (wA h I2 (mR h)) = some (some (.int (nI (gbN (HN (cfg h) (TD h rd (hr + k)) m w).2.2 m))), wA h I3 (mR h)) := by rw [show d + 7 + r = d + 2 + r + 5 by omega]; exact e24
      have S3 := SI_of hk8 ⟨S21, S22, S23, S24, S25, S26⟩ f3
      obtain ⟨I4, S4, f4, e4⟩ := c76 q hm hn (d := d) r (k + 1) S gs _ _ I3 (by omega) (by omega) (by omega) wm in2.1 in2.2 S3 w3
      have c3 : ¬ nI (gbN (HN (cfg h) (TD h rd (hr + k)) 4 w).2.2 m) ≤ 0 := nI_nle z (by omega)
      refine ⟨I4, S4, fun b j z1 z2 => ?_, ?_⟩
      · rw [f4 b j z1 (by omega), f3 b j (by omega) (by omega) (by omega), f2 b j z1 (by omega), f1 b j (by omega) (by omega) (by omega)]
      · rw [show d + 7 + (r + 1) = d + 7 + r + 1 by omega]
        simp only [e_76_0, e_76_1, e_76_2, e_76_5, e_76_8, e_76_9, e_76_11, e_76_14, e_76_15, e_76_16, e_76_17, e_76_20, e_76_21, e_76_22, e_76_23, e_76_24, e_76_27, e_76_29, e_76_31, e_76_34, e_76_35, e_76_36, e_76_37, e_76_38, e_76_39, e_76_40, e_76_41, e_76_42, e_76_43, e_76_44, e_76_46, e_76_47, e_76_50, e_76_51, e_76_52, e_76_53, e_76_56, e_76_59, e_76_60, e_76_61, e_76_62, e_76_63, e_76_64, e_76_65, e_76_66, e_76_69, cV_some, tl_some, tl_none, mZO_0, mZO_1, mL1_n, mL1_i, mL1_r, oB_some, List.cons_append, List.nil_append, mK_wI, mL_wI, mN_wI, mR_wI, mJ_wI, mK_wJ, mL_wJ, mI_wJ, mR_wJ, mK_wR, mL_wR, mI_wR, mJ_wR, bI_0, bI_n0, if_true, if_false, Nat.reduceLeDiff, Nat.reduceAdd, ite_not, reduceIte, not_false_eq_true, not_true_eq_false, true_and, and_true, and_self, or_false, false_or, or_true, true_or, Nat.reduceEqDiff, Nat.reduceLT, Nat.zero_le, Nat.add_zero, eq_self, false_and, and_false, mc_, mc_i, mc_r, mc_l, mc_ii, mc_ir, mc_il, mc_ri, mc_rr, mc_rl, mc_li, mc_lr, mc_ll, mc_iii, mc_iir, mc_iil, mc_iri, mc_irr, mc_irl, mc_ili, mc_ilr, mc_ill, mc_rii, mc_rir, mc_ril, mc_rri, mc_rrr, mc_rrl, mc_rli, mc_rlr, mc_rll, mc_lii, mc_lir, mc_lil, mc_lri, mc_lrr, mc_lrl, mc_lli, mc_llr, mc_lll, mc_iiii, mc_iiir, mc_iiri, mc_iirr, mc_irii, mc_irir, mc_irri, mc_irrr, mc_riii, mc_riir, mc_riri, mc_rirr, mc_rrii, mc_rrir, mc_rrri, mc_rrrr, mc_iiiii, mc_iiiir, mc_iiiri, mc_iiirr, mc_iirii, mc_iirir, mc_iirri, mc_iirrr, mc_iriii, mc_iriir, mc_iriri, mc_irirr, mc_irrii, mc_irrir, mc_irrri, mc_irrrr, mc_riiii, mc_riiir, mc_riiri, mc_riirr, mc_ririi, mc_ririr, mc_rirri, mc_rirrr, mc_rriii, mc_rriir, mc_rriri, mc_rrirr, mc_rrrii, mc_rrrir, mc_rrrri, mc_rrrrr, mK_wA, mI_wA, gK_91 g, s3, hc1, hc2, e23', c3, nI_add, or_bit hS (show k < 31 by omega), nI_1, e2, S22, e24', e4]
    · have eSF : SF (cfg h) (TD h rd) hr m (r + 1) k S gs w b = SF (cfg h) (TD h rd) hr m r (k + 1) S gs (HN (cfg h) (TD h rd (hr + k)) 4 w).1 b := if_neg z
      rw [eSF]
      obtain ⟨I4, S4, f4, e4⟩ := c76 q hm hn (d := d) r (k + 1) S gs _ b I1 (by omega) (by omega) (by omega) w4 b1 b2 S1 w1
      have c3 : nI (gbN (HN (cfg h) (TD h rd (hr + k)) 4 w).2.2 m) ≤ 0 := by rw [show gbN (HN (cfg h) (TD h rd (hr + k)) 4 w).2.2 m = 0 by omega]; decide
      refine ⟨I4, S4, fun b j z1 z2 => ?_, ?_⟩
      · rw [f4 b j z1 (by omega), f1 b j (by omega) (by omega) (by omega)]
      · rw [show d + 7 + (r + 1) = d + 7 + r + 1 by omega]
        simp only [e_76_0, e_76_1, e_76_2, e_76_5, e_76_8, e_76_9, e_76_11, e_76_14, e_76_15, e_76_16, e_76_17, e_76_20, e_76_21, e_76_22, e_76_23, e_76_24, e_76_27, e_76_29, e_76_31, e_76_34, e_76_35, e_76_36, e_76_37, e_76_38, e_76_39, e_76_40, e_76_41, e_76_42, e_76_43, e_76_44, e_76_46, e_76_47, e_76_50, e_76_51, e_76_52, e_76_53, e_76_56, e_76_59, e_76_60, e_76_61, e_76_62, e_76_63, e_76_64, e_76_65, e_76_66, e_76_69, cV_some, tl_some, tl_none, mZO_0, mZO_1, mL1_n, mL1_i, mL1_r, oB_some, List.cons_append, List.nil_append, mK_wI, mL_wI, mN_wI, mR_wI, mJ_wI, mK_wJ, mL_wJ, mI_wJ, mR_wJ, mK_wR, mL_wR, mI_wR, mJ_wR, bI_0, bI_n0, if_true, if_false, Nat.reduceLeDiff, Nat.reduceAdd, ite_not, reduceIte, not_false_eq_true, not_true_eq_false, true_and, and_true, and_self, or_false, false_or, or_true, true_or, Nat.reduceEqDiff, Nat.reduceLT, Nat.zero_le, Nat.add_zero, eq_self, false_and, and_false, mc_, mc_i, mc_r, mc_l, mc_ii, mc_ir, mc_il, mc_ri, mc_rr, mc_rl, mc_li, mc_lr, mc_ll, mc_iii, mc_iir, mc_iil, mc_iri, mc_irr, mc_irl, mc_ili, mc_ilr, mc_ill, mc_rii, mc_rir, mc_ril, mc_rri, mc_rrr, mc_rrl, mc_rli, mc_rlr, mc_rll, mc_lii, mc_lir, mc_lil, mc_lri, mc_lrr, mc_lrl, mc_lli, mc_llr, mc_lll, mc_iiii, mc_iiir, mc_iiri, mc_iirr, mc_irii, mc_irir, mc_irri, mc_irrr, mc_riii, mc_riir, mc_riri, mc_rirr, mc_rrii, mc_rrir, mc_rrri, mc_rrrr, mc_iiiii, mc_iiiir, mc_iiiri, mc_iiirr, mc_iirii, mc_iirir, mc_iirri, mc_iirrr, mc_iriii, mc_iriir, mc_iriri, mc_irirr, mc_irrii, mc_irrir, mc_irrri, mc_irrrr, mc_riiii, mc_riiir, mc_riiri, mc_riirr, mc_ririi, mc_ririr, mc_rirri, mc_rirrr, mc_rriii, mc_rriir, mc_rriri, mc_rrirr, mc_rrrii, mc_rrrir, mc_rrrri, mc_rrrrr, mK_wA, mI_wA, gK_91 g, s3, hc1, hc2, e23', c3, nI_1, e4]
def sBI (h : mM) (m n hr : Nat) : Nat → Nat → Int32 := cpI (u2 (u2 (u2 (u2 (u2 (mI h) 91 3 (nI m)) 91 4 (nI n)) 91 5 (nI hr)) 91 6 0) 91 7 0) 104 93
theorem c22 {d : Nat} {h : mM} (g : G h) {m n hr : Nat} : ev d 22 0 [some (.ref 91), some (.int (nI m)), some (.int (nI n)), some (.int (nI hr)), some (.ref 104)] [] h = some (none, wA h (sBI h m n hr) (mR h)) := by
  have l0 : ¬ (0 : Int32) < 0 := by decide
  have l4 : ¬ (4 : Int32) < 0 := by decide
  have c0 : (0 : Int32).toNatClampNeg = 0 := by decide
  have c4 : (4 : Int32).toNatClampNeg = 4 := by decide
  have k18 : 12 < 18 ∧ 18 < 19 := by decide
  have i0 : ixOK 0 9 = true := by decide
  have gR : mR h 92 0 = some 93 := gR_92_0 g
  have k93 : mK h 93 = 11 := gK_grid g (p := 0) (by omega)
  have l93 : mL h 93 = 4 := gL_grid g (p := 0) (by omega)
  simp only [e_22_0, e_22_1, e_22_2, e_22_5, e_22_6, e_22_7, e_22_10, e_22_11, e_22_12, e_22_15, e_22_16, e_22_17, e_22_20, e_22_21, e_22_22, e_22_25, e_22_27, e_22_28, e_22_29, e_22_32, e_22_33, e_22_34, e_22_35, e_22_36, e_22_39, cV_some, tl_some, tl_none, mZO_0, mZO_1, mL1_n, mL1_i, mL1_r, oB_some, List.cons_append, List.nil_append, mK_wI, mL_wI, mN_wI, mR_wI, mJ_wI, mK_wJ, mL_wJ, mI_wJ, mR_wJ, mK_wR, mL_wR, mI_wR, mJ_wR, bI_0, bI_n0, if_true, if_false, Nat.reduceLeDiff, Nat.reduceAdd, ite_not, reduceIte, not_false_eq_true, not_true_eq_false, true_and, and_true, and_self, or_false, false_or, or_true, true_or, Nat.reduceEqDiff, Nat.reduceLT, Nat.zero_le, Nat.add_zero, eq_self, false_and, and_false, mc_, mc_i, mc_r, mc_l, mc_ii, mc_ir, mc_il, mc_ri, mc_rr, mc_rl, mc_li, mc_lr, mc_ll, mc_iii, mc_iir, mc_iil, mc_iri, mc_irr, mc_irl, mc_ili, mc_ilr, mc_ill, mc_rii, mc_rir, mc_ril, mc_rri, mc_rrr, mc_rrl, mc_rli, mc_rlr, mc_rll, mc_lii, mc_lir, mc_lil, mc_lri, mc_lrr, mc_lrl, mc_lli, mc_llr, mc_lll, mc_iiii, mc_iiir, mc_iiri, mc_iirr, mc_irii, mc_irir, mc_irri, mc_irrr, mc_riii, mc_riir, mc_riri, mc_rirr, mc_rrii, mc_rrir, mc_rrri, mc_rrrr, mc_iiiii, mc_iiiir, mc_iiiri, mc_iiirr, mc_iirii, mc_iirir, mc_iirri, mc_iirrr, mc_iriii, mc_iriir, mc_iriri, mc_irirr, mc_irrii, mc_irrir, mc_irrri, mc_irrrr, mc_riiii, mc_riiir, mc_riiri, mc_riirr, mc_ririi, mc_ririr, mc_rirri, mc_rirrr, mc_rriii, mc_rriir, mc_rriri, mc_rrirr, mc_rrrii, mc_rrrir, mc_rrrri, mc_rrrrr, gK_91 g, gR_91_2 g, gK_92 g, gL_92 g, gR, k93, l93, gK_104 g, gL_104 g, k18, i0, l0, l4, c0, c4, Nat.le_refl]
  rfl
theorem c57_ok {d : Nat} {h : mM} {rd hr : Nat} (q : CH h rd hr) (hh : mI h 1 9 = nI hr) {w : Nat → Nat} (hw : WB (cfg h) w) (hw2 : ∀ p, p < cfg h 0 0 → mI h 104 p = nI (w p)) {m n : Nat} (hm : m < cfg h 0 2) (h1 : 1 ≤ n) (hn : n ≤ 8) {wh : Int32} (hwh : 0 ≤ wh ∧ wh ≤ 1) : ∃ I', SC h I' ∧ ev (d + 16) 57 0 [some (.ref 1), some (.int (nI m)), some (.int (nI n)), some (.int wh)] [] h = some (some (.int (if wh = 0 then nI (SF (cfg h) (TD h rd) hr m n 0 0 0 w (0, 0)).1 else nI (SF (cfg h) (TD h rd) hr m n 0 0 0 w (0, 0)).2)), wA h I' (mR h)) := by
  have g := q.1.2.1
  have n4 := q.1.1.1.1
  have S0 : SI h hr m n (sBI h m n hr) (0, 0) := by
    unfold sBI
    refine ⟨fun b j hb => ?_, ?_, ?_, ?_, ?_, ?_⟩
    · rw [cpI_ne (by omega), u2_ap, if_neg (by omega), u2_ap, if_neg (by omega), u2_ap, if_neg (by omega), u2_ap, if_neg (by omega), u2_ap, if_neg (by omega)]
    · rw [cpI_ne (by omega), u2_ap, if_neg (by omega), u2_ap, if_neg (by omega), u2_ap, if_neg (by omega), u2_ap, if_neg (by omega), u2_ap, if_pos ⟨rfl, rfl⟩]
    · rw [cpI_ne (by omega), u2_ap, if_neg (by omega), u2_ap, if_neg (by omega), u2_ap, if_neg (by omega), u2_ap, if_pos ⟨rfl, rfl⟩]
    · rw [cpI_ne (by omega), u2_ap, if_neg (by omega), u2_ap, if_neg (by omega), u2_ap, if_pos ⟨rfl, rfl⟩]
    · rw [cpI_ne (by omega), u2_ap, if_neg (by omega), u2_ap, if_pos ⟨rfl, rfl⟩]
      rfl
    · rw [cpI_ne (by omega), u2_ap, if_pos ⟨rfl, rfl⟩]
      rfl
  obtain ⟨I', S1, _, e⟩ := c76 q (m := m) (by omega) hn (d := d + (8 - n)) n 0 0 0 w (0, 0) (sBI h m n hr) (by omega) (by omega) (by omega) hw (by decide) (by decide) S0 (fun p hp => by
    unfold sBI
    rw [cpI_in (by omega), u2_ap, if_neg (by omega), u2_ap, if_neg (by omega), u2_ap, if_neg (by omega), u2_ap, if_neg (by omega), u2_ap, if_neg (by omega)]
    exact hw2 p hp)
  rw [show d + (8 - n) + 7 + n = d + 15 by omega, nI_0] at e
  have gA0 := G.wA g (I := sBI h m n hr) (RG_self (h := h))
  have gA := G.wA g (I := I') (RG_self (h := h))
  have r1 : ((1 : Int32) ≤ nI n ∧ nI n ≤ (8 : Int32)) = True := eq_true ⟨nI_le (a := 1) h1 (by omega), nI_le (b := 8) hn (by omega)⟩
  obtain ⟨t1, t2, t3, t4, t5, t6⟩ := S1
  refine ⟨I', t1, ?_⟩
  by_cases b : wh = 0
  · subst b
    have z1 : (0 : Int32) ≤ 0 ∧ (0 : Int32) ≤ 1 := by decide
    simp only [e_57_0, e_57_1, e_57_2, e_57_5, e_57_8, e_57_9, e_57_10, e_57_12, e_57_15, e_57_18, e_57_19, e_57_20, e_57_21, e_57_24, e_57_27, e_57_28, e_57_29, e_57_32, e_57_33, e_57_34, e_57_37, e_57_38, e_57_39, e_57_40, e_57_43, e_57_44, e_57_47, e_57_50, e_57_51, e_57_54, e_57_55, e_57_56, e_57_57, e_57_60, e_57_61, e_57_64, e_57_65, e_57_68, e_57_71, e_57_74, e_57_75, e_57_78, e_57_81, cV_some, tl_some, tl_none, mZO_0, mZO_1, mL1_n, mL1_i, mL1_r, oB_some, List.cons_append, List.nil_append, mK_wI, mL_wI, mN_wI, mR_wI, mJ_wI, mK_wJ, mL_wJ, mI_wJ, mR_wJ, mK_wR, mL_wR, mI_wR, mJ_wR, bI_0, bI_n0, if_true, if_false, Nat.reduceLeDiff, Nat.reduceAdd, ite_not, reduceIte, not_false_eq_true, not_true_eq_false, true_and, and_true, and_self, or_false, false_or, or_true, true_or, Nat.reduceEqDiff, Nat.reduceLT, Nat.zero_le, Nat.add_zero, eq_self, false_and, and_false, mc_, mc_i, mc_r, mc_l, mc_ii, mc_ir, mc_il, mc_ri, mc_rr, mc_rl, mc_li, mc_lr, mc_ll, mc_iii, mc_iir, mc_iil, mc_iri, mc_irr, mc_irl, mc_ili, mc_ilr, mc_ill, mc_rii, mc_rir, mc_ril, mc_rri, mc_rrr, mc_rrl, mc_rli, mc_rlr, mc_rll, mc_lii, mc_lir, mc_lil, mc_lri, mc_lrr, mc_lrl, mc_lli, mc_llr, mc_lll, mc_iiii, mc_iiir, mc_iiri, mc_iirr, mc_irii, mc_irir, mc_irri, mc_irrr, mc_riii, mc_riir, mc_riri, mc_rirr, mc_rrii, mc_rrir, mc_rrri, mc_rrrr, mc_iiiii, mc_iiiir, mc_iiiri, mc_iiirr, mc_iirii, mc_iirir, mc_iirri, mc_iirrr, mc_iriii, mc_iriir, mc_iriri, mc_irirr, mc_irrii, mc_irrir, mc_irrri, mc_irrrr, mc_riiii, mc_riiir, mc_riiri, mc_riirr, mc_ririi, mc_ririr, mc_rirri, mc_rirrr, mc_rriii, mc_rriir, mc_rriri, mc_rrirr, mc_rrrii, mc_rrrir, mc_rrrri, mc_rrrrr, mK_wA, mI_wA, gK_1 g, gK_91 g, gR_1_3 g, gR_1_4 g, gR_1_3 gA0, gR_1_3 gA, c71 g, c65, rngC q.1.1.c.1.2.2 hm (by omega), r1, z1, hh, c22 g, e, t5]
  · simp only [e_57_0, e_57_1, e_57_2, e_57_5, e_57_8, e_57_9, e_57_10, e_57_12, e_57_15, e_57_18, e_57_19, e_57_20, e_57_21, e_57_24, e_57_27, e_57_28, e_57_29, e_57_32, e_57_33, e_57_34, e_57_37, e_57_38, e_57_39, e_57_40, e_57_43, e_57_44, e_57_47, e_57_50, e_57_51, e_57_54, e_57_55, e_57_56, e_57_57, e_57_60, e_57_61, e_57_64, e_57_65, e_57_68, e_57_71, e_57_74, e_57_75, e_57_78, e_57_81, cV_some, tl_some, tl_none, mZO_0, mZO_1, mL1_n, mL1_i, mL1_r, oB_some, List.cons_append, List.nil_append, mK_wI, mL_wI, mN_wI, mR_wI, mJ_wI, mK_wJ, mL_wJ, mI_wJ, mR_wJ, mK_wR, mL_wR, mI_wR, mJ_wR, bI_0, bI_n0, if_true, if_false, Nat.reduceLeDiff, Nat.reduceAdd, ite_not, reduceIte, not_false_eq_true, not_true_eq_false, true_and, and_true, and_self, or_false, false_or, or_true, true_or, Nat.reduceEqDiff, Nat.reduceLT, Nat.zero_le, Nat.add_zero, eq_self, false_and, and_false, mc_, mc_i, mc_r, mc_l, mc_ii, mc_ir, mc_il, mc_ri, mc_rr, mc_rl, mc_li, mc_lr, mc_ll, mc_iii, mc_iir, mc_iil, mc_iri, mc_irr, mc_irl, mc_ili, mc_ilr, mc_ill, mc_rii, mc_rir, mc_ril, mc_rri, mc_rrr, mc_rrl, mc_rli, mc_rlr, mc_rll, mc_lii, mc_lir, mc_lil, mc_lri, mc_lrr, mc_lrl, mc_lli, mc_llr, mc_lll, mc_iiii, mc_iiir, mc_iiri, mc_iirr, mc_irii, mc_irir, mc_irri, mc_irrr, mc_riii, mc_riir, mc_riri, mc_rirr, mc_rrii, mc_rrir, mc_rrri, mc_rrrr, mc_iiiii, mc_iiiir, mc_iiiri, mc_iiirr, mc_iirii, mc_iirir, mc_iirri, mc_iirrr, mc_iriii, mc_iriir, mc_iriri, mc_irirr, mc_irrii, mc_irrir, mc_irrri, mc_irrrr, mc_riiii, mc_riiir, mc_riiri, mc_riirr, mc_ririi, mc_ririr, mc_rirri, mc_rirrr, mc_rriii, mc_rriir, mc_rriri, mc_rrirr, mc_rrrii, mc_rrrir, mc_rrrri, mc_rrrrr, mK_wA, mI_wA, gK_1 g, gK_91 g, gR_1_3 g, gR_1_4 g, gR_1_3 gA0, gR_1_3 gA, c71 g, c65, rngC q.1.1.c.1.2.2 hm (by omega), r1, hwh, b, hh, c22 g, e, t6]
theorem c57_bad {d : Nat} {h : mM} (g : G h) {m n wh : Int32} (hb : ¬ ((0 ≤ m ∧ m ≤ mI h 4 6 - 1) ∧ (1 ≤ n ∧ n ≤ 8) ∧ 0 ≤ wh ∧ wh ≤ 1)) : ev (d + 16) 57 0 [some (.ref 1), some (.int m), some (.int n), some (.int wh)] [] h = some (some (.int (-1000000001)), fC h 1) := by
  by_cases h1 : 0 ≤ m ∧ m ≤ mI h 4 6 - 1
  · by_cases h2 : 1 ≤ n ∧ n ≤ 8
    · have h3 : ¬ (0 ≤ wh ∧ wh ≤ 1) := fun z => hb ⟨h1, h2, z⟩
      simp only [e_57_0, e_57_1, e_57_2, e_57_5, e_57_8, e_57_9, e_57_10, e_57_12, e_57_15, e_57_18, e_57_19, e_57_20, e_57_21, e_57_24, e_57_27, e_57_28, e_57_29, e_57_32, e_57_33, e_57_34, e_57_37, e_57_38, e_57_39, e_57_40, e_57_43, e_57_44, e_57_47, e_57_50, e_57_51, e_57_54, e_57_55, e_57_56, e_57_57, e_57_60, e_57_61, e_57_64, e_57_65, e_57_68, e_57_71, e_57_74, e_57_75, e_57_78, e_57_81, cV_some, tl_some, tl_none, mZO_0, mZO_1, mL1_n, mL1_i, mL1_r, oB_some, List.cons_append, List.nil_append, mK_wI, mL_wI, mN_wI, mR_wI, mJ_wI, mK_wJ, mL_wJ, mI_wJ, mR_wJ, mK_wR, mL_wR, mI_wR, mJ_wR, bI_0, bI_n0, if_true, if_false, Nat.reduceLeDiff, Nat.reduceAdd, ite_not, reduceIte, not_false_eq_true, not_true_eq_false, true_and, and_true, and_self, or_false, false_or, or_true, true_or, Nat.reduceEqDiff, Nat.reduceLT, Nat.zero_le, Nat.add_zero, eq_self, false_and, and_false, mc_, mc_i, mc_r, mc_l, mc_ii, mc_ir, mc_il, mc_ri, mc_rr, mc_rl, mc_li, mc_lr, mc_ll, mc_iii, mc_iir, mc_iil, mc_iri, mc_irr, mc_irl, mc_ili, mc_ilr, mc_ill, mc_rii, mc_rir, mc_ril, mc_rri, mc_rrr, mc_rrl, mc_rli, mc_rlr, mc_rll, mc_lii, mc_lir, mc_lil, mc_lri, mc_lrr, mc_lrl, mc_lli, mc_llr, mc_lll, mc_iiii, mc_iiir, mc_iiri, mc_iirr, mc_irii, mc_irir, mc_irri, mc_irrr, mc_riii, mc_riir, mc_riri, mc_rirr, mc_rrii, mc_rrir, mc_rrri, mc_rrrr, mc_iiiii, mc_iiiir, mc_iiiri, mc_iiirr, mc_iirii, mc_iirir, mc_iirri, mc_iirrr, mc_iriii, mc_iriir, mc_iriri, mc_irirr, mc_irrii, mc_irrir, mc_irrri, mc_irrrr, mc_riiii, mc_riiir, mc_riiri, mc_riirr, mc_ririi, mc_ririr, mc_rirri, mc_rirrr, mc_rriii, mc_rriir, mc_rriri, mc_rrirr, mc_rrrii, mc_rrrir, mc_rrrri, mc_rrrrr, gK_1 g, c71 g, c65, h1, h2, h3, c64_1 g]
    · simp only [e_57_0, e_57_1, e_57_2, e_57_5, e_57_8, e_57_9, e_57_10, e_57_12, e_57_15, e_57_18, e_57_19, e_57_20, e_57_21, e_57_24, e_57_27, e_57_28, e_57_29, e_57_32, e_57_33, e_57_34, e_57_37, e_57_38, e_57_39, e_57_40, e_57_43, e_57_44, e_57_47, e_57_50, e_57_51, e_57_54, e_57_55, e_57_56, e_57_57, e_57_60, e_57_61, e_57_64, e_57_65, e_57_68, e_57_71, e_57_74, e_57_75, e_57_78, e_57_81, cV_some, tl_some, tl_none, mZO_0, mZO_1, mL1_n, mL1_i, mL1_r, oB_some, List.cons_append, List.nil_append, mK_wI, mL_wI, mN_wI, mR_wI, mJ_wI, mK_wJ, mL_wJ, mI_wJ, mR_wJ, mK_wR, mL_wR, mI_wR, mJ_wR, bI_0, bI_n0, if_true, if_false, Nat.reduceLeDiff, Nat.reduceAdd, ite_not, reduceIte, not_false_eq_true, not_true_eq_false, true_and, and_true, and_self, or_false, false_or, or_true, true_or, Nat.reduceEqDiff, Nat.reduceLT, Nat.zero_le, Nat.add_zero, eq_self, false_and, and_false, mc_, mc_i, mc_r, mc_l, mc_ii, mc_ir, mc_il, mc_ri, mc_rr, mc_rl, mc_li, mc_lr, mc_ll, mc_iii, mc_iir, mc_iil, mc_iri, mc_irr, mc_irl, mc_ili, mc_ilr, mc_ill, mc_rii, mc_rir, mc_ril, mc_rri, mc_rrr, mc_rrl, mc_rli, mc_rlr, mc_rll, mc_lii, mc_lir, mc_lil, mc_lri, mc_lrr, mc_lrl, mc_lli, mc_llr, mc_lll, mc_iiii, mc_iiir, mc_iiri, mc_iirr, mc_irii, mc_irir, mc_irri, mc_irrr, mc_riii, mc_riir, mc_riri, mc_rirr, mc_rrii, mc_rrir, mc_rrri, mc_rrrr, mc_iiiii, mc_iiiir, mc_iiiri, mc_iiirr, mc_iirii, mc_iirir, mc_iirri, mc_iirrr, mc_iriii, mc_iriir, mc_iriri, mc_irirr, mc_irrii, mc_irrir, mc_irrri, mc_irrrr, mc_riiii, mc_riiir, mc_riiri, mc_riirr, mc_ririi, mc_ririr, mc_rirri, mc_rirrr, mc_rriii, mc_rriir, mc_rriri, mc_rrirr, mc_rrrii, mc_rrrir, mc_rrrri, mc_rrrrr, gK_1 g, c71 g, c65, h1, h2, c64_1 g]
  · simp only [e_57_0, e_57_1, e_57_2, e_57_5, e_57_8, e_57_9, e_57_10, e_57_12, e_57_15, e_57_18, e_57_19, e_57_20, e_57_21, e_57_24, e_57_27, e_57_28, e_57_29, e_57_32, e_57_33, e_57_34, e_57_37, e_57_38, e_57_39, e_57_40, e_57_43, e_57_44, e_57_47, e_57_50, e_57_51, e_57_54, e_57_55, e_57_56, e_57_57, e_57_60, e_57_61, e_57_64, e_57_65, e_57_68, e_57_71, e_57_74, e_57_75, e_57_78, e_57_81, cV_some, tl_some, tl_none, mZO_0, mZO_1, mL1_n, mL1_i, mL1_r, oB_some, List.cons_append, List.nil_append, mK_wI, mL_wI, mN_wI, mR_wI, mJ_wI, mK_wJ, mL_wJ, mI_wJ, mR_wJ, mK_wR, mL_wR, mI_wR, mJ_wR, bI_0, bI_n0, if_true, if_false, Nat.reduceLeDiff, Nat.reduceAdd, ite_not, reduceIte, not_false_eq_true, not_true_eq_false, true_and, and_true, and_self, or_false, false_or, or_true, true_or, Nat.reduceEqDiff, Nat.reduceLT, Nat.zero_le, Nat.add_zero, eq_self, false_and, and_false, mc_, mc_i, mc_r, mc_l, mc_ii, mc_ir, mc_il, mc_ri, mc_rr, mc_rl, mc_li, mc_lr, mc_ll, mc_iii, mc_iir, mc_iil, mc_iri, mc_irr, mc_irl, mc_ili, mc_ilr, mc_ill, mc_rii, mc_rir, mc_ril, mc_rri, mc_rrr, mc_rrl, mc_rli, mc_rlr, mc_rll, mc_lii, mc_lir, mc_lil, mc_lri, mc_lrr, mc_lrl, mc_lli, mc_llr, mc_lll, mc_iiii, mc_iiir, mc_iiri, mc_iirr, mc_irii, mc_irir, mc_irri, mc_irrr, mc_riii, mc_riir, mc_riri, mc_rirr, mc_rrii, mc_rrir, mc_rrri, mc_rrrr, mc_iiiii, mc_iiiir, mc_iiiri, mc_iiirr, mc_iirii, mc_iirir, mc_iirri, mc_iirrr, mc_iriii, mc_iriir, mc_iriri, mc_irirr, mc_irrii, mc_irrir, mc_irrri, mc_irrrr, mc_riiii, mc_riiir, mc_riiri, mc_riirr, mc_ririi, mc_ririr, mc_rirri, mc_rirrr, mc_rriii, mc_rriir, mc_rriri, mc_rrirr, mc_rrrii, mc_rrrir, mc_rrrri, mc_rrrrr, gK_1 g, c71 g, h1, c64_1 g]
