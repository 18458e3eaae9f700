-- what is built stays; the landed file hands out what was ground
def ST (b j : Nat) : Prop := b = 4 ∨ b = 8 ∨ (9 ≤ b ∧ b ≤ 16) ∨ (∃ m, m < 4 ∧ b = 17 + 18 * m ∧ j < 8) ∨ (∃ m s, m < 4 ∧ s < 3 ∧ b = 20 + 18 * m + s) ∨ (111 ≤ b ∧ b ≤ 114) ∨ (116 ≤ b ∧ b ≤ 128) ∨ (b = 109 ∧ (j = 3 ∨ j = 9 ∨ j = 13 ∨ j = 24))
theorem ST_a {b j : Nat} (h : 111 ≤ b ∧ b ≤ 114) : ST b j := Or.inr (Or.inr (Or.inr (Or.inr (Or.inr (Or.inl h)))))
theorem ST_b {b j : Nat} (h : 116 ≤ b ∧ b ≤ 128) : ST b j := Or.inr (Or.inr (Or.inr (Or.inr (Or.inr (Or.inr (Or.inl h))))))
theorem ST_o {j : Nat} (h : j = 3 ∨ j = 9 ∨ j = 13 ∨ j = 24) : ST 109 j := Or.inr (Or.inr (Or.inr (Or.inr (Or.inr (Or.inr (Or.inr ⟨rfl, h⟩))))))
theorem ST_4 {j : Nat} : ST 4 j := Or.inl rfl
theorem ST_8 {j : Nat} : ST 8 j := Or.inr (Or.inl rfl)
theorem ST_p {b j : Nat} (h : 9 ≤ b ∧ b ≤ 16) : ST b j := Or.inr (Or.inr (Or.inl h))
theorem ST_m {m j : Nat} (h : m < 4) (hj : j < 8) : ST (17 + 18 * m) j := Or.inr (Or.inr (Or.inr (Or.inl ⟨m, h, rfl, hj⟩)))
theorem ST_s {m s j : Nat} (h : m < 4) (hj : s < 3) : ST (20 + 18 * m + s) j := Or.inr (Or.inr (Or.inr (Or.inr (Or.inl ⟨m, s, h, hj, rfl⟩))))
theorem cfg_congr {h h' : mM} (hs : ∀ b j, ST b j → mI h' b j = mI h b j) : cfg h' = cfg h := by
  funext a b
  unfold cfg
  split
  · rw [hs 109 3 (ST_o (by omega)), hs 109 9 (ST_o (by omega)), hs 109 13 (ST_o (by omega))]
  · rw [hs 111 b (ST_a (by omega))]
  · rw [hs 112 b (ST_a (by omega))]
  · rw [hs 113 b (ST_a (by omega))]
  · rw [hs 114 b (ST_a (by omega))]
  · rw [hs 116 b (ST_b (by omega))]
  · rw [hs 117 b (ST_b (by omega))]
  · rw [hs 118 b (ST_b (by omega))]
  · rw [hs 119 b (ST_b (by omega))]
  · rw [hs 120 b (ST_b (by omega))]
  · rw [hs 121 b (ST_b (by omega))]
  · rw [hs 122 b (ST_b (by omega))]
  · rw [hs 123 b (ST_b (by omega))]
  · rw [hs 124 b (ST_b (by omega))]
  · rw [hs 8 b ST_8]
  · rw [hs 125 b (ST_b (by omega))]
  · rw [hs 126 b (ST_b (by omega))]
  · rw [hs 127 b (ST_b (by omega))]
  · rw [hs 128 b (ST_b (by omega))]
  · rw [hs 109 24 (ST_o (by omega))]
theorem CF_congr {h h' : mM} (hs : ∀ b j, ST b j → mI h' b j = mI h b j) (q : CF h) : CF h' := by
  have e := cfg_congr hs
  have n4 := q.1.1
  have n13 := fun m (hm : m < cfg h 0 2) => (q.1.2.2.2.1 m hm).2.2.2.2.2
  obtain ⟨q1, q2, q3, q4, q5, q6, q7, q8, q9⟩ := q
  unfold CF
  rw [e, hs 4 4 ST_4, hs 4 5 ST_4, hs 4 6 ST_4, hs 109 3 (ST_o (by omega)), hs 109 9 (ST_o (by omega)), hs 109 13 (ST_o (by omega)), hs 109 24 (ST_o (by omega))]
  refine ⟨q1, q2, q3, fun p hp j hj => ?_, fun k hk j hj => ?_, fun m hm j hj => ?_, fun m s hm hs' => ⟨fun j hj => ?_, ?_⟩, fun i hi => ?_, q9⟩
  · rw [hs (9 + p) j (ST_p (by omega)), hs (111 + j) p (ST_a (by omega))]; exact q4 p hp j hj
  · rw [hs (13 + k) j (ST_p (by omega)), hs (116 + j) k (ST_b (by omega))]; exact q5 k hk j hj
  · rw [hs (17 + 18 * m) (2 + j) (ST_m (by omega) (by omega)), hs (119 + j) m (ST_b (by omega))]; exact q6 m hm j hj
  · have := n13 m hm
    rw [hs (20 + 18 * m + s) j (ST_s (by omega) (by omega)), hs (125 + j) (3 * m + s) (ST_b (by omega))]; exact (q7 m s hm hs').1 j hj
  · have := n13 m hm
    rw [hs (20 + 18 * m + s) 4 (ST_s (by omega) (by omega))]; exact (q7 m s hm hs').2
  · rw [hs 8 i ST_8]; exact q8 i hi
theorem HN_zero {c : Tb} (ck : CK c) {t r : Nat} {w : Nat → Nat} (ht : t ≤ 200) (hw : WB c w) {i : Nat} (hi : 3 * c 0 2 ≤ i) : (HN c t r w).2.2 i = 0 := by
  obtain ⟨g1, g2, g3, g4, g5⟩ := gt_ok ck ht hw
  unfold HN
  generalize foldN (gtN c t) (c 0 0) (w, fun _ => 0, fun _ => 0) = σ1 at g1 g4 g5 ⊢
  obtain ⟨c1, c2⟩ := ch_ok ck g1 (c 0 1) (Nat.le_refl _)
  generalize foldN (chN c) (c 0 1) σ1 = σ2 at c1 c2 ⊢
  have z : (foldN (rkN c t r) 10 σ2).2.2 i = 0 := foldN_inv (P := fun _ (n : N3) => n.2.2 i = 0) 10 σ2 (by rw [c2, g5]) (fun k y _ z => foldN_inv (P := fun _ (n : N3) => n.2.2 i = 0) (c 0 2) y z (fun m n hm z => by
    unfold rmN
    split
    · have h3 := (ck.2.2.2.1 m hm).2.2.2.2.2
      have := mlP_off (c := c) (t := t) (rn := r) (m := m) (i := c 13 m) (j := i) (n := n) (fun s hs => by omega)
      exact this.trans z
    · exact z))
  have k1 := (rks_ok ck (t := t) (r := r) c1 (by rw [c2]; exact g4 3 (by omega)) (by rw [c2, g5]; intro i; exact Nat.zero_le _)).1
  generalize foldN (rkN c t r) 10 σ2 = σ3 at z k1 ⊢
  rw [(sp_ok ck k1 (c 0 0) (Nat.le_refl _)).2.2.2]
  exact z
theorem gb_I {gr : Nat → Int32} {g : Nat → Nat} (h : ∀ i, i < 12 → gr i = nI (g i)) {m : Nat} (hm : m < 4) : gbF gr m = nI (gbN g m) := by
  show (0 : Int32) + gr (3 * m + 0) + gr (3 * m + 1) + gr (3 * m + 2) = _
  rw [h _ (by omega), h _ (by omega), h _ (by omega), show (0 : Int32) = nI 0 from rfl, nI_add, nI_add, nI_add]
  unfold gbN
  rw [Nat.zero_add]
  rfl
theorem sr_I {gr : Nat → Int32} {g : Nat → Nat} (h : ∀ i, i < 12 → gr i = nI (g i)) (hg : ∀ i, i < 12 → g i ≤ 1000) {m : Nat} (hm : m < 4) : srF gr m = nI (rcN g m) := by
  have b : ∀ i, i < 12 → bI (0 < gr i) = nI (b1N (g i)) := fun i hi => by
    have h1 := hg i hi
    unfold bI b1N
    by_cases z : 0 < g i
    · have : 0 < gr i := by rw [h i hi]; exact nI_0lt z (by omega)
      rw [if_pos this, if_pos z]; rfl
    · have : ¬ 0 < gr i := by
        rw [h i hi, show g i = 0 by omega]
        decide
      rw [if_neg this, if_neg z]; rfl
  show (0 : Int32) + bI (0 < gr (3 * m + 0)) + bI (0 < gr (3 * m + 1)) + bI (0 < gr (3 * m + 2)) = _
  rw [b _ (by omega), b _ (by omega), b _ (by omega), show (0 : Int32) = nI 0 from rfl, nI_add, nI_add, nI_add]
  unfold rcN
  rw [Nat.zero_add]
  rfl
/-- what handing out to the first i mills makes -/
def HO (kd : Nat → Int32) (hr : Int32) (g : Nat → Nat) (qs : Nat → List Sk) (I0 : Nat → Nat → Int32) (R0 : Nat → Nat → Option Nat) (i : Nat) (I : Nat → Nat → Int32) (R : Nat → Nat → Option Nat) : Prop := (∀ b j, b ≠ 105 → (∀ m, m < i → b ≠ 17 + 18 * m ∧ ¬ (23 + 18 * m ≤ b ∧ b < 35 + 18 * m)) → I b j = I0 b j) ∧ (∀ m, m < i → ∀ j, j < 8 → I (17 + 18 * m) j = I0 (17 + 18 * m) j) ∧ (∀ m, m < i → ∀ j, j < 6 → I (17 + 18 * m) (9 + j) = I0 (17 + 18 * m) (9 + j) + nI (acD (kd m) hr (gbN g m) (rcN g m) (qs m) j)) ∧ (∀ c, I 105 c = I0 105 c + nI (sumN (flD kd g qs c) i)) ∧ (∀ b j, (∀ m, m < i → b ≠ 19 + 18 * m) → R b j = R0 b j) ∧ (∀ m, m < 4 → ∃ P, CS I R m (if m < i then (gvQ (gbN g m) (qs m)).1 else qs m) P)
theorem CS_congr {I I' : Nat → Nat → Int32} {R R' : Nat → Nat → Option Nat} {m : Nat} {q : List Sk} {P : Nat → Nat} (hl : q.length ≤ 12) (h1 : I' (17 + 18 * m) 8 = I (17 + 18 * m) 8) (h2 : ∀ b j, 23 + 18 * m ≤ b → b < 35 + 18 * m → I' b j = I b j) (h3 : ∀ j, R' (19 + 18 * m) j = R (19 + 18 * m) j) (C : CS I R m q P) : CS I' R' m q P := by
  obtain ⟨⟨c1, c2⟩, c3, c4⟩ := C
  refine ⟨⟨fun i hi => by rw [h3]; exact c1 i hi, c2⟩, h1.trans c3, Qc_congr (e := 0) (fun k k1 k2 j hj => ?_) c4⟩
  have := (c1 k (by omega)).2
  rw [h2 _ _ (by omega) (by omega)]
  rfl
theorem loop74 {d : Nat} {h : mM} (q : CF h) (g : G h) {gn : Nat → Nat} {qs : Nat → List Sk} {hr : Nat} {I0 : Nat → Nat → Int32} {R0 : Nat → Nat → Option Nat} (hR0 : RG h R0) (hI0 : ∀ b j, ST b j → I0 b j = mI h b j) (hg : ∀ i, i < 12 → I0 90 i = nI (gn i)) (hg2 : ∀ i, i < 12 → gn i ≤ 1000) (hh : I0 1 9 = nI hr) (hq : QS (mI h 119) 4 qs) : ∀ (k i : Nat) (I : Nat → Nat → Int32) (R : Nat → Nat → Option Nat) (o3 o4 : Option Value), i + k = cfg h 0 2 → HO (mI h 119) (nI hr) gn qs I0 R0 i I R → mLong o3 = false → ∃ I' R', HO (mI h 119) (nI hr) gn qs I0 R0 (cfg h 0 2) I' R' ∧ ev (d + 4) 74 4 [some (.ref 1), some (.int (nI (sumN (nfS (mI h 119) gn) i))), some (.int (nI i)), o3, o4] [] (wA h I R) = some (some (.int (nI (sumN (nfS (mI h 119) gn) (cfg h 0 2)))), wA h I' R')
  | 0, i, I, R, o3, o4, hk, H, h3 => by
    have e : i = cfg h 0 2 := by omega
    subst e
    have n4 := q.1.1
    have hR : RG h R := fun b j hb => by rw [H.2.2.2.2.1 b j (fun m hm => hb m (by omega))]; exact hR0 b j hb
    have gA := G.wA g (I := I) hR
    have i46 : I 4 6 = nI (cfg h 0 2) := by rw [H.1 4 6 (by omega) (fun m hm => by omega), hI0 4 6 ST_4]; exact q.c.1.2.2
    refine ⟨I, R, H, ?_⟩
    rw [e_74_4]
    simp only [e_74_0, e_74_1, e_74_2, e_74_3, e_74_5, e_74_6, e_74_9, e_74_12, e_74_15, e_74_16, e_74_19, e_74_22, e_74_23, e_74_24, e_74_25, e_74_26, e_74_29, e_74_30, e_74_33, e_74_34r, e_74_34i, e_74_35, e_74_38, e_74_39, e_74_42, e_74_43, e_74_46, e_74_47, e_74_50, e_74_53, e_74_54, e_74_57, e_74_58, e_74_61, e_74_63, e_74_64, e_74_66, e_74_67, e_74_70, e_74_71, e_74_74, e_74_77, e_74_78, e_74_80, e_74_81, e_74_82, e_74_85, e_74_88, e_74_89, cV_some, tl_some, tl_none, mZO_0, mZO_1, mL1_n, mL1_i, mL1_r, oB_some, List.cons_append, List.nil_append, mK_wI, mL_wI, mN_wI, mR_wI, mJ_wI, mK_wJ, mL_wJ, mI_wJ, mR_wJ, mK_wR, mL_wR, mI_wR, mJ_wR, bI_0, bI_n0, if_true, if_false, Nat.reduceLeDiff, Nat.reduceAdd, ite_not, reduceIte, not_false_eq_true, not_true_eq_false, true_and, and_true, and_self, or_false, false_or, or_true, true_or, Nat.reduceEqDiff, Nat.reduceLT, Nat.zero_le, Nat.add_zero, eq_self, false_and, and_false, mc_, mc_i, mc_r, mc_l, mc_ii, mc_ir, mc_il, mc_ri, mc_rr, mc_rl, mc_li, mc_lr, mc_ll, mc_iii, mc_iir, mc_iil, mc_iri, mc_irr, mc_irl, mc_ili, mc_ilr, mc_ill, mc_rii, mc_rir, mc_ril, mc_rri, mc_rrr, mc_rrl, mc_rli, mc_rlr, mc_rll, mc_lii, mc_lir, mc_lil, mc_lri, mc_lrr, mc_lrl, mc_lli, mc_llr, mc_lll, mc_iiii, mc_iiir, mc_iiri, mc_iirr, mc_irii, mc_irir, mc_irri, mc_irrr, mc_riii, mc_riir, mc_riri, mc_rirr, mc_rrii, mc_rrir, mc_rrri, mc_rrrr, mc_iiiii, mc_iiiir, mc_iiiri, mc_iiirr, mc_iirii, mc_iirir, mc_iirri, mc_iirrr, mc_iriii, mc_iriir, mc_iriri, mc_irirr, mc_irrii, mc_irrir, mc_irrri, mc_irrrr, mc_riiii, mc_riiir, mc_riiri, mc_riirr, mc_ririi, mc_ririr, mc_rirri, mc_rirrr, mc_rriii, mc_rriir, mc_rriri, mc_rrirr, mc_rrrii, mc_rrrir, mc_rrrri, mc_rrrrr, mK_wA, gK_1 g, gR_1_1 gA, gK_4 g, mI_wA, i46, le_self32]
  | k + 1, i, I, R, o3, o4, hk, H, h3 => by
    have n4 := q.1.1
    have hi : i < cfg h 0 2 := by omega
    have hi4 : i < 4 := by omega
    have H' := H
    obtain ⟨H1, H2, H3, H4, H5, H6⟩ := H
    have hR : RG h R := fun b j hb => by rw [H5 b j (fun m hm => hb m (by omega))]; exact hR0 b j hb
    have gA := G.wA g (I := I) hR
    have i46 : I 4 6 = nI (cfg h 0 2) := by rw [H1 4 6 (by omega) (fun m hm => by omega), hI0 4 6 ST_4]; exact q.c.1.2.2
    have hc : ¬ nI (cfg h 0 2) ≤ nI i := nI_ge hi (by omega)
    have ik : I (17 + 18 * i) 2 = mI h 119 i := by
      rw [H1 _ 2 (by omega) (fun m hm => by omega), hI0 _ 2 (ST_m hi4 (by omega))]
      exact (q.2.2.2.2.2.1 i hi 0 (by omega)).1
    have i90 : ∀ j, j < 12 → mI (wA h I R) 90 j = nI (gn j) := fun j hj => by
      show I 90 j = _
      rw [H1 90 j (by omega) (fun m hm => by omega)]; exact hg j hj
    have i19 : I 1 9 = nI hr := by rw [H1 1 9 (by omega) (fun m hm => by omega)]; exact hh
    have e1 : sumN (nfS (mI h 119) gn) (i + 1) = sumN (nfS (mI h 119) gn) i + nfS (mI h 119) gn i := rfl
    obtain ⟨P0, C0⟩ := H6 i hi4
    rw [if_neg (by omega)] at C0
    obtain ⟨q1, q2, q3⟩ := hq i hi4
    by_cases b : mI h 119 i = 2
    · have q0 := q3 b
      have sr := c10 (d := d + 3) (h := wA h I R) (F := 89) (GA := 90) (m := i) (gK_89 gA) (gR_89_1 gA) (gK_90 gA) (gL_90 gA) hi4
      rw [sr_I i90 hg2 hi4] at sr
      have HN1 : HO (mI h 119) (nI hr) gn qs I0 R0 (i + 1) (u2 I (17 + 18 * i) 14 (I (17 + 18 * i) 14 + nI (rcN gn i))) R := by
        refine ⟨fun b j b1 b2 => ?_, fun m hm j hj => ?_, fun m hm j hj => ?_, fun c => ?_, fun b j hb => H5 b j (fun m hm => hb m (by omega)), fun m hm => ?_⟩
        · have := b2 i (by omega)
          rw [u2_ap, if_neg (by omega)]
          exact H1 b j b1 (fun m hm => b2 m (by omega))
        · rw [u2_ap, if_neg (by omega)]
          by_cases z : m = i
          · subst z
            exact H1 _ j (by omega) (fun m hm => by omega)
          · exact H2 m (by omega) j hj
        · rw [u2_ap]
          by_cases z : m = i
          · subst z
            have h1 := H1 (17 + 18 * m) (9 + j) (by omega) (fun m hm => by omega)
            unfold acD
            rw [if_pos b]
            by_cases y : j = 5
            · subst y
              rw [if_pos ⟨rfl, rfl⟩, if_pos rfl]
              exact congrArg (· + _) h1
            · rw [if_neg (by omega), if_neg y, nI_z]
              exact h1
          · rw [if_neg (by omega)]
            exact H3 m (by omega) j hj
        · rw [u2_ap, if_neg (by omega), H4 c]
          show _ = _ + nI (sumN (flD (mI h 119) gn qs c) i + flD (mI h 119) gn qs c i)
          have : flD (mI h 119) gn qs c i = 0 := by
            unfold flD
            rw [q0]
            rfl
          rw [this, Nat.add_zero]
        · obtain ⟨P, C⟩ := H6 m hm
          refine ⟨P, ?_⟩
          have C' : CS (u2 I (17 + 18 * i) 14 (I (17 + 18 * i) 14 + nI (rcN gn i))) R m (if m < i then (gvQ (gbN gn m) (qs m)).1 else qs m) P := by
            refine CS_congr ?_ ?_ (fun b j z1 z2 => ?_) (fun _ => rfl) C
            · have l := (gvQ_ok (qs m) (gbN gn m) (hq m hm).1).2
              have := (hq m hm).2.1
              split <;> omega
            · rw [u2_ap, if_neg (by omega)]
            · rw [u2_ap, if_neg (by omega)]
          by_cases z : m = i
          · subst z
            rw [if_neg (by omega)] at C'
            rw [if_pos (by omega), q0]
            rw [q0] at C'
            exact C'
          · by_cases y : m < i
            · rw [if_pos y] at C'
              rw [if_pos (by omega)]
              exact C'
            · rw [if_neg y] at C'
              rw [if_neg (by omega)]
              exact C'
      have e2 : nfS (mI h 119) gn i = 0 := if_pos b
      obtain ⟨I', R', HF, e'⟩ := loop74 (d := d) q g hR0 hI0 hg hg2 hh hq k (i + 1) _ _ (some (.ref (17 + 18 * i))) o4 (by omega) HN1 rfl
      refine ⟨I', R', HF, ?_⟩
      rw [e1, e2, Nat.add_zero] at e'
      rw [e_74_4]
      simp only [e_74_0, e_74_1, e_74_2, e_74_3, e_74_5, e_74_6, e_74_9, e_74_12, e_74_15, e_74_16, e_74_19, e_74_22, e_74_23, e_74_24, e_74_25, e_74_26, e_74_29, e_74_30, e_74_33, e_74_34r, e_74_34i, e_74_35, e_74_38, e_74_39, e_74_42, e_74_43, e_74_46, e_74_47, e_74_50, e_74_53, e_74_54, e_74_57, e_74_58, e_74_61, e_74_63, e_74_64, e_74_66, e_74_67, e_74_70, e_74_71, e_74_74, e_74_77, e_74_78, e_74_80, e_74_81, e_74_82, e_74_85, e_74_88, e_74_89, cV_some, tl_some, tl_none, mZO_0, mZO_1, mL1_n, mL1_i, mL1_r, oB_some, List.cons_append, List.nil_append, mK_wI, mL_wI, mN_wI, mR_wI, mJ_wI, mK_wJ, mL_wJ, mI_wJ, mR_wJ, mK_wR, mL_wR, mI_wR, mJ_wR, bI_0, bI_n0, if_true, if_false, Nat.reduceLeDiff, Nat.reduceAdd, ite_not, reduceIte, not_false_eq_true, not_true_eq_false, true_and, and_true, and_self, or_false, false_or, or_true, true_or, Nat.reduceEqDiff, Nat.reduceLT, Nat.zero_le, Nat.add_zero, eq_self, false_and, and_false, mc_, mc_i, mc_r, mc_l, mc_ii, mc_ir, mc_il, mc_ri, mc_rr, mc_rl, mc_li, mc_lr, mc_ll, mc_iii, mc_iir, mc_iil, mc_iri, mc_irr, mc_irl, mc_ili, mc_ilr, mc_ill, mc_rii, mc_rir, mc_ril, mc_rri, mc_rrr, mc_rrl, mc_rli, mc_rlr, mc_rll, mc_lii, mc_lir, mc_lil, mc_lri, mc_lrr, mc_lrl, mc_lli, mc_llr, mc_lll, mc_iiii, mc_iiir, mc_iiri, mc_iirr, mc_irii, mc_irir, mc_irri, mc_irrr, mc_riii, mc_riir, mc_riri, mc_rirr, mc_rrii, mc_rrir, mc_rrri, mc_rrrr, mc_iiiii, mc_iiiir, mc_iiiri, mc_iiirr, mc_iirii, mc_iirir, mc_iirri, mc_iirrr, mc_iriii, mc_iriir, mc_iriri, mc_irirr, mc_irrii, mc_irrir, mc_irrri, mc_irrrr, mc_riiii, mc_riiir, mc_riiri, mc_riirr, mc_ririi, mc_ririr, mc_rirri, mc_rirrr, mc_rriii, mc_rriir, mc_rriri, mc_rrirr, mc_rrrii, mc_rrrir, mc_rrrri, mc_rrrrr, mK_wA, mL_wA, gK_1 g, gR_1_1 gA, gR_1_2 gA, gK_4 g, gR_4_2 gA, gK_7 g, gL_7 g, gR_mill gA hi4, gK_mill g hi4, gK_89 g, mI_wA, wI_wA, i46, hc, ixN hi4 (by omega), cl (show i < 2 ^ 31 by omega), ik, b, sr, nI_1]
      exact e'
    · have gb := c9 (d := d + 3) (h := wA h I R) (F := 89) (GA := 90) (m := i) (gK_89 gA) (gR_89_1 gA) (gK_90 gA) (gL_90 gA) hi4
      rw [gb_I i90 hi4] at gb
      have gx : gbN gn i < 2 ^ 31 := by
        unfold gbN
        have h0 := hg2 (3 * i) (by omega)
        have h1 := hg2 (3 * i + 1) (by omega)
        have h2 := hg2 (3 * i + 2) (by omega)
        omega
      obtain ⟨I1, R1, P1, ⟨t1, t2, ⟨t3, t4, t5, t6⟩, t7, t8, t9⟩, e13⟩ := c13 (d := d) g (I := I) hi4 gx (hr := nI hr) q2 hR C0 ik q1
      have HN1 : HO (mI h 119) (nI hr) gn qs I0 R0 (i + 1) I1 R1 := by
        refine ⟨fun b j b1 b2 => ?_, fun m hm j hj => ?_, fun m hm j hj => ?_, fun c => ?_, fun b j hb => ?_, fun m hm => ?_⟩
        · have := b2 i (by omega)
          rw [t1 b j this.1 b1 this.2, u2_ap, if_neg (by omega)]
          exact H1 b j b1 (fun m hm => b2 m (by omega))
        · by_cases z : m = i
          · subst z
            rw [t2 j (by omega), u2_ap, if_neg (by omega)]
            exact H1 _ j (by omega) (fun m hm => by omega)
          · rw [t1 _ j (by omega) (by omega) (by omega), u2_ap, if_neg (by omega)]
            exact H2 m (by omega) j hj
        · by_cases z : m = i
          · subst z
            have h1 := fun j => H1 (17 + 18 * m) j (by omega) (fun m hm => by omega)
            unfold acD
            rw [if_neg b]
            rcases (show j = 0 ∨ j = 1 ∨ j = 2 ∨ j = 3 ∨ j = 4 ∨ j = 5 by omega) with y | y | y | y | y | y <;> subst y
            · rw [t2 9 (by omega), u2_ap, if_pos ⟨rfl, rfl⟩, h1]; rfl
            · rw [t3, u2_ap, if_neg (by omega), h1]; rfl
            · rw [t4, u2_ap, if_neg (by omega), h1]; rfl
            · rw [t5, u2_ap, if_neg (by omega), h1]; rfl
            · rw [t6, u2_ap, if_neg (by omega), h1]; rfl
            · rw [t2 14 (by omega), u2_ap, if_neg (by omega), h1]; exact (nI_z _).symm
          · rw [t1 _ _ (by omega) (by omega) (by omega), u2_ap, if_neg (by omega)]
            exact H3 m (by omega) j hj
        · rw [t7 c, u2_ap, if_neg (by omega), H4 c, nI_sum]
          rfl
        · have := hb i (by omega)
          rw [t8 b j this]
          exact H5 b j (fun m hm => hb m (by omega))
        · by_cases z : m = i
          · subst z
            rw [if_pos (by omega)]
            exact ⟨P1, t9⟩
          · obtain ⟨P, C⟩ := H6 m hm
            refine ⟨P, ?_⟩
            have C' : CS I1 R1 m (if m < i then (gvQ (gbN gn m) (qs m)).1 else qs m) P := by
              refine CS_congr ?_ ?_ (fun b j z1 z2 => ?_) (fun j => t8 _ j (by omega)) C
              · have l := (gvQ_ok (qs m) (gbN gn m) (hq m hm).1).2
                have := (hq m hm).2.1
                split <;> omega
              · rw [t1 _ _ (by omega) (by omega) (by omega), u2_ap, if_neg (by omega)]
              · rw [t1 _ _ (by omega) (by omega) (by omega), u2_ap, if_neg (by omega)]
            by_cases y : m < i
            · rw [if_pos y] at C'
              rw [if_pos (by omega)]
              exact C'
            · rw [if_neg y] at C'
              rw [if_neg (by omega)]
              exact C'
      have e2 : nfS (mI h 119) gn i = gbN gn i := if_neg b
      obtain ⟨I', R', HF, e'⟩ := loop74 (d := d) q g hR0 hI0 hg hg2 hh hq k (i + 1) _ _ (some (.ref (17 + 18 * i))) (some (.int (nI (gbN gn i)))) (by omega) HN1 rfl
      refine ⟨I', R', HF, ?_⟩
      rw [e1, e2] at e'
      rw [e_74_4]
      simp only [e_74_0, e_74_1, e_74_2, e_74_3, e_74_5, e_74_6, e_74_9, e_74_12, e_74_15, e_74_16, e_74_19, e_74_22, e_74_23, e_74_24, e_74_25, e_74_26, e_74_29, e_74_30, e_74_33, e_74_34r, e_74_34i, e_74_35, e_74_38, e_74_39, e_74_42, e_74_43, e_74_46, e_74_47, e_74_50, e_74_53, e_74_54, e_74_57, e_74_58, e_74_61, e_74_63, e_74_64, e_74_66, e_74_67, e_74_70, e_74_71, e_74_74, e_74_77, e_74_78, e_74_80, e_74_81, e_74_82, e_74_85, e_74_88, e_74_89, cV_some, tl_some, tl_none, mZO_0, mZO_1, mL1_n, mL1_i, mL1_r, oB_some, List.cons_append, List.nil_append, mK_wI, mL_wI, mN_wI, mR_wI, mJ_wI, mK_wJ, mL_wJ, mI_wJ, mR_wJ, mK_wR, mL_wR, mI_wR, mJ_wR, bI_0, bI_n0, if_true, if_false, Nat.reduceLeDiff, Nat.reduceAdd, ite_not, reduceIte, not_false_eq_true, not_true_eq_false, true_and, and_true, and_self, or_false, false_or, or_true, true_or, Nat.reduceEqDiff, Nat.reduceLT, Nat.zero_le, Nat.add_zero, eq_self, false_and, and_false, mc_, mc_i, mc_r, mc_l, mc_ii, mc_ir, mc_il, mc_ri, mc_rr, mc_rl, mc_li, mc_lr, mc_ll, mc_iii, mc_iir, mc_iil, mc_iri, mc_irr, mc_irl, mc_ili, mc_ilr, mc_ill, mc_rii, mc_rir, mc_ril, mc_rri, mc_rrr, mc_rrl, mc_rli, mc_rlr, mc_rll, mc_lii, mc_lir, mc_lil, mc_lri, mc_lrr, mc_lrl, mc_lli, mc_llr, mc_lll, mc_iiii, mc_iiir, mc_iiri, mc_iirr, mc_irii, mc_irir, mc_irri, mc_irrr, mc_riii, mc_riir, mc_riri, mc_rirr, mc_rrii, mc_rrir, mc_rrri, mc_rrrr, mc_iiiii, mc_iiiir, mc_iiiri, mc_iiirr, mc_iirii, mc_iirir, mc_iirri, mc_iirrr, mc_iriii, mc_iriir, mc_iriri, mc_irirr, mc_irrii, mc_irrir, mc_irrri, mc_irrrr, mc_riiii, mc_riiir, mc_riiri, mc_riirr, mc_ririi, mc_ririr, mc_rirri, mc_rirrr, mc_rriii, mc_rriir, mc_rriri, mc_rrirr, mc_rrrii, mc_rrrir, mc_rrrri, mc_rrrrr, mK_wA, mL_wA, gK_1 g, gR_1_1 gA, gR_1_2 gA, gR_1_5 gA, gK_4 g, gR_4_2 gA, gK_7 g, gL_7 g, gR_mill gA hi4, gK_mill g hi4, gK_89 g, mI_wA, wI_wA, i46, hc, ixN hi4 (by omega), cl (show i < 2 ^ 31 by omega), ik, b, gb, i19, e13, nI_add, nI_1]
      exact e'
