-- hours that go by in the landed file
theorem leadF_off {ah al at_ : Int32} {x y p : Nat} {w : Nat → Int32} (h1 : p ≠ x) (h2 : p ≠ y) : leadF ah al at_ x y w p = w p := by
  unfold leadF
  rw [upd_ap, if_neg h2, upd_ap, if_neg h1]
theorem hrC_off {h : mM} {np nc nm : Nat} {ca cb mp sc od : Nat → Nat} (q : PR h np nc nm ca cb mp sc od) {t r : Int32} {w f gr : Nat → Int32} {p : Nat} (hp : np ≤ p) : (hrC h np nc nm ca cb mp sc od t r w f gr).1 p = w p := by
  obtain ⟨_, _, _, _, _, q1, q2, q3⟩ := q
  unfold hrC
  refine foldN_inv (P := fun _ (s : S3) => s.1 p = w p) np _ ?_ (fun i y hi z => ?_)
  · refine foldN_inv (P := fun _ (s : S3) => s.1 p = w p) nm _ ?_ (fun i y hi z => ?_)
    · refine foldN_inv (P := fun _ (s : S3) => s.1 p = w p) 12 _ ?_ (fun i y hi z => z)
      refine foldN_inv (P := fun _ (s : S3) => s.1 p = w p) nc _ ?_ (fun i y hi z => ?_)
      · refine foldN_inv (P := fun _ (s : S3) => s.1 p = w p) np _ rfl (fun i y hi z => ?_)
        show upd y.1 i _ p = _
        rw [upd_ap, if_neg (by omega)]
        exact z
      · have c := q1 i hi
        show (ite _ _ (ite _ _ _) : Nat → Int32) p = _
        split
        · rw [leadF_off (by omega) (by omega)]; exact z
        · split
          · rw [leadF_off (by omega) (by omega)]; exact z
          · exact z
    · have m := q2 (od i) (q3 i hi).2
      show (mlS h nm mp sc od t r i y).1 p = _
      unfold mlS
      split
      · exact z
      · refine foldN_inv (P := fun _ (s : S3) => s.1 p = w p) _ _ z (fun j v hj zz => ?_)
        show (stS _ _ _ _ _ _ _ v).1 p = _
        unfold stS
        split
        · show upd v.1 (mp (od i)) _ p = _
          rw [upd_ap, if_neg (by omega)]
          exact zz
        · exact zz
  · show (spS _ _ i y).1 p = _
    unfold spS
    split
    · exact z
    · show upd y.1 i _ p = _
      rw [upd_ap, if_neg (by omega)]
      exact z
theorem goBy2 {d : Nat} {h : mM} {a F GA : Nat} (q : CF h) (fw : FW h a F GA) {t rn : Nat} {r : Int32} (ht : t ≤ 200) (hr : RS r rn) {w : Nat → Nat} (hw : WB (cfg h) w) (hw2 : ∀ p, p < cfg h 0 0 → mI h a p = nI (w p)) : ∃ σ, RC (cfg h) (HN (cfg h) t rn w) σ ∧ (∀ p, cfg h 0 0 ≤ p → σ.1 p = mI h a p) ∧ ev (d + 4) 2 0 [some (.ref F), some (.ref a), some (.int (nI t)), some (.int r)] [] h = some (none, wX h a F GA σ) := by
  have e := c2 (d := d) fw q.PR (t := nI t) (r := r) (mI h a, mI h F, mI h GA)
  rw [wX_self] at e
  exact ⟨_, hr_rep q ht hr hw hw2, fun p hp => hrC_off q.PR hp, e⟩
theorem goBy {d : Nat} {h : mM} {a F GA : Nat} (q : CF h) (fw : FW h a F GA) {t rn : Nat} {r : Int32} (ht : t ≤ 200) (hr : RS r rn) {w : Nat → Nat} (hw : WB (cfg h) w) (hw2 : ∀ p, p < cfg h 0 0 → mI h a p = nI (w p)) : ∃ σ, RC (cfg h) (HN (cfg h) t rn w) σ ∧ ev (d + 4) 2 0 [some (.ref F), some (.ref a), some (.int (nI t)), some (.int r)] [] h = some (none, wX h a F GA σ) := by
  have e := c2 (d := d) fw q.PR (t := nI t) (r := r) (mI h a, mI h F, mI h GA)
  rw [wX_self] at e
  exact ⟨_, hr_rep q ht hr hw hw2, e⟩
def xI (I : Nat → Nat → Int32) (a F GA : Nat) (σ : S3) : Nat → Nat → Int32 := fun b j => if b = GA then σ.2.2 j else if b = F then σ.2.1 j else if b = a then σ.1 j else I b j
theorem wX_wA {h : mM} {I : Nat → Nat → Int32} {R : Nat → Nat → Option Nat} {a F GA : Nat} {σ : S3} : wX (wA h I R) a F GA σ = wA h (xI I a F GA σ) R := rfl
theorem xI_ap {I : Nat → Nat → Int32} {a F GA b j : Nat} {σ : S3} : xI I a F GA σ b j = if b = GA then σ.2.2 j else if b = F then σ.2.1 j else if b = a then σ.1 j else I b j := rfl
/-- cells that hours leave alone -/
def UT (b j : Nat) : Prop := b ≠ 89 ∧ b ≠ 90 ∧ b ≠ 104 ∧ b ≠ 105 ∧ (b = 1 → j ≠ 9 ∧ ¬ (11 ≤ j ∧ j ≤ 14)) ∧ ∀ m, m < 4 → ¬ (23 + 18 * m ≤ b ∧ b < 35 + 18 * m) ∧ (b = 17 + 18 * m → j < 8)
theorem ST_UT {b j : Nat} (h : ST b j) : UT b j := by
  rcases h with e | e | e | ⟨m, hm, e, hj⟩ | ⟨m, s, hm, hs, e⟩ | e | e | ⟨e, _⟩
  all_goals refine ⟨by omega, by omega, by omega, by omega, fun _ => by omega, fun m' hm' => ⟨by omega, fun _ => by omega⟩⟩
/-- what the class's hours ask -/
def CH (h : mM) (rd hr : Nat) : Prop := MH h rd hr ∧ mI h 2 1 = nI rd ∧ (∀ j, j < 24 → mI h 3 j = mI h 110 j)
theorem CH.td {h : mM} {rd hr : Nat} (q : CH h rd hr) (x : Nat) : mI h 3 (x % rd) = nI (TD h rd x) := by
  have := Nat.mod_lt x q.1.2.2.1.2.1
  have := q.1.2.2.1.2.2
  rw [q.2.2 _ (by omega)]
  exact (q.1.td x).1
theorem at31 {d : Nat} {h : mM} {rd hr : Nat} (q : CH h rd hr) {I : Nat → Nat → Int32} {R : Nat → Nat → Option Nat} (hR : RG h R) (hI : ∀ j, I 2 j = mI h 2 j ∧ I 3 j = mI h 3 j) {x : Nat} (hx : x < 2 ^ 31) : ev d 31 0 [some (.ref 2), some (.int (nI x))] [] (wA h I R) = some (some (.int (nI (TD h rd x))), wA h I R) := by
  have e := c31 (d := d) (h := wA h I R) (G.wA q.1.2.1 hR) (t := x) (r := rd) (by show I 2 1 = _; rw [(hI 1).1]; exact q.2.1) q.1.2.2.1.2.1 q.1.2.2.1.2.2 hx
  rw [show mI (wA h I R) 3 (x % rd) = nI (TD h rd x) by show I 3 _ = _; rw [(hI _).2]; exact q.td x] at e
  exact e
def RCH (h : mM) (hr : Nat) (X : HT) (I : Nat → Nat → Int32) (R : Nat → Nat → Option Nat) : Prop := ((∀ p, p < cfg h 0 0 → I 104 p = nI (X.1 p)) ∧ ∀ p, cfg h 0 0 ≤ p → I 104 p = mI h 104 p) ∧ (∀ b j, UT b j → I b j = mI h b j) ∧ I 1 9 = nI hr ∧ (∀ j, j < 4 → I 1 (11 + j) = mI h 1 (11 + j) + nI (X.2.2.2.2.1 j)) ∧ (∀ m, m < 4 → ∀ j, j < 6 → I (17 + 18 * m) (9 + j) = mI h (17 + 18 * m) (9 + j) + nI (X.2.2.1 m j)) ∧ (∀ c, I 105 c = mI h 105 c + nI (X.2.2.2.1 c)) ∧ (∀ m, m < 4 → ∃ P, CS I R m (X.2.1 m) P) ∧ RG h R
def cntI (I : Nat → Nat → Int32) : Nat → Nat → Int32 := u2 (u2 (u2 (u2 I 1 11 (I 1 11 + I 89 2)) 1 12 (I 1 12 + I 89 3)) 1 13 (I 1 13 + I 89 4)) 1 14 (I 1 14 + I 89 5)
theorem c73 {d : Nat} {h : mM} (g : G h) {I : Nat → Nat → Int32} {R : Nat → Nat → Option Nat} (hR : RG h R) : ev d 73 0 [some (.ref 1)] [] (wA h I R) = some (none, wA h (cntI I) R) := by
  have gA := G.wA g (I := I) hR
  unfold cntI
  have n1 : ¬ (89 : Nat) = 1 := by decide
  simp only [e_73_0, e_73_1r, e_73_1i, e_73_2, e_73_5, e_73_6, e_73_9, e_73_12, e_73_13, e_73_16, e_73_17r, e_73_17i, e_73_18, e_73_21, e_73_22, e_73_25, e_73_28, e_73_29, e_73_32, e_73_33r, e_73_33i, e_73_34, e_73_37, e_73_38, e_73_41, e_73_44, e_73_45, e_73_48, e_73_49r, e_73_49i, e_73_50, e_73_53, e_73_54, e_73_57, e_73_60, e_73_61, e_73_64, cV_some, tl_some, tl_none, mZO_0, mZO_1, mL1_n, mL1_i, mL1_r, oB_some, List.cons_append, List.nil_append, mK_wI, mL_wI, mN_wI, mR_wI, mJ_wI, mK_wJ, mL_wJ, mI_wJ, mR_wJ, mK_wR, mL_wR, mI_wR, mJ_wR, bI_0, bI_n0, if_true, if_false, Nat.reduceLeDiff, Nat.reduceAdd, ite_not, reduceIte, not_false_eq_true, not_true_eq_false, true_and, and_true, and_self, or_false, false_or, or_true, true_or, Nat.reduceEqDiff, Nat.reduceLT, Nat.zero_le, Nat.add_zero, eq_self, false_and, and_false, mc_, mc_i, mc_r, mc_l, mc_ii, mc_ir, mc_il, mc_ri, mc_rr, mc_rl, mc_li, mc_lr, mc_ll, mc_iii, mc_iir, mc_iil, mc_iri, mc_irr, mc_irl, mc_ili, mc_ilr, mc_ill, mc_rii, mc_rir, mc_ril, mc_rri, mc_rrr, mc_rrl, mc_rli, mc_rlr, mc_rll, mc_lii, mc_lir, mc_lil, mc_lri, mc_lrr, mc_lrl, mc_lli, mc_llr, mc_lll, mc_iiii, mc_iiir, mc_iiri, mc_iirr, mc_irii, mc_irir, mc_irri, mc_irrr, mc_riii, mc_riir, mc_riri, mc_rirr, mc_rrii, mc_rrir, mc_rrri, mc_rrrr, mc_iiiii, mc_iiiir, mc_iiiri, mc_iiirr, mc_iirii, mc_iirir, mc_iirri, mc_iirrr, mc_iriii, mc_iriir, mc_iriri, mc_irirr, mc_irrii, mc_irrir, mc_irrri, mc_irrrr, mc_riiii, mc_riiir, mc_riiri, mc_riirr, mc_ririi, mc_ririr, mc_rirri, mc_rirrr, mc_rriii, mc_rriir, mc_rriri, mc_rrirr, mc_rrrii, mc_rrrir, mc_rrrri, mc_rrrrr, mK_wA, mI_wA, wI_wA, u2_ap, gK_1 g, gK_89 g, gR_1_2 gA, mR_wA, show R 1 2 = some 89 from gR_1_2 gA, n1]
theorem sumN_zero {f : Nat → Nat} {a : Nat} : ∀ (b : Nat), a ≤ b → (∀ i, a ≤ i → i < b → f i = 0) → sumN f b = sumN f a
  | 0, h, _ => by
    have : a = 0 := by omega
    subst this
    rfl
  | b + 1, h, hz => by
    by_cases e : a = b + 1
    · subst e; rfl
    · show sumN f b + f b = _
      rw [sumN_zero b (by omega) (fun i h1 h2 => hz i h1 (by omega)), hz b (by omega) (by omega), Nat.add_zero]
theorem acD_0 {kd hr : Int32} {q : List Sk} {j : Nat} : acD kd hr 0 0 q j = 0 := by
  unfold acD
  rw [gvQ_0]
  repeat' split
  all_goals rfl
theorem hour55 {d : Nat} {h : mM} {rd hr0 : Nat} (q : CH h rd hr0) {X : HT} {x : Nat} (hx : x < 2 ^ 31) {I : Nat → Nat → Int32} {R : Nat → Nat → Option Nat} (r : RCH h x X I R) (hw : WB (cfg h) X.1) (hq : QS (mI h 119) 4 X.2.1) : ∃ I1 I2 R2, RG h R ∧ ev (d + 4) 2 0 [some (.ref 89), some (.ref 104), some (.int (nI (TD h rd x))), some (.int (-1))] [] (wA h I R) = some (none, wA h I1 R) ∧ ev (d + 4) 74 0 [some (.ref 1), none, none, none, none] [] (wA h (cntI I1) R) = some (some (.int (nI (sumN (nfS (mI h 119) (HN (cfg h) (TD h rd x) 4 X.1).2.2) (cfg h 0 2)))), wA h I2 R2) ∧ I2 1 9 = nI x ∧ RG h R2 ∧ RCH h (x + 1) (hS (cfg h) (mI h 119) (TD h rd) x X) (u2 I2 1 9 (nI (x + 1))) R2 := by
  obtain ⟨⟨r1, r1o⟩, r2, r3, r4, r5, r6, r7, r8⟩ := r
  have g := q.1.2.1
  have cf := q.1.1
  have n4 := cf.1.1
  have gA := G.wA g (I := I) r8
  have hs : ∀ b j, ST b j → mI (wA h I R) b j = mI h b j := fun b j z => r2 b j (ST_UT z)
  have ec := cfg_congr hs
  have cfA := CF_congr hs cf
  have td := (q.1.td x).2
  have fw : FW (wA h I R) 104 89 90 := ⟨gA, gK_104 gA, gL_104 gA, gK_89 gA, gR_89_0 gA, gR_89_1 gA, gK_90 gA, gL_90 gA, by decide, by decide, by decide⟩
  obtain ⟨σ, RCs, so, e2⟩ := goBy2 (d := d) cfA fw (t := TD h rd x) td RS_none (w := X.1) (by rw [ec]; exact hw) (by rw [ec]; exact r1)
  rw [ec] at RCs so
  rw [wX_wA] at e2
  have ok := HN_ok cf.1 (r := 4) td hw
  have hz := fun i => HN_zero cf.1 (r := 4) (i := i) td hw
  generalize hn : HN (cfg h) (TD h rd x) 4 X.1 = n at RCs ok hz ⊢
  obtain ⟨s1, s2, s3⟩ := RCs
  have cw : ∀ b j, cntI (xI I 104 89 90 σ) b j = if b = 1 ∧ 11 ≤ j ∧ j ≤ 14 then I 1 j + nI (n.2.1 (j - 11)) else xI I 104 89 90 σ b j := by
    intro b j
    have z1 : ∀ j, xI I 104 89 90 σ 1 j = I 1 j := fun _ => rfl
    have z2 : ∀ j, j < 4 → xI I 104 89 90 σ 89 (2 + j) = nI (n.2.1 j) := fun j hj => s2 j hj
    unfold cntI
    rw [z1, z1, z1, z1, show xI I 104 89 90 σ 89 2 = nI (n.2.1 0) from z2 0 (by omega), show xI I 104 89 90 σ 89 3 = nI (n.2.1 1) from z2 1 (by omega), show xI I 104 89 90 σ 89 4 = nI (n.2.1 2) from z2 2 (by omega), show xI I 104 89 90 σ 89 5 = nI (n.2.1 3) from z2 3 (by omega)]
    simp only [u2_ap]
    by_cases y : b = 1 ∧ 11 ≤ j ∧ j ≤ 14
    · rw [if_pos y]
      obtain ⟨y1, y2, y3⟩ := y
      subst y1
      rcases (show j = 11 ∨ j = 12 ∨ j = 13 ∨ j = 14 by omega) with e | e | e | e <;> subst e <;> rfl
    · rw [if_neg y, if_neg (by omega), if_neg (by omega), if_neg (by omega), if_neg (by omega)]
  have st2 : ∀ b j, ST b j → cntI (xI I 104 89 90 σ) b j = mI h b j := fun b j z => by
    have u := ST_UT z
    obtain ⟨u1, u2', u3, u4, u5, u6⟩ := u
    rw [cw, if_neg (fun y => (u5 y.1).2 y.2), xI_ap, if_neg u2', if_neg u1, if_neg u3]
    exact r2 b j (ST_UT z)
  have h90 : ∀ i, i < 12 → cntI (xI I 104 89 90 σ) 90 i = nI (n.2.2 i) := fun i hi => by
    rw [cw, if_neg (by omega)]
    exact s3 i hi
  have h19 : cntI (xI I 104 89 90 σ) 1 9 = nI x := by
    rw [cw, if_neg (by omega)]
    exact r3
  have hC : ∀ m, m < 4 → ∃ P, CS (cntI (xI I 104 89 90 σ)) R m (X.2.1 m) P := fun m hm => by
    obtain ⟨P, C⟩ := r7 m hm
    refine ⟨P, CS_congr (hq m hm).2.1 ?_ (fun b j z1 z2 => ?_) (fun _ => rfl) C⟩
    · rw [cw, if_neg (by omega), xI_ap, if_neg (by omega), if_neg (by omega), if_neg (by omega)]
    · rw [cw, if_neg (by omega), xI_ap, if_neg (by omega), if_neg (by omega), if_neg (by omega)]
  have HO0 : HO (mI h 119) (nI x) n.2.2 X.2.1 (cntI (xI I 104 89 90 σ)) R 0 (cntI (xI I 104 89 90 σ)) R := ⟨fun _ _ _ _ => rfl, fun m hm => by omega, fun m hm => by omega, fun c => (nI_z _).symm, fun _ _ _ => rfl, fun m hm => by rw [if_neg (by omega)]; exact hC m hm⟩
  obtain ⟨I2, R2, ⟨a1, a2, a3, a4, a5, a6⟩, e74⟩ := loop74 (d := d) cf g (gn := n.2.2) (qs := X.2.1) (hr := x) r8 st2 h90 (fun i _ => ok.2.2 i) h19 hq (cfg h 0 2) 0 _ _ none none (by omega) HO0 rfl
  have gb0 : ∀ m, cfg h 0 2 ≤ m → gbN n.2.2 m = 0 ∧ rcN n.2.2 m = 0 := fun m hm => by
    unfold gbN rcN
    rw [hz (3 * m) (by omega), hz (3 * m + 1) (by omega), hz (3 * m + 2) (by omega)]
    exact ⟨rfl, rfl⟩
  have hRG2 : RG h R2 := fun b j hb => by rw [a5 b j (fun m hm => hb m (by omega))]; exact r8 b j hb
  have i1 : ∀ j, I2 1 j = cntI (xI I 104 89 90 σ) 1 j := fun j => a1 1 j (by omega) (fun m hm => by omega)
  refine ⟨xI I 104 89 90 σ, I2, R2, r8, e2, ?_, ?_, hRG2, ?_⟩
  · rw [nI_0] at e74
    simp only [e_74_0, e_74_1, e_74_2, e_74_3, e_74_5, e_74_6, e_74_9, e_74_12, e_74_15, e_74_16, e_74_19, e_74_22, e_74_23, e_74_24, e_74_25, e_74_26, e_74_29, e_74_30, e_74_33, e_74_34r, e_74_34i, e_74_35, e_74_38, e_74_39, e_74_42, e_74_43, e_74_46, e_74_47, e_74_50, e_74_53, e_74_54, e_74_57, e_74_58, e_74_61, e_74_63, e_74_64, e_74_66, e_74_67, e_74_70, e_74_71, e_74_74, e_74_77, e_74_78, e_74_80, e_74_81, e_74_82, e_74_85, e_74_88, e_74_89, cV_some, tl_some, tl_none, mZO_0, mZO_1, mL1_n, mL1_i, mL1_r, oB_some, List.cons_append, List.nil_append, mK_wI, mL_wI, mN_wI, mR_wI, mJ_wI, mK_wJ, mL_wJ, mI_wJ, mR_wJ, mK_wR, mL_wR, mI_wR, mJ_wR, bI_0, bI_n0, if_true, if_false, Nat.reduceLeDiff, Nat.reduceAdd, ite_not, reduceIte, not_false_eq_true, not_true_eq_false, true_and, and_true, and_self, or_false, false_or, or_true, true_or, Nat.reduceEqDiff, Nat.reduceLT, Nat.zero_le, Nat.add_zero, eq_self, false_and, and_false, mc_, mc_i, mc_r, mc_l, mc_ii, mc_ir, mc_il, mc_ri, mc_rr, mc_rl, mc_li, mc_lr, mc_ll, mc_iii, mc_iir, mc_iil, mc_iri, mc_irr, mc_irl, mc_ili, mc_ilr, mc_ill, mc_rii, mc_rir, mc_ril, mc_rri, mc_rrr, mc_rrl, mc_rli, mc_rlr, mc_rll, mc_lii, mc_lir, mc_lil, mc_lri, mc_lrr, mc_lrl, mc_lli, mc_llr, mc_lll, mc_iiii, mc_iiir, mc_iiri, mc_iirr, mc_irii, mc_irir, mc_irri, mc_irrr, mc_riii, mc_riir, mc_riri, mc_rirr, mc_rrii, mc_rrir, mc_rrri, mc_rrrr, mc_iiiii, mc_iiiir, mc_iiiri, mc_iiirr, mc_iirii, mc_iirir, mc_iirri, mc_iirrr, mc_iriii, mc_iriir, mc_iriri, mc_irirr, mc_irrii, mc_irrir, mc_irrri, mc_irrrr, mc_riiii, mc_riiir, mc_riiri, mc_riirr, mc_ririi, mc_ririr, mc_rirri, mc_rirrr, mc_rriii, mc_rriir, mc_rriri, mc_rrirr, mc_rrrii, mc_rrrir, mc_rrrri, mc_rrrrr]
    exact e74
  · rw [i1]; exact h19
  · have eX : hS (cfg h) (mI h 119) (TD h rd) x X = hS1 (mI h 119) (cfg h 0 2) x n X := by unfold hS; rw [hn]
    rw [eX]
    refine ⟨⟨fun p hp => ?_, fun p hp => ?_⟩, fun b j u => ?_, ?_, fun j hj => ?_, fun m hm j hj => ?_, fun c => ?_, fun m hm => ?_, hRG2⟩
    · rw [u2_ap, if_neg (by omega), a1 104 p (by omega) (fun m hm => by omega), cw, if_neg (by omega)]
      exact s1 p hp
    · rw [u2_ap, if_neg (by omega), a1 104 p (by omega) (fun m hm => by omega), cw, if_neg (by omega)]
      exact (so p hp).trans (r1o p hp)
    · obtain ⟨u1, u2', u3, u4, u5, u6⟩ := u
      by_cases y : ∃ m, m < cfg h 0 2 ∧ b = 17 + 18 * m
      · obtain ⟨m, hm, e⟩ := y
        subst e
        rw [u2_ap, if_neg (by omega), a2 m hm j ((u6 m (by omega)).2 rfl)]
        exact st2 _ _ (ST_m (by omega) ((u6 m (by omega)).2 rfl))
      · rw [u2_ap, if_neg (fun z => (u5 z.1).1 z.2), a1 b j u4 (fun m hm => ⟨fun e => y ⟨m, hm, e⟩, (u6 m (by omega)).1⟩), cw, if_neg (fun y => (u5 y.1).2 y.2), xI_ap, if_neg u2', if_neg u1, if_neg u3]
        exact r2 b j ⟨u1, u2', u3, u4, u5, u6⟩
    · rw [u2_ap, if_pos ⟨rfl, rfl⟩]
    · rw [u2_ap, if_neg (by omega), i1, cw, if_pos (by omega), r4 j hj, nI_sum, show 11 + j - 11 = j by omega]
      rfl
    · rw [u2_ap, if_neg (by omega)]
      show _ = _ + nI (X.2.2.1 m j + acD (mI h 119 m) (nI x) (gbN n.2.2 m) (rcN n.2.2 m) (X.2.1 m) j)
      have base : cntI (xI I 104 89 90 σ) (17 + 18 * m) (9 + j) = mI h (17 + 18 * m) (9 + j) + nI (X.2.2.1 m j) := by
        rw [cw, if_neg (by omega), xI_ap, if_neg (by omega), if_neg (by omega), if_neg (by omega)]
        exact r5 m hm j hj
      by_cases y : m < cfg h 0 2
      · rw [a3 m y j hj, base, nI_sum]
      · rw [a1 _ _ (by omega) (fun m' hm' => by omega), base, (gb0 m (by omega)).1, (gb0 m (by omega)).2, acD_0, Nat.add_zero]
    · rw [u2_ap, if_neg (by omega), a4 c, cw, if_neg (by omega), xI_ap, if_neg (by omega), if_neg (by omega), if_neg (by omega), r6 c, nI_sum]
      show _ = _ + nI (X.2.2.2.1 c + sumN (flD (mI h 119) n.2.2 X.2.1 c) 4)
      rw [sumN_zero (a := cfg h 0 2) 4 (by omega) (fun i z1 _ => by unfold flD; rw [(gb0 i z1).1, gvQ_0]; rfl)]
    · obtain ⟨P, C⟩ := a6 m hm
      refine ⟨P, ?_⟩
      show CS _ _ m (gvQ (gbN n.2.2 m) (X.2.1 m)).1 P
      have : (if m < cfg h 0 2 then (gvQ (gbN n.2.2 m) (X.2.1 m)).1 else X.2.1 m) = (gvQ (gbN n.2.2 m) (X.2.1 m)).1 := by
        by_cases y : m < cfg h 0 2
        · rw [if_pos y]
        · rw [if_neg y, (gb0 m (by omega)).1, gvQ_0]
      rw [this] at C
      refine CS_congr (Nat.le_trans (gvQ_ok _ _ (hq m hm).1).2 (hq m hm).2.1) ?_ (fun b j z1 z2 => ?_) (fun _ => rfl) C
      · rw [u2_ap, if_neg (by omega)]
      · rw [u2_ap, if_neg (by omega)]
theorem loop55 {d : Nat} {h : mM} {rd hr : Nat} (q : CH h rd hr) {X : HT} (hw : WB (cfg h) X.1) (hq : QS (mI h 119) 4 X.2.1) {n : Nat} (hn : n ≤ 100) : ∀ (k i : Nat) (I : Nat → Nat → Int32) (R : Nat → Nat → Option Nat), i + k = n → RCH h (hr + i) (hI (cfg h) (mI h 119) (TD h rd) hr X i) I R → ∃ I' R', RCH h (hr + n) (hI (cfg h) (mI h 119) (TD h rd) hr X n) I' R' ∧ ev (d + 5) 55 38 [some (.ref 1), some (.int (nI n)), some (.int (nI (hI (cfg h) (mI h 119) (TD h rd) hr X i).2.2.2.2.2)), some (.int (nI i))] [] (wA h I R) = some (some (.int (nI (hI (cfg h) (mI h 119) (TD h rd) hr X n).2.2.2.2.2)), wA h I' R')
  | 0, i, I, R, hk, r => by
    have e : i = n := by omega
    subst e
    refine ⟨I, R, r, ?_⟩
    rw [e_55_38]
    simp only [e_55_0, e_55_1, e_55_2, e_55_4, e_55_7, e_55_10, e_55_11, e_55_12, e_55_15, e_55_16, e_55_17, e_55_20, e_55_21, e_55_22, e_55_25, e_55_28, e_55_29, e_55_30, e_55_33, e_55_34, e_55_35, e_55_36, e_55_37, e_55_39, e_55_40, e_55_43, e_55_44, e_55_47, e_55_48, e_55_51, e_55_52, e_55_55, e_55_56, e_55_59, e_55_62, e_55_63, e_55_66, e_55_67, e_55_70, e_55_71, e_55_72, e_55_75, e_55_76, e_55_77, e_55_78r, e_55_78i, e_55_79, e_55_82, e_55_83, e_55_84, e_55_87, e_55_90, e_55_93, e_55_94, cV_some, tl_some, tl_none, mZO_0, mZO_1, mL1_n, mL1_i, mL1_r, oB_some, List.cons_append, List.nil_append, mK_wI, mL_wI, mN_wI, mR_wI, mJ_wI, mK_wJ, mL_wJ, mI_wJ, mR_wJ, mK_wR, mL_wR, mI_wR, mJ_wR, bI_0, bI_n0, if_true, if_false, Nat.reduceLeDiff, Nat.reduceAdd, ite_not, reduceIte, not_false_eq_true, not_true_eq_false, true_and, and_true, and_self, or_false, false_or, or_true, true_or, Nat.reduceEqDiff, Nat.reduceLT, Nat.zero_le, Nat.add_zero, eq_self, false_and, and_false, mc_, mc_i, mc_r, mc_l, mc_ii, mc_ir, mc_il, mc_ri, mc_rr, mc_rl, mc_li, mc_lr, mc_ll, mc_iii, mc_iir, mc_iil, mc_iri, mc_irr, mc_irl, mc_ili, mc_ilr, mc_ill, mc_rii, mc_rir, mc_ril, mc_rri, mc_rrr, mc_rrl, mc_rli, mc_rlr, mc_rll, mc_lii, mc_lir, mc_lil, mc_lri, mc_lrr, mc_lrl, mc_lli, mc_llr, mc_lll, mc_iiii, mc_iiir, mc_iiri, mc_iirr, mc_irii, mc_irir, mc_irri, mc_irrr, mc_riii, mc_riir, mc_riri, mc_rirr, mc_rrii, mc_rrir, mc_rrri, mc_rrrr, mc_iiiii, mc_iiiir, mc_iiiri, mc_iiirr, mc_iirii, mc_iirir, mc_iirri, mc_iirrr, mc_iriii, mc_iriir, mc_iriri, mc_irirr, mc_irrii, mc_irrir, mc_irrri, mc_irrrr, mc_riiii, mc_riiir, mc_riiri, mc_riirr, mc_ririi, mc_ririr, mc_rirri, mc_rirrr, mc_rriii, mc_rriir, mc_rriri, mc_rrirr, mc_rrrii, mc_rrrir, mc_rrrri, mc_rrrrr, le_self32]
  | k + 1, i, I, R, hk, r => by
    have g := q.1.2.1
    have hc : ¬ nI n ≤ nI i := nI_ge (by omega) (by omega)
    have h10 := q.1.2.2.2.1.2
    have ok := hI_ok q.1 (kd := mI h 119) hw hq i
    have gA := G.wA g (I := I) r.2.2.2.2.2.2.2
    have i19 : I 1 9 = nI (hr + i) := r.2.2.1
    have t31 := at31 (d := d + 4) q r.2.2.2.2.2.2.2 (I := I) (fun j => ⟨r.2.1 2 j ⟨by omega, by omega, by omega, by omega, fun _ => by omega, fun m hm => ⟨by omega, fun _ => by omega⟩⟩, r.2.1 3 j ⟨by omega, by omega, by omega, by omega, fun _ => by omega, fun m hm => ⟨by omega, fun _ => by omega⟩⟩⟩) (x := hr + i) (by omega)
    obtain ⟨I1, I2, R2, hR, e2, e74, i29, hR2, r'⟩ := hour55 (d := d) q (x := hr + i) (by omega) r ok.1 ok.2
    obtain ⟨I', R', rF, eF⟩ := loop55 (d := d) q hw hq hn k (i + 1) _ _ (by omega) r'
    have e73 := c73 (d := d + 4) g (I := I1) hR
    have gA2 := G.wA g (I := I2) hR2
    refine ⟨I', R', rF, ?_⟩
    rw [e_55_38]
    simp only [e_55_0, e_55_1, e_55_2, e_55_4, e_55_7, e_55_10, e_55_11, e_55_12, e_55_15, e_55_16, e_55_17, e_55_20, e_55_21, e_55_22, e_55_25, e_55_28, e_55_29, e_55_30, e_55_33, e_55_34, e_55_35, e_55_36, e_55_37, e_55_39, e_55_40, e_55_43, e_55_44, e_55_47, e_55_48, e_55_51, e_55_52, e_55_55, e_55_56, e_55_59, e_55_62, e_55_63, e_55_66, e_55_67, e_55_70, e_55_71, e_55_72, e_55_75, e_55_76, e_55_77, e_55_78r, e_55_78i, e_55_79, e_55_82, e_55_83, e_55_84, e_55_87, e_55_90, e_55_93, e_55_94, cV_some, tl_some, tl_none, mZO_0, mZO_1, mL1_n, mL1_i, mL1_r, oB_some, List.cons_append, List.nil_append, mK_wI, mL_wI, mN_wI, mR_wI, mJ_wI, mK_wJ, mL_wJ, mI_wJ, mR_wJ, mK_wR, mL_wR, mI_wR, mJ_wR, bI_0, bI_n0, if_true, if_false, Nat.reduceLeDiff, Nat.reduceAdd, ite_not, reduceIte, not_false_eq_true, not_true_eq_false, true_and, and_true, and_self, or_false, false_or, or_true, true_or, Nat.reduceEqDiff, Nat.reduceLT, Nat.zero_le, Nat.add_zero, eq_self, false_and, and_false, mc_, mc_i, mc_r, mc_l, mc_ii, mc_ir, mc_il, mc_ri, mc_rr, mc_rl, mc_li, mc_lr, mc_ll, mc_iii, mc_iir, mc_iil, mc_iri, mc_irr, mc_irl, mc_ili, mc_ilr, mc_ill, mc_rii, mc_rir, mc_ril, mc_rri, mc_rrr, mc_rrl, mc_rli, mc_rlr, mc_rll, mc_lii, mc_lir, mc_lil, mc_lri, mc_lrr, mc_lrl, mc_lli, mc_llr, mc_lll, mc_iiii, mc_iiir, mc_iiri, mc_iirr, mc_irii, mc_irir, mc_irri, mc_irrr, mc_riii, mc_riir, mc_riri, mc_rirr, mc_rrii, mc_rrir, mc_rrri, mc_rrrr, mc_iiiii, mc_iiiir, mc_iiiri, mc_iiirr, mc_iirii, mc_iirir, mc_iirri, mc_iirrr, mc_iriii, mc_iriir, mc_iriri, mc_irirr, mc_irrii, mc_irrir, mc_irrri, mc_irrrr, mc_riiii, mc_riiir, mc_riiri, mc_riirr, mc_ririi, mc_ririr, mc_rirri, mc_rirrr, mc_rriii, mc_rriir, mc_rriri, mc_rrirr, mc_rrrii, mc_rrrir, mc_rrrri, mc_rrrrr, mK_wA, mI_wA, wI_wA, gK_1 g, gK_89 g, gK_2 g, gR_1_0 gA, gR_1_2 gA, gR_1_4 gA, hc, i19, t31, e2, e73, e74, i29, nI_add, nI_1]
    exact eF
theorem RCH_0 {h : mM} {rd hr : Nat} (q : CH h rd hr) (hh : mI h 1 9 = nI hr) {w : Nat → Nat} {qs : Nat → List Sk} (hw2 : ∀ p, p < cfg h 0 0 → mI h 104 p = nI (w p)) (hQ : ∀ m, m < 4 → ∃ P, CS (mI h) (mR h) m (qs m) P) : RCH h hr (H0 w qs) (mI h) (mR h) := ⟨⟨hw2, fun _ _ => rfl⟩, fun _ _ _ => rfl, hh, fun j _ => (nI_z _).symm, fun m _ j _ => (nI_z _).symm, fun c => (nI_z _).symm, hQ, fun _ _ _ => rfl⟩
theorem c55_ok {d : Nat} {h : mM} {rd hr : Nat} (q : CH h rd hr) (hh : mI h 1 9 = nI hr) {w : Nat → Nat} {qs : Nat → List Sk} (hw : WB (cfg h) w) (hq : QS (mI h 119) 4 qs) (hw2 : ∀ p, p < cfg h 0 0 → mI h 104 p = nI (w p)) (hQ : ∀ m, m < 4 → ∃ P, CS (mI h) (mR h) m (qs m) P) {n : Nat} (h1 : 1 ≤ n) (hn : n ≤ 100) (hl : hr + n ≤ 10000) : ∃ I' R', RCH h (hr + n) (hI (cfg h) (mI h 119) (TD h rd) hr (H0 w qs) n) I' R' ∧ ev (d + 5) 55 0 [some (.ref 1), some (.int (nI n)), none, none] [] h = some (some (.int (nI (hI (cfg h) (mI h 119) (TD h rd) hr (H0 w qs) n).2.2.2.2.2)), wA h I' R') := by
  have g := q.1.2.1
  obtain ⟨I', R', r, e⟩ := loop55 (d := d) q (X := H0 w qs) hw hq hn n 0 (mI h) (mR h) (by omega) (RCH_0 q hh hw2 hQ)
  refine ⟨I', R', r, ?_⟩
  have r1 : ((1 : Int32) ≤ nI n ∧ nI n ≤ (100 : Int32)) = True := eq_true ⟨nI_le (a := 1) h1 (by omega), nI_le (b := 100) hn (by omega)⟩
  have r2 : nI (hr + n) ≤ (10000 : Int32) := nI_le (b := 10000) hl (by omega)
  simp only [e_55_0, e_55_1, e_55_2, e_55_4, e_55_7, e_55_10, e_55_11, e_55_12, e_55_15, e_55_16, e_55_17, e_55_20, e_55_21, e_55_22, e_55_25, e_55_28, e_55_29, e_55_30, e_55_33, e_55_34, e_55_35, e_55_36, e_55_37, e_55_39, e_55_40, e_55_43, e_55_44, e_55_47, e_55_48, e_55_51, e_55_52, e_55_55, e_55_56, e_55_59, e_55_62, e_55_63, e_55_66, e_55_67, e_55_70, e_55_71, e_55_72, e_55_75, e_55_76, e_55_77, e_55_78r, e_55_78i, e_55_79, e_55_82, e_55_83, e_55_84, e_55_87, e_55_90, e_55_93, e_55_94, cV_some, tl_some, tl_none, mZO_0, mZO_1, mL1_n, mL1_i, mL1_r, oB_some, List.cons_append, List.nil_append, mK_wI, mL_wI, mN_wI, mR_wI, mJ_wI, mK_wJ, mL_wJ, mI_wJ, mR_wJ, mK_wR, mL_wR, mI_wR, mJ_wR, bI_0, bI_n0, if_true, if_false, Nat.reduceLeDiff, Nat.reduceAdd, ite_not, reduceIte, not_false_eq_true, not_true_eq_false, true_and, and_true, and_self, or_false, false_or, or_true, true_or, Nat.reduceEqDiff, Nat.reduceLT, Nat.zero_le, Nat.add_zero, eq_self, false_and, and_false, mc_, mc_i, mc_r, mc_l, mc_ii, mc_ir, mc_il, mc_ri, mc_rr, mc_rl, mc_li, mc_lr, mc_ll, mc_iii, mc_iir, mc_iil, mc_iri, mc_irr, mc_irl, mc_ili, mc_ilr, mc_ill, mc_rii, mc_rir, mc_ril, mc_rri, mc_rrr, mc_rrl, mc_rli, mc_rlr, mc_rll, mc_lii, mc_lir, mc_lil, mc_lri, mc_lrr, mc_lrl, mc_lli, mc_llr, mc_lll, mc_iiii, mc_iiir, mc_iiri, mc_iirr, mc_irii, mc_irir, mc_irri, mc_irrr, mc_riii, mc_riir, mc_riri, mc_rirr, mc_rrii, mc_rrir, mc_rrri, mc_rrrr, mc_iiiii, mc_iiiir, mc_iiiri, mc_iiirr, mc_iirii, mc_iirir, mc_iirri, mc_iirrr, mc_iriii, mc_iriir, mc_iriri, mc_irirr, mc_irrii, mc_irrir, mc_irrri, mc_irrrr, mc_riiii, mc_riiir, mc_riiri, mc_riirr, mc_ririi, mc_ririr, mc_rirri, mc_rirrr, mc_rriii, mc_rriir, mc_rriri, mc_rrirr, mc_rrrii, mc_rrrir, mc_rrrri, mc_rrrrr, gK_1 g, c65, r1, hh, nI_add, r2]
  exact e
theorem c55_bad {d : Nat} {h : mM} (g : G h) {n : Int32} (hb : ¬ (1 ≤ n ∧ n ≤ 100)) : ev (d + 5) 55 0 [some (.ref 1), some (.int n), none, none] [] h = some (some (.int (-1000000001)), fC h 1) := by
  simp only [e_55_0, e_55_1, e_55_2, e_55_4, e_55_7, e_55_10, e_55_11, e_55_12, e_55_15, e_55_16, e_55_17, e_55_20, e_55_21, e_55_22, e_55_25, e_55_28, e_55_29, e_55_30, e_55_33, e_55_34, e_55_35, e_55_36, e_55_37, e_55_39, e_55_40, e_55_43, e_55_44, e_55_47, e_55_48, e_55_51, e_55_52, e_55_55, e_55_56, e_55_59, e_55_62, e_55_63, e_55_66, e_55_67, e_55_70, e_55_71, e_55_72, e_55_75, e_55_76, e_55_77, e_55_78r, e_55_78i, e_55_79, e_55_82, e_55_83, e_55_84, e_55_87, e_55_90, e_55_93, e_55_94, cV_some, tl_some, tl_none, mZO_0, mZO_1, mL1_n, mL1_i, mL1_r, oB_some, List.cons_append, List.nil_append, mK_wI, mL_wI, mN_wI, mR_wI, mJ_wI, mK_wJ, mL_wJ, mI_wJ, mR_wJ, mK_wR, mL_wR, mI_wR, mJ_wR, bI_0, bI_n0, if_true, if_false, Nat.reduceLeDiff, Nat.reduceAdd, ite_not, reduceIte, not_false_eq_true, not_true_eq_false, true_and, and_true, and_self, or_false, false_or, or_true, true_or, Nat.reduceEqDiff, Nat.reduceLT, Nat.zero_le, Nat.add_zero, eq_self, false_and, and_false, mc_, mc_i, mc_r, mc_l, mc_ii, mc_ir, mc_il, mc_ri, mc_rr, mc_rl, mc_li, mc_lr, mc_ll, mc_iii, mc_iir, mc_iil, mc_iri, mc_irr, mc_irl, mc_ili, mc_ilr, mc_ill, mc_rii, mc_rir, mc_ril, mc_rri, mc_rrr, mc_rrl, mc_rli, mc_rlr, mc_rll, mc_lii, mc_lir, mc_lil, mc_lri, mc_lrr, mc_lrl, mc_lli, mc_llr, mc_lll, mc_iiii, mc_iiir, mc_iiri, mc_iirr, mc_irii, mc_irir, mc_irri, mc_irrr, mc_riii, mc_riir, mc_riri, mc_rirr, mc_rrii, mc_rrir, mc_rrri, mc_rrrr, mc_iiiii, mc_iiiir, mc_iiiri, mc_iiirr, mc_iirii, mc_iirir, mc_iirri, mc_iirrr, mc_iriii, mc_iriir, mc_iriri, mc_irirr, mc_irrii, mc_irrir, mc_irrri, mc_irrrr, mc_riiii, mc_riiir, mc_riiri, mc_riirr, mc_ririi, mc_ririr, mc_rirri, mc_rirrr, mc_rriii, mc_rriir, mc_rriri, mc_rrirr, mc_rrrii, mc_rrrir, mc_rrrri, mc_rrrrr, gK_1 g, c65, hb, c64_1 g]
theorem c55_full {d : Nat} {h : mM} (g : G h) {n hr : Nat} (h1 : 1 ≤ n) (hn : n ≤ 100) (hh : mI h 1 9 = nI hr) (h10 : hr ≤ 10000) (hl : ¬ hr + n ≤ 10000) : ev (d + 5) 55 0 [some (.ref 1), some (.int (nI n)), none, none] [] h = some (some (.int (-1000000004)), fC h 4) := by
  have r1 : ((1 : Int32) ≤ nI n ∧ nI n ≤ (100 : Int32)) = True := eq_true ⟨nI_le (a := 1) h1 (by omega), nI_le (b := 100) hn (by omega)⟩
  have r2 : ¬ nI (hr + n) ≤ (10000 : Int32) := nI_ge (a := 10000) (by omega) (by omega)
  simp only [e_55_0, e_55_1, e_55_2, e_55_4, e_55_7, e_55_10, e_55_11, e_55_12, e_55_15, e_55_16, e_55_17, e_55_20, e_55_21, e_55_22, e_55_25, e_55_28, e_55_29, e_55_30, e_55_33, e_55_34, e_55_35, e_55_36, e_55_37, e_55_39, e_55_40, e_55_43, e_55_44, e_55_47, e_55_48, e_55_51, e_55_52, e_55_55, e_55_56, e_55_59, e_55_62, e_55_63, e_55_66, e_55_67, e_55_70, e_55_71, e_55_72, e_55_75, e_55_76, e_55_77, e_55_78r, e_55_78i, e_55_79, e_55_82, e_55_83, e_55_84, e_55_87, e_55_90, e_55_93, e_55_94, cV_some, tl_some, tl_none, mZO_0, mZO_1, mL1_n, mL1_i, mL1_r, oB_some, List.cons_append, List.nil_append, mK_wI, mL_wI, mN_wI, mR_wI, mJ_wI, mK_wJ, mL_wJ, mI_wJ, mR_wJ, mK_wR, mL_wR, mI_wR, mJ_wR, bI_0, bI_n0, if_true, if_false, Nat.reduceLeDiff, Nat.reduceAdd, ite_not, reduceIte, not_false_eq_true, not_true_eq_false, true_and, and_true, and_self, or_false, false_or, or_true, true_or, Nat.reduceEqDiff, Nat.reduceLT, Nat.zero_le, Nat.add_zero, eq_self, false_and, and_false, mc_, mc_i, mc_r, mc_l, mc_ii, mc_ir, mc_il, mc_ri, mc_rr, mc_rl, mc_li, mc_lr, mc_ll, mc_iii, mc_iir, mc_iil, mc_iri, mc_irr, mc_irl, mc_ili, mc_ilr, mc_ill, mc_rii, mc_rir, mc_ril, mc_rri, mc_rrr, mc_rrl, mc_rli, mc_rlr, mc_rll, mc_lii, mc_lir, mc_lil, mc_lri, mc_lrr, mc_lrl, mc_lli, mc_llr, mc_lll, mc_iiii, mc_iiir, mc_iiri, mc_iirr, mc_irii, mc_irir, mc_irri, mc_irrr, mc_riii, mc_riir, mc_riri, mc_rirr, mc_rrii, mc_rrir, mc_rrri, mc_rrrr, mc_iiiii, mc_iiiir, mc_iiiri, mc_iiirr, mc_iirii, mc_iirir, mc_iirri, mc_iirrr, mc_iriii, mc_iriir, mc_iriri, mc_irirr, mc_irrii, mc_irrir, mc_irrri, mc_irrrr, mc_riiii, mc_riiir, mc_riiri, mc_riirr, mc_ririi, mc_ririr, mc_rirri, mc_rirrr, mc_rriii, mc_rriir, mc_rriri, mc_rrirr, mc_rrrii, mc_rrrir, mc_rrrri, mc_rrrrr, gK_1 g, c65, r1, hh, nI_add, r2, c64_4 g]
