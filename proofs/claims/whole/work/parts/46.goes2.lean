-- an hour of the reference
/-- what an hour makes of the rows -/
def GO (h : mM) (mt : Bool) (qs : Nat → List Sk) (τ : T8) (n : N3) (τ' : T8) : Prop := WF (cfg h) mt (tf τ) n τ' ∧ (∀ j, j ≠ 34 → j ≠ 36 → to τ' j = to τ j) ∧ (∀ i, i < 32 → bt (to τ' 34) i = decide (i < 12 ∧ 0 < n.2.2 i)) ∧ (∀ m, m < cfg h 0 2 → tg τ' m = lN (gbN n.2.2 m)) ∧ (mt = false → ts τ' = ts τ ∧ tr τ' = tr τ ∧ tc τ' = tc τ ∧ te τ' = te τ) ∧ (mt = true → AC (mI h 119) (to τ 0) 4 qs τ n.2.2 τ') ∧ (∀ p, cfg h 0 0 ≤ p → tw τ' p = tw τ p)
theorem gtM_off {ar wd gt : Nat → Int32} {t : Int32} {p : Nat} : ∀ (n : Nat) (τ : T8), n ≤ p → tw (foldN (gtM ar wd gt t) n τ) p = tw τ p
  | 0, _, _ => rfl
  | n + 1, τ, h => by
    rw [← gtM_off n τ (by omega)]
    show tw (gtM ar wd gt t n (foldN (gtM ar wd gt t) n τ)) p = _
    unfold gtM
    split
    · exact if_neg (by omega)
    · split
      · exact if_neg (by omega)
      · rfl
theorem spM_off {ar bk : Nat → Int32} {p : Nat} : ∀ (n : Nat) (τ : T8), n ≤ p → tw (foldN (spM ar bk) n τ) p = tw τ p
  | 0, _, _ => rfl
  | n + 1, τ, h => by
    rw [← spM_off n τ (by omega)]
    show tw (spM ar bk n (foldN (spM ar bk) n τ)) p = _
    exact if_neg (by omega)
theorem evF_off {ar : Nat → Int32} {cw : Int32} {x y p : Nat} {w : Nat → Int32} (h1 : p ≠ x) (h2 : p ≠ y) : evF ar cw x y w p = w p := by
  unfold evF
  split
  · rfl
  · rw [upd_ap, if_neg h2, upd_ap, if_neg h1]
theorem chM_off {ar : Nat → Int32} {ca cb : Nat → Nat} {cw : Nat → Int32} {p : Nat} : ∀ (n : Nat) (τ : T8), (∀ k, k < n → p ≠ ca k ∧ p ≠ cb k) → tw (foldN (chM ar ca cb cw) n τ) p = tw τ p
  | 0, _, _ => rfl
  | n + 1, τ, h => by
    rw [← chM_off n τ (fun k hk => h k (by omega))]
    show tw (chM ar ca cb cw n (foldN (chM ar ca cb cw) n τ)) p = _
    have hn := h n (by omega)
    unfold chM
    split
    · exact evF_off hn.1 hn.2
    · exact evF_off hn.2 hn.1
theorem foldN_inv3 {α β : Type} {f : Nat → α → α} {g : Nat → β → β} {P : α → β → Prop} {x : α} {y : β} (n : Nat) (h0 : P x y) (hs : ∀ i x y, i < n → P x y → P (f i x) (g i y)) : P (foldN f n x) (foldN g n y) := foldN_inv2 n x y h0 hs
theorem r110 {d : Nat} {h : mM} {a : Nat} (q : CF h) (g0 : MW h a) {mt : Bool} {qs : Nat → List Sk} {τ : T8} {may : Int32} {rn rd hr t : Nat} (c1 : to τ 1 = nI rd) (h0 : 0 < rd) (h1 : rd ≤ 24) (hh : hr < 2 ^ 31) (ht : mI h 110 (hr % rd) = nI t) (ht2 : t ≤ 200) (c3 : to τ 3 = nI (cfg h 0 0)) (c9 : to τ 9 = nI (cfg h 0 1)) (c13 : to τ 13 = nI (cfg h 0 2)) (hmy : MY h may rn) (hq : QS (mI h 119) 4 qs) (hQ : mt = true → QR 4 qs τ) {w : Nat → Nat} (hw : WB (cfg h) w) (hw2 : ∀ p, p < cfg h 0 0 → tw τ p = nI (w p)) : ∃ τ', GO h mt qs τ (HN (cfg h) t rn w) τ' ∧ ev (d + 4) 110 0 [some (.ref 109), some (.ref a), some (.int (nI hr)), some (.int may), some (.int (bI (mt = true))), none] [] (wM h a τ) = some (none, wM h a τ') := by
  obtain ⟨qa, k1, k2⟩ := g0.ok
  have g := g0.1
  have ck := q.1
  have n110 := g0.off (b := 110) (by decide) (by decide)
  let τ1 : T8 := uo τ (upd (to τ) 36 (bI (mt = true)))
  have hm1 : MT mt (to τ1 36) := by
    show mt = true ↔ ¬ upd (to τ) 36 (bI (mt = true)) 36 = 0
    rw [upd_ap, if_pos rfl, bI_0]
    exact Decidable.not_not.symm
  have e1 : to τ1 1 = nI rd := c1
  have e3 : to τ1 3 = nI (cfg h 0 0) := c3
  have e9 : to τ1 9 = nI (cfg h 0 1) := c9
  have e13 : to τ1 13 = nI (cfg h 0 2) := c13
  have td := r85 (d := d + 3) (h := wM h a τ1) (G.wM g) (t := hr) (r := rd) (by rw [mI_wM, if_neg (by decide), if_neg (by decide), if_pos rfl]; exact e1) h0 h1 hh
  rw [mI_wM, if_neg (by decide), if_neg (by decide), if_neg (by decide), if_neg n110, ht] at td
  have gt := r102 (d := d + 2) g0 ck.1.1 (q.PM.2.2.2.1) (t := nI t) τ1 e3
  have G1 := foldN_inv3 (f := gtN (cfg h) t) (g := gtM (mI h 111) (mI h 113) (mI h 114) (nI t)) (x := ((w, fun _ => 0, fun _ => 0) : N3)) (y := τ1) (P := fun n σ => WB (cfg h) n.1 ∧ WF (cfg h) mt (tf τ) n σ ∧ OT τ1 σ) (cfg h 0 0) ⟨hw, ⟨hw2, fun k => by split <;> exact (lN_0 _).symm⟩, OT.rf⟩ (fun p n σ hp z => by
    have z1 := gtM_rep q ht2 (mt := mt) (f0 := tf τ) (by rw [z.2.2.1]; exact hm1) z.1 z.2.1 hp
    refine ⟨?_, z1.1, OT.tr z.2.2 z1.2⟩
    intro x hx
    show upN n.1 p _ x ≤ _
    rw [upN_ap]
    split
    · rename_i e; subst e
      exact gt_wb ht2 (ck.2.1 x hx).1.2 (z.1 x hx)
    · exact z.1 x hx)
  have gg := (gt_ok ck ht2 hw).2.2.2.2
  have O1 : ∀ p, cfg h 0 0 ≤ p → tw (foldN (gtM (mI h 111) (mI h 113) (mI h 114) (nI t)) (cfg h 0 0) τ1) p = tw τ p := fun p hp => gtM_off _ τ1 hp
  unfold HN
  generalize foldN (gtN (cfg h) t) (cfg h 0 0) (w, fun _ => 0, fun _ => 0) = n1 at G1 gg ⊢
  generalize foldN (gtM (mI h 111) (mI h 113) (mI h 114) (nI t)) (cfg h 0 0) τ1 = τ2 at G1 gt O1
  have ch := r103 (d := d + 3) g0 q.PM τ2 (by rw [G1.2.2.1]; exact e9)
  have C1 := foldN_inv3 (f := chN (cfg h)) (g := chM (mI h 111) (cfg h 5) (cfg h 6) (mI h 118)) (x := n1) (y := τ2) (P := fun n σ => WB (cfg h) n.1 ∧ WF (cfg h) mt (tf τ) n σ ∧ OT τ1 σ) (cfg h 0 1) G1 (fun p n σ hp z => by
    have z1 := chM_rep q z.1 z.2.1 hp
    refine ⟨?_, z1.1, OT.tr z.2.2 z1.2⟩
    obtain ⟨k1, k2, k3, k4⟩ := ck.2.2.1 p hp
    show WB (cfg h) (ite _ _ _)
    split
    · exact ld_wb ck k1 k2 z.1
    · split
      · exact ld_wb ck k2 k1 z.1
      · exact z.1)
  have cc := (ch_ok ck G1.1 (cfg h 0 1) (Nat.le_refl _)).2
  have O2 : ∀ p, cfg h 0 0 ≤ p → tw (foldN (chM (mI h 111) (cfg h 5) (cfg h 6) (mI h 118)) (cfg h 0 1) τ2) p = tw τ p := fun p hp => by
    rw [chM_off _ τ2 (fun k hk => by have := ck.2.2.1 k hk; omega)]
    exact O1 p hp
  generalize foldN (chN (cfg h)) (cfg h 0 1) n1 = n2 at C1 cc ⊢
  generalize foldN (chM (mI h 111) (cfg h 5) (cfg h 6) (mI h 118)) (cfg h 0 1) τ2 = τ3 at C1 ch O2
  obtain ⟨C2, C3, C4⟩ := C1
  have S : HS h a mt qs τ3 may rn := ⟨q, g0, by rw [C4.1]; exact hm1, by rw [C4.1]; exact e13, hq, hmy⟩
  obtain ⟨τ4, T, et⟩ := r105 (d := d) (f0 := tf τ) S ht2 C2 (fun i => by rw [cc, gg]) C3 (fun e m hm => by
    rw [C4.2.1, C4.2.2.1]
    exact hQ e m hm)
  have w3 : WB (cfg h) (foldN (rkN (cfg h) t rn) 10 n2).1 := foldN_inv (P := fun _ (n : N3) => WB (cfg h) n.1) 10 n2 C2 (fun _ y _ z => foldN_inv (P := fun _ (n : N3) => WB (cfg h) n.1) (cfg h 0 2) y z (fun _ _ _ z => rmN_wb z))
  generalize foldN (rkN (cfg h) t rn) 10 n2 = n3 at T w3 ⊢
  obtain ⟨T1, T2, T3, T4, T5, T6, T7⟩ := T
  have m4 : MT mt (to τ4 36) := by rw [T2 36 (by omega), C4.1]; exact hm1
  have sp := r109 (d := d + 2) g0 ck.1.1 τ4 (by rw [T2 3 (by omega), C4.1]; exact e3)
  have P1 := foldN_inv3 (f := spN (cfg h)) (g := spM (mI h 111) (mI h 112)) (x := n3) (y := τ4) (P := fun n σ => WB (cfg h) n.1 ∧ WF (cfg h) mt (tf τ) n σ ∧ OT τ4 σ) (cfg h 0 0) ⟨w3, T1, OT.rf⟩ (fun p n σ hp z => by
    have z1 := spM_rep q (by rw [z.2.2.1]; exact m4) z.1 z.2.1 hp
    exact ⟨spN_wb z.1, z1.1, OT.tr z.2.2 z1.2⟩)
  have s4 := (sp_ok ck w3 (cfg h 0 0) (Nat.le_refl _)).2.2.2
  have O3 : ∀ p, cfg h 0 0 ≤ p → tw (foldN (spM (mI h 111) (mI h 112)) (cfg h 0 0) τ4) p = tw τ p := fun p hp => by
    rw [spM_off _ τ4 hp, T7 p hp]
    exact O2 p hp
  generalize foldN (spN (cfg h)) (cfg h 0 0) n3 = n4 at P1 s4 ⊢
  generalize foldN (spM (mI h 111) (mI h 112)) (cfg h 0 0) τ4 = τ5 at P1 sp O3
  obtain ⟨P2, P3, o1, o2, o3, o4, o5, o6⟩ := P1
  refine ⟨τ5, ⟨P3, fun j j1 j2 => ?_, fun i hi => ?_, fun m hm => ?_, fun e => ?_, fun e => ?_, O3⟩, ?_⟩
  · rw [o1, T2 j j1, C4.1]
    show upd (to τ) 36 _ j = _
    rw [upd_ap, if_neg j2]
  · rw [o1, s4]; exact T3 i hi
  · rw [o4, s4]; exact T4 m hm
  · obtain ⟨v1, v2, v3, v4⟩ := T5 e
    rw [o2, o3, o5, o6, v1, v2, v3, v4, C4.2.1, C4.2.2.1, C4.2.2.2.2.1, C4.2.2.2.2.2]
    exact ⟨rfl, rfl, rfl, rfl⟩
  · rw [s4]
    obtain ⟨v1, v2, v3⟩ := T6 e
    refine ⟨fun m hm => by rw [o2, o3]; exact v1 m hm, fun m hm j hj => ?_, fun c => ?_⟩
    · rw [o5, v2 m hm j hj, C4.2.2.2.2.1, show to τ3 0 = to τ 0 by rw [C4.1]; rfl]
      rfl
    · rw [o6, v3 c, C4.2.2.2.2.2]
      rfl
  · have z1 : mZO (bI (mt = true)) = true := bI_zo
    simp only [e_110_0, e_110_1, e_110_3, e_110_6, e_110_7, e_110_8, e_110_11, e_110_13, e_110_14, e_110_15, e_110_17, e_110_20, e_110_21, e_110_22, e_110_25, e_110_26, e_110_27, e_110_29, e_110_30, e_110_33, e_110_34, e_110_35, e_110_38, cV_some, tl_some, tl_none, mZO_0, mZO_1, mL1_n, mL1_i, mL1_r, oB_some, List.cons_append, List.nil_append, mK_wI, mL_wI, mN_wI, mR_wI, mJ_wI, mK_wJ, mL_wJ, mI_wJ, mR_wJ, mK_wR, mL_wR, mI_wR, mJ_wR, bI_0, bI_n0, if_true, if_false, Nat.reduceLeDiff, Nat.reduceAdd, ite_not, reduceIte, not_false_eq_true, not_true_eq_false, true_and, and_true, and_self, or_false, false_or, or_true, true_or, Nat.reduceEqDiff, Nat.reduceLT, Nat.zero_le, Nat.add_zero, eq_self, false_and, and_false, mc_, mc_i, mc_r, mc_l, mc_ii, mc_ir, mc_il, mc_ri, mc_rr, mc_rl, mc_li, mc_lr, mc_ll, mc_iii, mc_iir, mc_iil, mc_iri, mc_irr, mc_irl, mc_ili, mc_ilr, mc_ill, mc_rii, mc_rir, mc_ril, mc_rri, mc_rrr, mc_rrl, mc_rli, mc_rlr, mc_rll, mc_lii, mc_lir, mc_lil, mc_lri, mc_lrr, mc_lrl, mc_lli, mc_llr, mc_lll, mc_iiii, mc_iiir, mc_iiri, mc_iirr, mc_irii, mc_irir, mc_irri, mc_irrr, mc_riii, mc_riir, mc_riri, mc_rirr, mc_rrii, mc_rrir, mc_rrri, mc_rrrr, mc_iiiii, mc_iiiir, mc_iiiri, mc_iiirr, mc_iirii, mc_iirir, mc_iirri, mc_iirrr, mc_iriii, mc_iriir, mc_iriri, mc_irirr, mc_irrii, mc_irrir, mc_irrri, mc_irrrr, mc_riiii, mc_riiir, mc_riiri, mc_riirr, mc_ririi, mc_ririr, mc_rirri, mc_rirrr, mc_rriii, mc_rriir, mc_rriri, mc_rrirr, mc_rrrii, mc_rrrir, mc_rrrri, mc_rrrrr, gK_109 (G.wM g), mK_wM, gK_109 g, z1, wI_Mo qa]
    rw [show wM h a (uo τ (upd (to τ) 36 (bI (mt = true)))) = wM h a τ1 from rfl, td]
    simp only [cV_some, tl_some, tl_none, mZO_0, mZO_1, mL1_n, mL1_i, mL1_r, oB_some, List.cons_append, List.nil_append, mK_wI, mL_wI, mN_wI, mR_wI, mJ_wI, mK_wJ, mL_wJ, mI_wJ, mR_wJ, mK_wR, mL_wR, mI_wR, mJ_wR, bI_0, bI_n0, if_true, if_false, Nat.reduceLeDiff, Nat.reduceAdd, ite_not, reduceIte, not_false_eq_true, not_true_eq_false, true_and, and_true, and_self, or_false, false_or, or_true, true_or, Nat.reduceEqDiff, Nat.reduceLT, Nat.zero_le, Nat.add_zero, eq_self, false_and, and_false, mc_, mc_i, mc_r, mc_l, mc_ii, mc_ir, mc_il, mc_ri, mc_rr, mc_rl, mc_li, mc_lr, mc_ll, mc_iii, mc_iir, mc_iil, mc_iri, mc_irr, mc_irl, mc_ili, mc_ilr, mc_ill, mc_rii, mc_rir, mc_ril, mc_rri, mc_rrr, mc_rrl, mc_rli, mc_rlr, mc_rll, mc_lii, mc_lir, mc_lil, mc_lri, mc_lrr, mc_lrl, mc_lli, mc_llr, mc_lll, mc_iiii, mc_iiir, mc_iiri, mc_iirr, mc_irii, mc_irir, mc_irri, mc_irrr, mc_riii, mc_riir, mc_riri, mc_rirr, mc_rrii, mc_rrir, mc_rrri, mc_rrrr, mc_iiiii, mc_iiiir, mc_iiiri, mc_iiirr, mc_iirii, mc_iirir, mc_iirri, mc_iirrr, mc_iriii, mc_iriir, mc_iriri, mc_irirr, mc_irrii, mc_irrir, mc_irrri, mc_irrrr, mc_riiii, mc_riiir, mc_riiri, mc_riirr, mc_ririi, mc_ririr, mc_rirri, mc_rirrr, mc_rriii, mc_rriir, mc_rriri, mc_rrirr, mc_rrrii, mc_rrrir, mc_rrrri, mc_rrrrr, e_110_0, e_110_1, e_110_3, e_110_6, e_110_7, e_110_8, e_110_11, e_110_13, e_110_14, e_110_15, e_110_17, e_110_20, e_110_21, e_110_22, e_110_25, e_110_26, e_110_27, e_110_29, e_110_30, e_110_33, e_110_34, e_110_35, e_110_38, mK_wM, gK_109 g, gt, ch, et, sp]
