-- grids, and the library's calls
theorem outer_eq (c : ClassId) (N h0 : Nat) : ∀ i : Nat, Jvm.Free.Multi.outerC c N h0 i = arrV c N (fun j => va_rf (if j < i then some (h0 + 1 + j) else none))
  | 0 => by
    show ({ cls := c, slots := Array.replicate N .null, vm := .none } : Cell) = _
    rw [arrV_new]
    refine congrArg (arrV c N) (funext fun j => ?_)
    simp [va_rf]
  | i + 1 => by
    show (Jvm.Free.Multi.outerC c N h0 i).setSlot i (.ref (h0 + 1 + i)) = _
    rw [outer_eq c N h0 i, arrV_store]
    refine congrArg (arrV c N) (funext fun j => ?_)
    by_cases e : j = i
    · subst e
      simp [updV, va_rf]
    · by_cases h : j < i
      · simp [updV, e, h, Nat.lt_succ_of_lt h]
      · simp [updV, e, h, show ¬ j < i + 1 by omega]
theorem mK_wGrid {h : mM} {n k a : Nat} (hn : 1 ≤ mN h) : mK (wGrid h n k) a = if a = mN h then 18 else if mN h < a ∧ a < mN h + 1 + n then 11 else mK h a := by
  unfold mK wGrid
  unfold mN at hn ⊢
  simp only
  by_cases h0 : a = 0
  · subst h0
    rw [if_pos rfl, if_neg (by omega), if_neg (by omega), if_pos rfl]
  · rw [if_neg h0, if_neg h0]
    by_cases h1 : a = h.1
    · subst h1
      simp
      omega
    · by_cases h2 : h.1 < a ∧ a < h.1 + 1 + n
      · simp [h1, h2]
      · simp only [h1, h2, if_false]
        by_cases h3 : a < h.1
        · have : a < h.1 + 1 + n := by omega
          simp [h3, this]
        · have : ¬ a < h.1 + 1 + n := by omega
          simp [h3, this]
theorem nfw : nativeFrameWords "java/lang/System" "arraycopy" 5 = 7 := by decide +kernel
section GOL
variable {g : mG} {mi pc len : Nat} {L : mLs} {st : List Value} {h : mM}
theorem gCat {g : mG} (r : List Value) : ((r.map (gV g)).map fun v => v.category).sum = mCat r := by
  unfold mCat
  rw [List.map_map]
  congr 1
  apply List.map_congr_left
  intro v _
  exact gV_cat g v
theorem go_multianewarray {i dm : Nat} : gGo g mi pc L st h (.multianewarray i dm) len := by
  intro pc' L' st' h1 hd hs p l e R s m args below meth c H locs cells slots Q ls hC hH hS hl hcs hfr hlo hce hsl K
  obtain ⟨hx, hb, hml, hown, hts, hE, hba, hlk, hnm⟩ := hC
  simp only [mIns, mNx] at hs
  split at hs
  · rename_i hlen
    obtain ⟨rfl, rfl, hmi, rfl⟩ := hlen
    split at hs
    · rename_i k n r
      split at hs
      · rename_i hk
        obtain ⟨hn0, hn1, hk0, hk1⟩ := hk
        cases hs
        have eN : mN (wGrid h n.toNatClampNeg k.toNatClampNeg) = mN h + 1 + n.toNatClampNeg := rfl
        have eZ : mZ (wGrid h n.toNatClampNeg k.toNatClampNeg) = mZ h + n.toNatClampNeg + n.toNatClampNeg * k.toNatClampNeg := rfl
        rw [eN] at hce
        rw [eZ] at hsl
        refine W.size fun hz0 => ?_
        have hz := gSize hH hS hba hcs hz0
        have hgA : gAd g (mN h) = H.size := by rw [gAd_pos hH.1, hz]
        rw [hmi] at hown
        intro T hT X
        obtain ⟨vm₁, cA, comp, -, fA, fC, hO, -, X', step⟩ := X.multianewarray2F hx (own := RN 5) (index := 9) (ty := .int) hown (hts _ (cl2_in _ List.mem_cons_self)) hE.2.2.2 (hts _ (arr_ok _ List.mem_cons_self)) (g := F0 m pc ls (.int k :: .int n :: r.map (gV g))) rfl (by rw [hb]; exact hd) rfl hn0 hk0 (by omega) (by show k.toNatClampNeg * 4 ≤ _; omega) (by omega) rfl rfl (by omega) (by omega)
        have hTh : (T.setVm vm₁).heap = H := hT
        generalize hF : Jvm.Free.Multi.fill (T.setVm vm₁) cA comp n.toNatClampNeg k.toNatClampNeg (defaultValue .int) n.toNatClampNeg = F at X' step
        obtain ⟨f1, f2, -, -⟩ := Jvm.Free.Multi.fill_facts (T.setVm vm₁) cA comp n.toNatClampNeg k.toNatClampNeg (defaultValue .int) n.toNatClampNeg
        rw [hF, hTh] at f1 f2
        have hold : ∀ x : Nat, x < H.size → F.heap[x]? = H[x]? := fun x hx => by
          have := Jvm.Free.Multi.fill_old (T.setVm vm₁) cA comp n.toNatClampNeg k.toNatClampNeg (defaultValue .int) (a := x) (by rw [hTh]; exact hx) n.toNatClampNeg
          rw [hF, hTh] at this
          exact this
        have hrow : ∀ j : Nat, j < n.toNatClampNeg → F.heap[H.size + 1 + j]? = some (arrV comp k.toNatClampNeg (fun _ => .int 0)) := fun j hj => by
          have := Jvm.Free.Multi.fill_inner (T.setVm vm₁) cA comp n.toNatClampNeg k.toNatClampNeg (defaultValue .int) n.toNatClampNeg j hj
          rw [hF, hTh] at this
          rw [this, ← arrV_new]
          rfl
        rw [outer_eq] at f2
        have hcA : cA = g.2.2.2.2 18 := Option.some.inj (fA.symm.trans (hE.1.2 7 _ rfl).2)
        have hco : comp = g.2.2.2.2 11 := Option.some.inj (fC.symm.trans (hE.1.2 0 _ rfl).2)
        have hn := hH.1
        have hS1 : va_S (gA g) s.heap F.heap locs := ⟨by have := hS.1; omega, fun x h1 h2 => (hold x (Nat.lt_of_lt_of_le h1 hS.1)).trans (hS.2.1 x h1 h2), hS.2.2⟩
        have hP1 : va_P (gD g) mCl (gW g (wGrid h n.toNatClampNeg k.toNatClampNeg)) F.heap := by
          intro i q hq
          obtain ⟨hi, rfl⟩ := gW_get hq
          rw [eN] at hi
          rcases Nat.lt_trichotomy (i + 1) (mN h) with h2 | h2 | h2
          · have h3 : gE g (wGrid h n.toNatClampNeg k.toNatClampNeg) (i + 1) = gE g h (i + 1) := by
              unfold mN at h2
              refine gE_congr (by rw [mK_wGrid hn, if_neg (by unfold mN; omega), if_neg (by unfold mN; omega)]) ?_ ?_ ?_ ?_
              · show (if i + 1 = h.1 then _ else if h.1 < i + 1 ∧ _ then _ else h.2.2.1 (i + 1)).2 = _
                rw [if_neg (by omega), if_neg (by omega)]; rfl
              · funext j
                show (if h.1 ≤ i + 1 then _ else _) = _
                rw [if_neg (by omega)]; rfl
              · funext j
                show (if h.1 ≤ i + 1 then _ else _) = _
                rw [if_neg (by omega)]; rfl
              · funext j
                show (if i + 1 = h.1 then _ else if h.1 < i + 1 then _ else _) = _
                rw [if_neg (by omega), if_neg (by omega)]; rfl
            rw [h3]
            have h4 := gW_at (g := g) (h := h) (a := i + 1) (by omega) h2
            rw [gAd_pos (by omega)] at h4
            have h5 := hH.2.1 _ _ h4
            exact h5.kept (hold _ h5.lt)
          · have e1 : mK (wGrid h n.toNatClampNeg k.toNatClampNeg) (i + 1) = 18 := by rw [mK_wGrid hn, if_pos h2]
            rw [gE_arr e1 (by omega)]
            show F.heap[g.2.1 + i]? = some (vp_cell _ _)
            rw [show g.2.1 + i = H.size by rw [hz]; omega, f2, hcA]
            unfold gArr
            rw [if_neg (by omega), if_neg (by omega), vp_cell_q, h2]
            have e2 : mL (wGrid h n.toNatClampNeg k.toNatClampNeg) (mN h) = n.toNatClampNeg := by
              show (if h.1 = h.1 then (18, n.toNatClampNeg) else _).2 = _
              rw [if_pos rfl]
            rw [e2]
            refine congrArg some (congrArg (arrV _ _) (funext fun j => ?_))
            show _ = va_rf ((if h.1 = h.1 then (if j < n.toNatClampNeg then some (h.1 + 1 + j) else none) else _).map (gAd g))
            rw [if_pos rfl]
            by_cases hj : j < n.toNatClampNeg
            · rw [if_pos hj, if_pos hj, Option.map_some, gAd_pos (by omega), hz]
              congr 2
              unfold mN at hn ⊢
              omega
            · rw [if_neg hj, if_neg hj]
              rfl
          · have e1 : mK (wGrid h n.toNatClampNeg k.toNatClampNeg) (i + 1) = 11 := by rw [mK_wGrid hn, if_neg (by omega), if_pos (by omega)]
            rw [gE_arr e1 (by omega)]
            show F.heap[g.2.1 + i]? = some (vp_cell _ _)
            rw [show g.2.1 + i = H.size + 1 + (i - mN h) by rw [hz]; omega, hrow _ (by omega), hco]
            unfold gArr
            rw [if_pos rfl, vp_cell_i]
            have e2 : mL (wGrid h n.toNatClampNeg k.toNatClampNeg) (i + 1) = k.toNatClampNeg := by
              unfold mN at h2 hi
              show (if i + 1 = h.1 then _ else if h.1 < i + 1 ∧ i + 1 < h.1 + 1 + n.toNatClampNeg then (11, k.toNatClampNeg) else _).2 = _
              rw [if_neg (by omega), if_pos (by omega)]
            rw [e2]
            refine congrArg some (congrArg (arrV _ _) (funext fun j => ?_))
            unfold mN at h2
            show _ = Value.int (if h.1 ≤ i + 1 then 0 else _)
            rw [if_pos (by omega)]
        have hH1 : gH g (wGrid h n.toNatClampNeg k.toNatClampNeg) s F.heap := hH.put hba hS hS1 (by rw [eN]; omega) hP1 (by
          unfold mN at hn
          show (if 0 = h.1 then _ else if h.1 < 0 ∧ _ then _ else h.2.2.1 0).2 = _
          rw [if_neg (by omega), if_neg (by omega)]; rfl) (by
          funext j
          unfold mN at hn
          show (if h.1 ≤ 0 then _ else _) = _
          rw [if_neg (by omega)]; rfl)
        obtain ⟨t, a1, b1⟩ := K F.heap locs ls (cells + 1 + n.toNatClampNeg) (slots + n.toNatClampNeg + n.toNatClampNeg * k.toNatClampNeg) (by rw [eN]; omega) (by rw [eZ]; omega) hH1 hS1 hl F rfl X'
        refine ⟨t, step t ?_, b1⟩
        rw [show T.heap.size = gAd g (mN h) by rw [hT, hgA]]
        exact a1
      · cases hs
    · cases hs
  · cases hs
theorem go_invokevirtual {i : Nat} : gGo g mi pc L st h (.invokevirtual i) len := by
  intro pc' L' st' h1 hd hs p l e R s m args below meth c H locs cells slots Q ls hC hH hS hl hcs hfr hlo hce hsl K
  simp only [mIns, mCallV] at hs
  repeat' split at hs
  all_goals cases hs
theorem go_invokespecial {i : Nat} : gGo g mi pc L st h (.invokespecial i) len := by
  intro pc' L' st' h1 hd hs p l e R s m args below meth c H locs cells slots Q ls hC hH hS hl hcs hfr hlo hce hsl K
  obtain ⟨hx, hb, hml, hown, hts, hE, hba, hlk, hnm⟩ := hC
  simp only [mIns] at hs
  split at hs
  · rename_i hlen
    subst hlen
    unfold mCallI mNx at hs
    split at hs
    · rename_i kd mj hf
      split at hs
      · rename_i hkd
        subst hkd
        split at hs
        · rename_i a r
          split at hs
          · rename_i hr
            cases hs
            have hin := kGet_in hf
            have hm := mLk_ok _ hin
            refine W.objInit hx hb hown (hts _ (hm _ (by simp [mKinds]))) (hts _ (hm _ (by simp [mKinds]))) (hts _ mObj_in) rfl (hl.1.trans hml.symm) rfl hd hfr ?_ (K H locs ls cells slots (eqz rfl) (eqz rfl) hH hS hl)
            show 2 * 0 + _ + 12 ≤ _
            rw [gCat]
            omega
          · cases hs
        · cases hs
      · split at hs
        · split at hs
          · cases hs
          · cases hs
        · cases hs
    · cases hs
  · cases hs
theorem go_invokestatic {i : Nat} : gGo g mi pc L st h (.invokestatic i) len := by
  intro pc' L' st' h1 hd hs p l e R s m args below meth c H locs cells slots Q ls hC hH hS hl hcs hfr hlo hce hsl K
  obtain ⟨hx, hb, hml, hown, hts, hE, hba, hlk, hnm⟩ := hC
  simp only [mIns] at hs
  split at hs
  · rename_i hlen
    subst hlen
    unfold mCallS mNx at hs
    have hml2 : c.maxLocals = ls.size := hml.trans hl.1.symm
    have hc0 : cells ≤ R.cells := by omega
    have hs0 : slots ≤ R.slots := by omega
    split at hs
    · rename_i kd mj hf
      have hin := kGet_in hf
      have hm := mLk_ok _ hin
      split at hs
      · rename_i hkd
        subst hkd
        split at hs
        · rename_i y x r
          split at hs
          · rename_i hr
            cases hs
            exact va_mmax hx hb hml2 hown (hts _ (hm _ (by simp [mKinds]))) (hts _ (hm _ (by simp [mKinds]))) (hts _ (hm _ (by simp [mKinds]))) (hts _ mMath_max) hfr (by rw [gCat]; omega) hc0 hs0 hd (K H locs ls cells slots (eqz rfl) (eqz rfl) hH hS hl)
          · cases hs
        · cases hs
      · split at hs
        · rename_i hkd
          subst hkd
          split at hs
          · rename_i y x r
            split at hs
            · rename_i hr
              cases hs
              exact va_mmin hx hb hml2 hown (hts _ (hm _ (by simp [mKinds]))) (hts _ (hm _ (by simp [mKinds]))) (hts _ (hm _ (by simp [mKinds]))) (hts _ mMath_min) hfr (by rw [gCat]; omega) hc0 hs0 hd (K H locs ls cells slots (eqz rfl) (eqz rfl) hH hS hl)
            · cases hs
          · cases hs
        · split at hs
          · rename_i hkd
            subst hkd
            split at hs
            · rename_i x r
              split at hs
              · rename_i hr
                cases hs
                exact va_mabs hx hb hml2 hown (hts _ (hm _ (by simp [mKinds]))) (hts _ (hm _ (by simp [mKinds]))) (hts _ (hm _ (by simp [mKinds]))) (hts _ mMath_abs) hfr (by rw [gCat]; omega) hc0 hs0 hd (K H locs ls cells slots (eqz rfl) (eqz rfl) hH hS hl)
              · cases hs
            · cases hs
          · split at hs
            · rename_i hkd
              subst hkd
              split at hs
              · rename_i n dp b sp a r
                split at hs
                · rename_i hr
                  obtain ⟨hr, hka, hkb, q1, q2, q3, q4, q5⟩ := hr
                  cases hs
                  have hb0 := mK_in (h := h) (a := b) (by omega)
                  refine va_copyi hx hb hml2 hown (hts _ (hm _ (by simp [mKinds]))) (hts _ (hm _ (by simp [mKinds]))) (hts _ (hm _ (by simp [mKinds]))) (hts _ (hm _ (by simp [mKinds]))) hE.1 hH.2.1 gW_D hS (a - 1) (b - 1) 0 0 (gAt_i hka) (gAt_i hkb) rfl rfl rfl q1 q2 q3 q4 q5 (fun _ _ => rfl) hfr (by rw [gCat]; rw [nfw]; omega) hd (fun H1 locs1 hP1 hD1 hS1 => ?_)
                  rw [gW_copy hkb] at hP1
                  exact K H1 locs1 ls cells slots (eqz rfl) (eqz rfl) (hH.put hba hS hS1 hH.1 hP1 rfl (mI_wC_ne (by omega))) hS1 hl
                · cases hs
              · cases hs
            · split at hs
              · cases hs
              · cases hs
    · cases hs
  · cases hs
end GOL
