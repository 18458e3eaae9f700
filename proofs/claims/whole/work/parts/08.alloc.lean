-- new cells, and the library's own calls
theorem dfl_ok : ∀ ci, ci < 11 → ∀ k, k < nfN ci → defaultValue (tyN ci k) = if mIsR (tyN ci k) = true then .null else .int 0 := by decide +kernel
theorem mK_wN_ne {h : mM} {q n a : Nat} (ha : a ≠ mN h) : mK (wN h q n) a = mK h a := by
  unfold mK wN
  unfold mN at ha
  simp only
  by_cases h0 : a = 0
  · rw [if_pos h0, if_pos h0]
  · rw [if_neg h0, if_neg h0, if_neg ha]
    by_cases h1 : a < h.1
    · have : a < h.1 + 1 := by omega
      simp [h1, this]
    · have : ¬ a < h.1 + 1 := by omega
      simp [h1, this]
theorem mK_wN_new {h : mM} {q n : Nat} (hn : 1 ≤ mN h) (hq : q < 19) : mK (wN h q n) (mN h) = q := by
  unfold mK wN
  unfold mN at hn ⊢
  simp only
  rw [if_neg (by omega)]
  simp [hq]
theorem gE_wN {g : mG} {h : mM} {q n a : Nat} (ha : a ≠ mN h) : gE g (wN h q n) a = gE g h a := by
  have ha1 : a ≠ h.1 := ha
  refine gE_congr (mK_wN_ne ha) ?_ ?_ ?_ ?_
  · show (if a = h.1 then (q, n) else h.2.2.1 a).2 = _
    rw [if_neg ha1]; rfl
  · funext k
    show (if a = h.1 then (0 : Int32) else _) = _
    rw [if_neg ha1]; rfl
  · funext k
    show (if a = h.1 then (0 : Int64) else _) = _
    rw [if_neg ha1]; rfl
  · funext k
    show (if a = h.1 then (none : Option Nat) else _) = _
    rw [if_neg ha1]; rfl
theorem gW_wN {g : mG} {h : mM} {q n : Nat} (hn : 1 ≤ mN h) : gW g (wN h q n) = gW g h ++ [(g.2.1 + (mN h - 1), gE g (wN h q n) (mN h))] := by
  have e : mN (wN h q n) - 1 = (mN h - 1) + 1 := by show (h.1 + 1) - 1 = _; unfold mN at hn ⊢; omega
  unfold gW
  rw [e, List.range_succ, List.map_append]
  congr 1
  · apply List.map_congr_left
    intro i hi
    have := List.mem_range.mp hi
    rw [gE_wN (by omega)]
  · simp only [List.map_cons, List.map_nil]
    rw [show mN h - 1 + 1 = mN h by omega]
theorem gH.grow {g : mG} {h : mM} {q n : Nat} {s : State} {H H1 : Heap} {locs : List Loc} (hH : gH g h s H) (hba : g.2.1 ≤ s.heap.size) (hS : va_S (gA g) s.heap H locs) (hz : H.size = g.2.1 + (mN h - 1)) (o1 : ∀ q : Nat, q < H.size → H1[q]? = H[q]?) (z1 : H1.size = H.size + 1) (hat : va_at (gD g) mCl (g.2.1 + (mN h - 1), gE g (wN h q n) (mN h)) H1) : gH g (wN h q n) s H1 ∧ va_S (gA g) s.heap H1 locs := by
  have hn := hH.1
  have hS1 : va_S (gA g) s.heap H1 locs := ⟨by have := hS.1; omega, fun x h1 h2 => (o1 x (Nat.lt_of_lt_of_le h1 hS.1)).trans (hS.2.1 x h1 h2), hS.2.2⟩
  refine ⟨hH.put hba hS hS1 (by show 1 ≤ h.1 + 1; omega) ?_ ?_ ?_, hS1⟩
  · rw [gW_wN hn]
    refine (hH.2.1.kept fun k x hx => o1 x.1 ((hH.2.1 k x hx).lt)).app (fun k x hx => ?_)
    have hz : k < 1 := (List.getElem?_eq_some_iff.mp hx).1
    rw [show k = 0 by omega] at hx
    cases hx
    exact hat
  · show (if 0 = h.1 then (q, n) else h.2.2.1 0).2 = _
    unfold mN at hn
    rw [if_neg (by omega)]; rfl
  · funext k
    show (if 0 = h.1 then (0 : Int32) else _) = _
    unfold mN at hn
    rw [if_neg (by omega)]; rfl
theorem nL_cl {a b c : Nat} (hq : (a, b, c) ∈ nL) : Cond.classLink (RN a) b (RN c) ∈ lw_good := nL_ok _ hq _ List.mem_cons_self
theorem nL_in {a b c : Nat} (hq : (a, b, c) ∈ nL) : Cond.instantiable (RN c) (nfN c) ∈ lw_good := nL_ok _ hq _ (List.mem_cons_of_mem _ List.mem_cons_self)
theorem nL_ini {a b c : Nat} (hq : (a, b, c) ∈ nL) : Cond.initialized (RN c) ∈ lw_good := nL_ok _ hq _ (List.mem_cons_of_mem _ (List.mem_cons_of_mem _ List.mem_cons_self))
section GOA
variable {g : mG} {mi pc len : Nat} {L : mLs} {st : List Value} {h : mM}
theorem wN_c {h : mM} {q n c : Nat} : c + 1 = c + (mN (wN h q n) - mN h) := by
  show c + 1 = c + (h.1 + 1 - h.1)
  omega
theorem wN_s {h : mM} {q n c : Nat} : c + n = c + (mZ (wN h q n) - mZ h) := by
  show c + n = c + (h.2.1 + n - h.2.1)
  omega
theorem go_newarray {t : ArrayType} : gGo g mi pc L st h (.newarray t) len := by
  intro pc' L' st' h1 hd hs p l e R s m args below meth c H locs cells slots Q ls hC hH hS hl hcs hfr hlo hce hsl K
  obtain ⟨hx, hb, hml, hown, hts, hE, hba, hlk, hnm⟩ := hC
  simp only [mIns, mNx] at hs
  split at hs
  · rename_i hlen
    subst hlen
    split at hs
    · rename_i n r
      split at hs
      · rename_i hk
        obtain ⟨ht, hn0, hn1⟩ := hk
        cases hs
        have hc1 : cells + 1 ≤ R.cells := by rw [wN_c (h := h) (q := if t = .int then 11 else 12) (n := n.toNatClampNeg)]; exact hce
        have hs1 : slots + n.toNatClampNeg ≤ R.slots := by rw [wN_s (h := h) (q := if t = .int then 11 else 12)]; exact hsl
        refine W.size fun hz0 => ?_
        have hz := gSize hH hS hba hcs hz0
        have hgA : gAd g (mN h) = H.size := by rw [gAd_pos hH.1, hz]
        rcases ht with rfl | rfl
        · refine va_newaK hx hb (hts _ (arr_ok _ (by simp [newarray.typeOf]))) (atype := .int) rfl hd rfl hn0 rfl ?_ hc1 hs1 rfl fun H1 cA e1 z1 o1 hAr hNm => ?_
          · show n.toNatClampNeg * 4 ≤ _
            omega
          have hcA : cA = g.2.2.2.2 11 := Option.some.inj (hNm.symm.trans (hE.1.2 0 _ rfl).2)
          obtain ⟨h2, h3⟩ := hH.grow (q := 11) (n := n.toNatClampNeg) hba hS hz o1 z1 (by
            rw [gE_arr (mK_wN_new hH.1 (by omega)) (by omega)]
            show H1[g.2.1 + (mN h - 1)]? = some (vp_cell _ _)
            rw [← hz, e1, hcA]
            unfold gArr
            rw [if_pos rfl, vp_cell_i]
            have e2 : mL (wN h 11 n.toNatClampNeg) (mN h) = n.toNatClampNeg := by
              show (if h.1 = h.1 then (11, n.toNatClampNeg) else _).2 = _
              rw [if_pos rfl]
            have e3 : (fun j => Value.int (mI (wN h 11 n.toNatClampNeg) (mN h) j)) = fun _ => defaultValue (newarray.typeOf .int) := by
              funext j
              show Value.int (if h.1 = h.1 then (0 : Int32) else _) = _
              rw [if_pos rfl]; rfl
            rw [e2, e3])
          have := K H1 locs ls (cells + 1) (slots + n.toNatClampNeg) wN_c wN_s h2 h3 hl
          rw [show List.map (gV g) (Value.ref (mN h) :: r) = .ref H.size :: r.map (gV g) by rw [← hgA]; rfl] at this
          exact this
        · refine va_newaK hx hb (hts _ (arr_ok _ (by simp [newarray.typeOf]))) (atype := .long) rfl hd rfl hn0 rfl ?_ hc1 hs1 rfl fun H1 cA e1 z1 o1 hAr hNm => ?_
          · show n.toNatClampNeg * 8 ≤ _
            omega
          have hcA : cA = g.2.2.2.2 12 := Option.some.inj (hNm.symm.trans (hE.1.2 1 _ rfl).2)
          obtain ⟨h2, h3⟩ := hH.grow (q := 12) (n := n.toNatClampNeg) hba hS hz o1 z1 (by
            rw [gE_arr (mK_wN_new hH.1 (by omega)) (by omega)]
            show H1[g.2.1 + (mN h - 1)]? = some (vp_cell _ _)
            rw [← hz, e1, hcA]
            unfold gArr
            rw [if_neg (by omega), if_pos rfl, vp_cell_l]
            have e2 : mL (wN h 12 n.toNatClampNeg) (mN h) = n.toNatClampNeg := by
              show (if h.1 = h.1 then (12, n.toNatClampNeg) else _).2 = _
              rw [if_pos rfl]
            have e3 : (fun j => Value.long (mJ (wN h 12 n.toNatClampNeg) (mN h) j)) = fun _ => defaultValue (newarray.typeOf .long) := by
              funext j
              show Value.long (if h.1 = h.1 then (0 : Int64) else _) = _
              rw [if_pos rfl]; rfl
            rw [e2, e3])
          have := K H1 locs ls (cells + 1) (slots + n.toNatClampNeg) wN_c wN_s h2 h3 hl
          rw [show List.map (gV g) (Value.ref (mN h) :: r) = .ref H.size :: r.map (gV g) by rw [← hgA]; rfl] at this
          exact this
      · cases hs
    · cases hs
  · cases hs
theorem go_anewarray {i : Nat} : gGo g mi pc L st h (.anewarray i) len := by
  intro pc' L' st' h1 hd hs p l e R s m args below meth c H locs cells slots Q ls hC hH hS hl hcs hfr hlo hce hsl K
  obtain ⟨hx, hb, hml, hown, hts, hE, hba, hlk, hnm⟩ := hC
  simp only [mIns, mNx] at hs
  split at hs
  · rename_i hlen
    subst hlen
    split at hs
    · rename_i n r
      split at hs
      · rename_i ci hf
        split at hs
        · rename_i hk
          obtain ⟨hao, hn0, hn1⟩ := hk
          cases hs
          have hin := nGet_in hf
          have hc1 : cells + 1 ≤ R.cells := by rw [wN_c (h := h) (q := mAr ci) (n := n.toNatClampNeg)]; exact hce
          have hs1 : slots + n.toNatClampNeg ≤ R.slots := by rw [wN_s (h := h) (q := mAr ci)]; exact hsl
          have hq : 12 < mAr ci ∧ mAr ci < 18 ∧ gTy (mAr ci) = .object (RN ci) := by
            have := hao
            simp only [aoL, List.mem_cons, List.not_mem_nil, or_false] at this
            rcases this with q | q | q | q | q <;> subst q <;> exact ⟨by decide, by decide, rfl⟩
          refine W.size fun hz0 => ?_
          have hz := gSize hH hS hba hcs hz0
          have hgA : gAd g (mN h) = H.size := by rw [gAd_pos hH.1, hz]
          refine W.anew hx hb hown (hts _ (nL_cl hin)) (va_AO.use (hE.2.2.1 ci hao)) rfl hd rfl hn0 (by omega) hc1 hs1 fun cA kA comp f1 f2 f3 f4 => ?_
          generalize hH1 : H.push ({ cls := cA, slots := Array.replicate n.toNatClampNeg .null, vm := .none } : Cell) = H1
          have z1 : H1.size = H.size + 1 := by rw [← hH1, Array.size_push]
          have e1 : H1[H.size]? = some (arrV cA n.toNatClampNeg (fun _ => .null)) := by rw [← hH1, Array.getElem?_push_size, ← arrV_new]
          have o1 : ∀ q : Nat, q < H.size → H1[q]? = H[q]? := fun q hq => by rw [← hH1, Array.getElem?_push, if_neg (Nat.ne_of_lt hq)]
          have hcA : cA = g.2.2.2.2 (mAr ci) := by
            obtain ⟨ht, -⟩ := gT_at (g := g) hq.1 (show mAr ci < 19 by omega)
            rw [hq.2.2] at ht
            obtain ⟨k2, comp2, -, -, -, f5⟩ := (hE.1.2 _ _ ht).2
            exact Option.some.inj (f1.symm.trans f5)
          obtain ⟨h2, h3⟩ := hH.grow (q := mAr ci) (n := n.toNatClampNeg) hba hS hz o1 z1 (by
            rw [gE_arr (mK_wN_new hH.1 (by omega)) (by omega)]
            show H1[g.2.1 + (mN h - 1)]? = some (vp_cell _ _)
            rw [← hz, e1, hcA]
            unfold gArr
            rw [if_neg (by omega), if_neg (by omega), vp_cell_q]
            have e2 : mL (wN h (mAr ci) n.toNatClampNeg) (mN h) = n.toNatClampNeg := by
              show (if h.1 = h.1 then (mAr ci, n.toNatClampNeg) else _).2 = _
              rw [if_pos rfl]
            have e3 : (fun j => va_rf ((mR (wN h (mAr ci) n.toNatClampNeg) (mN h) j).map (gAd g))) = fun _ => Value.null := by
              funext j
              show va_rf ((if h.1 = h.1 then (none : Option Nat) else _).map (gAd g)) = _
              rw [if_pos rfl]; rfl
            rw [e2, e3])
          have := K H1 locs ls (cells + 1) (slots + n.toNatClampNeg) wN_c wN_s h2 h3 hl
          rw [show List.map (gV g) (Value.ref (mN h) :: r) = .ref H.size :: r.map (gV g) by rw [← hgA]; rfl] at this
          exact this
        · cases hs
      · cases hs
    · cases hs
  · cases hs
theorem go_new {i : Nat} : gGo g mi pc L st h (.new i) len := by
  intro pc' L' st' h1 hd hs p l e R s m args below meth c H locs cells slots Q ls hC hH hS hl hcs hfr hlo hce hsl K
  obtain ⟨hx, hb, hml, hown, hts, hE, hba, hlk, hnm⟩ := hC
  simp only [mIns, mNx] at hs
  split at hs
  · rename_i hlen
    subst hlen
    split at hs
    · rename_i ci hf
      cases hs
      have hin := nGet_in hf
      have h11 : ci < 11 := nL_ok1 _ hin
      have hc1 : cells + 1 ≤ R.cells := by rw [wN_c (h := h) (q := ci) (n := nfN ci)]; exact hce
      have hs1 : slots + nfN ci ≤ R.slots := by rw [wN_s (h := h) (q := ci)]; exact hsl
      refine W.size fun hz0 => ?_
      have hz := gSize hH hS hba hcs hz0
      have hgA : gAd g (mN h) = H.size := by rw [gAd_pos hH.1, hz]
      have hKn := hE.1.1 ci _ (mCl_at h11)
      refine W.newcK hx hb hown (hts _ (nL_cl hin)) (hts _ (nL_in hin)) (hts _ (nL_ini hin)) rfl hd hc1 hs1 hKn.2.1 rfl fun H1 kC hkC e1 z1 o1 => ?_
      obtain ⟨h2, h3⟩ := hH.grow (q := ci) (n := nfN ci) hba hS hz o1 z1 (by
        rw [gE_obj (mK_wN_new hH.1 (by omega)) h11]
        refine ⟨_, mCl_at h11, ?_⟩
        show t_OB (g.2.1 + (mN h - 1)) _ _ _ _ _
        rw [← hz]
        refine (u_born (tyN ci) hts (inN ci h11) hKn hkC e1 (tyN_ok ci h11)).to (fun j hj => ?_)
        rw [dfl_ok ci h11 j hj]
        unfold vp_V
        rw [List.getD_eq_getElem?_getD, gFs_at hj]
        unfold gF
        have e3 : mR (wN h ci (nfN ci)) (mN h) j = none := by
          show (if h.1 = h.1 then (none : Option Nat) else _) = _
          rw [if_pos rfl]
        have e4 : mI (wN h ci (nfN ci)) (mN h) j = 0 := by
          show (if h.1 = h.1 then (0 : Int32) else _) = _
          rw [if_pos rfl]
        rw [e3, e4]
        rfl)
      have := K H1 locs ls (cells + 1) (slots + nfN ci) wN_c wN_s h2 h3 hl
      rw [show List.map (gV g) (Value.ref (mN h) :: st) = .ref H.size :: st.map (gV g) by rw [← hgA]; rfl] at this
      exact this
    · cases hs
  · cases hs
end GOA
