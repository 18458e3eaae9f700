-- the instructions that read and write cells
theorem W.size {p : Program} {l : Launch} {e : Env} {R : Room} {s : State} {m : MethodId} {args : Array Value} {below : List Frame} {meth : Method} {c : Code} {H : Heap} {locs : List Loc} {cells slots : Nat} {Q : State → Prop} {g : JFrame} (k : H.size ≤ s.heap.size + cells → W p l e R s m args below meth c H locs cells slots Q g) : W p l e R s m args below meth c H locs cells slots Q g := fun T hT X => k (by rw [← hT]; exact X.heapSize) T hT X
theorem gSize {g : mG} {h : mM} {s : State} {H : Heap} {locs : List Loc} {cells : Nat} (hH : gH g h s H) (hS : va_S (gA g) s.heap H locs) (hba : g.2.1 ≤ s.heap.size) (hcs : s.heap.size + cells + 1 = g.2.1 + mN h) (hz : H.size ≤ s.heap.size + cells) : H.size = g.2.1 + (mN h - 1) := by
  have h1 := hH.1
  rcases Nat.lt_or_ge 1 (mN h) with h2 | h2
  · have h3 := hH.2.1 _ _ (gW_at (g := g) (h := h) (a := mN h - 1) (by omega) (by omega))
    have h4 := h3.lt
    simp only at h4
    rw [gAd_pos (by omega)] at h4
    omega
  · have := hS.1
    omega
theorem gX_kept {g : mG} {s : State} {H H1 : Heap} {locs locs1 : List Loc} (hb : g.1 < g.2.1) (hba : g.2.1 ≤ s.heap.size) (hS : va_S (gA g) s.heap H locs) (hS1 : va_S (gA g) s.heap H1 locs1) : H1[g.1]? = H[g.1]? := by
  have hn : ¬ gA g g.1 := fun q => by unfold gA at q; omega
  rw [hS.2.1 g.1 (by omega) hn, hS1.2.1 g.1 (by omega) hn]
theorem gH.put {g : mG} {h h1 : mM} {s : State} {H H1 : Heap} {locs locs1 : List Loc} (q : gH g h s H) (hba : g.2.1 ≤ s.heap.size) (hS : va_S (gA g) s.heap H locs) (hS1 : va_S (gA g) s.heap H1 locs1) (hn : 1 ≤ mN h1) (hP : va_P (gD g) mCl (gW g h1) H1) (hL : mL h1 0 = mL h 0) (hI : mI h1 0 = mI h 0) : gH g h1 s H1 := by
  refine ⟨hn, hP, ?_, q.2.2.2⟩
  rw [hL, hI]
  exact q.2.2.1.kept (gX_kept q.2.2.2 hba hS hS1)
theorem gE_congr {g : mG} {h h' : mM} {a : Nat} (hK : mK h' a = mK h a) (hL : mL h' a = mL h a) (hI : mI h' a = mI h a) (hJ : mJ h' a = mJ h a) (hR : mR h' a = mR h a) : gE g h' a = gE g h a := by
  unfold gE gFs gArr gF
  rw [hK, hL, hI, hJ, hR]
theorem mI_wI_ne {h : mM} {a k a' : Nat} {v : Int32} (ha : a' ≠ a) : mI (wI h a k v) a' = mI h a' := by
  funext j
  show (if a' = a ∧ j = k then v else _) = _
  rw [if_neg (fun q => ha q.1)]
  rfl
theorem mJ_wJ_ne {h : mM} {a k a' : Nat} {v : Int64} (ha : a' ≠ a) : mJ (wJ h a k v) a' = mJ h a' := by
  funext j
  show (if a' = a ∧ j = k then v else _) = _
  rw [if_neg (fun q => ha q.1)]
  rfl
theorem mR_wR_ne {h : mM} {a k a' : Nat} {v : Option Nat} (ha : a' ≠ a) : mR (wR h a k v) a' = mR h a' := by
  funext j
  show (if a' = a ∧ j = k then v else _) = _
  rw [if_neg (fun q => ha q.1)]
  rfl
theorem mI_wC_ne {h : mM} {a b sp dp n a' : Nat} (ha : a' ≠ b) : mI (wC h a b sp dp n) a' = mI h a' := by
  funext j
  show (if a' = b ∧ dp ≤ j ∧ j < dp + n then _ else _) = _
  rw [if_neg (fun q => ha q.1)]
  rfl
theorem mI_wI {h : mM} {a k a' k' : Nat} {v : Int32} : mI (wI h a k v) a' k' = if a' = a ∧ k' = k then v else mI h a' k' := rfl
theorem mJ_wJ {h : mM} {a k a' k' : Nat} {v : Int64} : mJ (wJ h a k v) a' k' = if a' = a ∧ k' = k then v else mJ h a' k' := rfl
theorem mR_wR {h : mM} {a k a' k' : Nat} {v : Option Nat} : mR (wR h a k v) a' k' = if a' = a ∧ k' = k then v else mR h a' k' := rfl
theorem mI_wC {h : mM} {a b sp dp n a' k' : Nat} : mI (wC h a b sp dp n) a' k' = if a' = b ∧ dp ≤ k' ∧ k' < dp + n then mI h a (sp + (k' - dp)) else mI h a' k' := rfl
theorem gW_putI {g : mG} {h : mM} {a k ci : Nat} {v : Int32} (hk : mK h a = ci) (h11 : ci < 11) (hr : mIsR (tyN ci k) = false) : (gW g h).set (a - 1) (gAd g a, .inr (ci, (gFs g h a ci).set k (.int v))) = gW g (wI h a k v) := by
  have ha := mK_in (h := h) (a := a) (by omega)
  rw [← gW_set (g := g) (h := h) (h' := wI h a k v) rfl ha.1 (fun a' h1 => gE_congr rfl rfl (mI_wI_ne h1) rfl rfl), gE_obj (h := wI h a k v) hk h11, gFs_set (h' := wI h a k v)]
  · simp [gF, hr, mI_wI]
  · intro j hj
    simp [gF, mI_wI, hj]
    rfl
theorem gW_putR {g : mG} {h : mM} {a k ci b : Nat} (hk : mK h a = ci) (h11 : ci < 11) (hr : mIsR (tyN ci k) = true) : (gW g h).set (a - 1) (gAd g a, .inr (ci, (gFs g h a ci).set k (.ref (gAd g b)))) = gW g (wR h a k (some b)) := by
  have ha := mK_in (h := h) (a := a) (by omega)
  rw [← gW_set (g := g) (h := h) (h' := wR h a k (some b)) rfl ha.1 (fun a' h1 => gE_congr rfl rfl rfl rfl (mR_wR_ne h1)), gE_obj (h := wR h a k (some b)) hk h11, gFs_set (h' := wR h a k (some b))]
  · simp [gF, hr, mR_wR, va_rf]
  · intro j hj
    simp [gF, mR_wR, hj]
    rfl
theorem gW_iast {g : mG} {h : mM} {a k : Nat} {v : Int32} (hk : mK h a = 11) : (gW g h).set (a - 1) (gAd g a, .inl (g.2.2.2.2 11, mL h a, .inl (upd (mI h a) k v))) = gW g (wI h a k v) := by
  have ha := mK_in (h := h) (a := a) (by omega)
  rw [← gW_set (g := g) (h := h) (h' := wI h a k v) rfl ha.1 (fun a' h1 => gE_congr rfl rfl (mI_wI_ne h1) rfl rfl), gE_arr (h := wI h a k v) hk (by omega)]
  have e : mI (wI h a k v) a = upd (mI h a) k v := by
    funext j
    simp [mI_wI, upd]
  unfold gArr
  rw [if_pos rfl, e]
  rfl
theorem gW_copy {g : mG} {h : mM} {a b sp dp n : Nat} (hk : mK h b = 11) : (gW g h).set (b - 1) (gAd g b, .inl (g.2.2.2.2 11, mL h b, .inl (va_cpy (mI h a) (mI h b) sp dp n))) = gW g (wC h a b sp dp n) := by
  have ha := mK_in (h := h) (a := b) (by omega)
  rw [← gW_set (g := g) (h := h) (h' := wC h a b sp dp n) rfl ha.1 (fun a' h1 => gE_congr rfl rfl (mI_wC_ne h1) rfl rfl), gE_arr (h := wC h a b sp dp n) hk (by omega)]
  have e : mI (wC h a b sp dp n) b = va_cpy (mI h a) (mI h b) sp dp n := by
    funext j
    simp [mI_wC, va_cpy]
  unfold gArr
  rw [if_pos rfl, e]
  rfl
theorem gW_last {g : mG} {h : mM} {a k : Nat} {v : Int64} (hk : mK h a = 12) : (gW g h).set (a - 1) (gAd g a, .inl (g.2.2.2.2 12, mL h a, .inr (.inl (vp_updL (mJ h a) k v)))) = gW g (wJ h a k v) := by
  have ha := mK_in (h := h) (a := a) (by omega)
  rw [← gW_set (g := g) (h := h) (h' := wJ h a k v) rfl ha.1 (fun a' h1 => gE_congr rfl rfl rfl (mJ_wJ_ne h1) rfl), gE_arr (h := wJ h a k v) hk (by omega)]
  have e : mJ (wJ h a k v) a = vp_updL (mJ h a) k v := by
    funext j
    simp [mJ_wJ, vp_updL]
  unfold gArr
  rw [if_neg (by omega), if_pos rfl, e]
  rfl
theorem gW_aast {g : mG} {h : mM} {a k b q : Nat} (hk : mK h a = q) (h1 : 12 < q) (h2 : q < 19) : (gW g h).set (a - 1) (gAd g a, .inl (g.2.2.2.2 q, mL h a, .inr (.inr (.inr (.inr (va_up (fun j => (mR h a j).map (gAd g)) k (some (gAd g b)))))))) = gW g (wR h a k (some b)) := by
  have ha := mK_in (h := h) (a := a) (by omega)
  rw [← gW_set (g := g) (h := h) (h' := wR h a k (some b)) rfl ha.1 (fun a' h1 => gE_congr rfl rfl rfl rfl (mR_wR_ne h1)), gE_arr (h := wR h a k (some b)) hk (by omega)]
  have e : (fun j => (mR (wR h a k (some b)) a j).map (gAd g)) = va_up (fun j => (mR h a j).map (gAd g)) k (some (gAd g b)) := by
    funext j
    by_cases hj : j = k
    · simp [mR_wR, va_up, hj]
    · simp [mR_wR, va_up, hj]
  unfold gArr
  rw [if_neg (by omega), if_neg (by omega), e]
  rfl
theorem gAt_obj {g : mG} {h : mM} {a ci : Nat} (hk : mK h a = ci) (h11 : ci < 11) : (gW g h)[a - 1]? = some (gAd g a, .inr (ci, gFs g h a ci)) := by
  have ha := mK_in (h := h) (a := a) (by omega)
  rw [gW_at ha.1 ha.2, gE_obj hk h11]
theorem gAt_i {g : mG} {h : mM} {a : Nat} (hk : mK h a = 11) : (gW g h)[a - 1]? = some (gAd g a, .inl (g.2.2.2.2 11, mL h a, .inl (mI h a))) := by
  have ha := mK_in (h := h) (a := a) (by omega)
  rw [gW_at ha.1 ha.2, gE_arr hk (by omega)]
  rfl
theorem gAt_l {g : mG} {h : mM} {a : Nat} (hk : mK h a = 12) : (gW g h)[a - 1]? = some (gAd g a, .inl (g.2.2.2.2 12, mL h a, .inr (.inl (mJ h a)))) := by
  have ha := mK_in (h := h) (a := a) (by omega)
  rw [gW_at ha.1 ha.2, gE_arr hk (by omega)]
  rfl
theorem gAt_r {g : mG} {h : mM} {a q : Nat} (hk : mK h a = q) (h1 : 12 < q) (h2 : q < 19) : (gW g h)[a - 1]? = some (gAd g a, .inl (g.2.2.2.2 q, mL h a, .inr (.inr (.inr (.inr (fun j => (mR h a j).map (gAd g))))))) := by
  have ha := mK_in (h := h) (a := a) (by omega)
  rw [gW_at ha.1 ha.2, gE_arr hk (by omega)]
  unfold gArr
  rw [if_neg (by omega), if_neg (by omega)]
def gTy (q : Nat) : FieldType := if q = 13 then .object (RN 3) else if q = 14 then .object (RN 0) else if q = 15 then .object (RN 2) else if q = 16 then .object (RN 6) else if q = 17 then .object (RN 4) else .array .int
theorem gT_at {g : mG} {q : Nat} (h1 : 12 < q) (h2 : q < 19) : (gT g)[q - 11]? = some (g.2.2.2.2 q, gTy q) ∧ (gTy q).isReference = true := by
  rcases (show q = 13 ∨ q = 14 ∨ q = 15 ∨ q = 16 ∨ q = 17 ∨ q = 18 by omega) with h | h | h | h | h | h <;> subst h <;> exact ⟨rfl, rfl⟩
section GOH
variable {g : mG} {mi pc len : Nat} {L : mLs} {st : List Value} {h : mM}
theorem go_getfield {i : Nat} : gGo g mi pc L st h (.getfield i) len := by
  intro pc' L' st' h1 hd hs p l e R s m args below meth c H locs cells slots Q ls hC hH hS hl hcs hfr hlo hce hsl K
  obtain ⟨hx, hb, hml, hown, hts, hE, hba, hlk, hnm⟩ := hC
  simp only [mIns] at hs
  split at hs
  · rename_i hlen
    subst hlen
    unfold mGetF mNx at hs
    split at hs
    · rename_i a r
      split at hs
      · rename_i ci k hf
        split at hs
        · rename_i hk
          have hin := fGet_in hf
          have h11 : ci < 11 := (fL_ok1 _ hin).1
          have hkn : k < nfN ci := (fL_ok1 _ hin).2
          split at hs
          · rename_i hr
            split at hs
            · rename_i b hb2
              cases hs
              refine va_get (v := .ref (gAd g b)) hx hb hts (inN ci h11) hown hE.1 hH.2.1 (a - 1) (gAt_obj hk h11) (mCl_at h11) k hkn (hts _ (fL_ok _ hin)) (fun _ z => z) ?_ hd (K H locs ls cells slots (eqz rfl) (eqz rfl) hH hS hl)
              rw [gFs_at hkn]
              simp [gF, hr, hb2, va_rf]
            · cases hs
          · rename_i hr
            cases hs
            refine va_get (v := .int (mI h a k)) hx hb hts (inN ci h11) hown hE.1 hH.2.1 (a - 1) (gAt_obj hk h11) (mCl_at h11) k hkn (hts _ (fL_ok _ hin)) (fun _ z => z) ?_ hd (K H locs ls cells slots (eqz rfl) (eqz rfl) hH hS hl)
            rw [gFs_at hkn]
            simp [gF, hr]
        · cases hs
      · cases hs
    · cases hs
  · cases hs
theorem go_putfield {i : Nat} : gGo g mi pc L st h (.putfield i) len := by
  intro pc' L' st' h1 hd hs p l e R s m args below meth c H locs cells slots Q ls hC hH hS hl hcs hfr hlo hce hsl K
  obtain ⟨hx, hb, hml, hown, hts, hE, hba, hlk, hnm⟩ := hC
  simp only [mIns] at hs
  split at hs
  · rename_i hlen
    subst hlen
    unfold mPutF mNx at hs
    split at hs
    · rename_i v a r
      split at hs
      · rename_i ci k hf
        split at hs
        · rename_i hk
          obtain ⟨hk, ht, hfin⟩ := hk
          have hin := fGet_in hf
          have h11 : ci < 11 := (fL_ok1 _ hin).1
          have hkn : k < nfN ci := (fL_ok1 _ hin).2
          have ha := mK_in (h := h) (a := a) (by omega)
          cases hs
          have hr : mIsR (tyN ci k) = false := by rcases ht with ht | ht <;> simp [ht, mIsR]
          have hn : narrow (tyN ci k) (.int v) = .int v := by
            rcases ht with ht | ⟨ht, hz⟩
            · rw [ht]; rfl
            · rw [ht]
              unfold mZO at hz
              simp only [Bool.or_eq_true, beq_iff_eq] at hz
              rcases hz with rfl | rfl <;> decide
          have hfit : fits (tyN ci k) (.int v) = true := by
            rcases ht with ht | ⟨ht, hz⟩
            · rw [ht]; rfl
            · rw [ht]; exact hz
          refine va_put (v := .int v) hx hb hts (inN ci h11) (tyN ci) (tyN_ok ci h11) (nmN ci h11) hown hE.1 hH.2.1 gW_D hS (a - 1) (gAt_obj hk h11) (mCl_at h11) k hkn (hts _ (fL_ok _ hin)) (fun _ z => z) hfin (tyN_ok ci h11 k hkn) hn hfit (by rw [gFs_len]; exact hkn) hd (fun H1 locs1 hP1 hD1 hS1 => ?_)
          rw [gW_putI hk h11 hr] at hP1
          exact K H1 locs1 ls cells slots (eqz rfl) (eqz rfl) (hH.put hba hS hS1 hH.1 hP1 rfl (mI_wI_ne (by omega))) hS1 hl
        · cases hs
      · cases hs
    · rename_i b a r
      split at hs
      · rename_i ci k hf
        split at hs
        · rename_i hk
          obtain ⟨hk, hr, hfin⟩ := hk
          have hin := fGet_in hf
          have h11 : ci < 11 := (fL_ok1 _ hin).1
          have hkn : k < nfN ci := (fL_ok1 _ hin).2
          have ha := mK_in (h := h) (a := a) (by omega)
          cases hs
          have hn : narrow (tyN ci k) (.ref (gAd g b)) = .ref (gAd g b) := by
            generalize tyN ci k = ty at hr
            cases ty <;> first | rfl | (cases hr)
          have hfit : fits (tyN ci k) (.ref (gAd g b)) = true := by
            generalize tyN ci k = ty at hr
            cases ty <;> first | rfl | (cases hr)
          rcases hfin with hfin | ⟨hfin, hi, hde⟩
          · refine va_put (v := .ref (gAd g b)) hx hb hts (inN ci h11) (tyN ci) (tyN_ok ci h11) (nmN ci h11) hown hE.1 hH.2.1 gW_D hS (a - 1) (gAt_obj hk h11) (mCl_at h11) k hkn (hts _ (fL_ok _ hin)) (fun _ z => z) hfin (tyN_ok ci h11 k hkn) hn hfit (by rw [gFs_len]; exact hkn) hd (fun H1 locs1 hP1 hD1 hS1 => ?_)
            rw [gW_putR hk h11 hr] at hP1
            exact K H1 locs1 ls cells slots (eqz rfl) (eqz rfl) (hH.put hba hS hS1 hH.1 hP1 rfl rfl) hS1 hl
          · refine va_putF (v := .ref (gAd g b)) hx hb hts (inN ci h11) (tyN ci) (tyN_ok ci h11) (nmN ci h11) hown hE.1 hH.2.1 gW_D hS (a - 1) (gAt_obj hk h11) (mCl_at h11) k hkn (hts _ (fL_ok _ hin)) (fun _ z => z) hfin (hnm hi) hde (tyN_ok ci h11 k hkn) hn hfit (by rw [gFs_len]; exact hkn) hd (fun H1 locs1 hP1 hD1 hS1 => ?_)
            rw [gW_putR hk h11 hr] at hP1
            exact K H1 locs1 ls cells slots (eqz rfl) (eqz rfl) (hH.put hba hS hS1 hH.1 hP1 rfl rfl) hS1 hl
        · cases hs
      · cases hs
    · cases hs
  · cases hs
theorem go_iaload : gGo g mi pc L st h .iaload len := by
  intro pc' L' st' h1 hd hs p l e R s m args below meth c H locs cells slots Q ls hC hH hS hl hcs hfr hlo hce hsl K
  obtain ⟨hx, hb, hml, hown, hts, hE, hba, hlk, hnm⟩ := hC
  simp only [mIns, mNx] at hs
  split at hs
  · rename_i hlen
    subst hlen
    split at hs
    · rename_i i a r
      split at hs
      · rename_i hk
        obtain ⟨hk, hi⟩ := hk
        cases hs
        rcases hk with hk | hk
        · exact va_iald hx hb hE.1 hH.2.1 (a - 1) 0 (gAt_i hk) rfl (ixOK_in hi) hd (K H locs ls cells slots (eqz rfl) (eqz rfl) hH hS hl)
        · have ha : a = 0 := by
            rcases mK_le (h := h) (a := a) with q | q | q
            · omega
            · exact q.2
            · omega
          subst ha
          have hbA : ¬ gA g g.1 := fun q => by unfold gA at q; have := hH.2.2.2; omega
          have hbl : g.1 < s.heap.size := by have := hH.2.2.2; omega
          exact va_sld hx hb (hH.2.2.1.kept (hS.2.1 g.1 hbl hbA).symm) hbl hbA hS (ixOK_in hi) hd (K H locs ls cells slots (eqz rfl) (eqz rfl) hH hS hl)
      · cases hs
    · cases hs
  · cases hs
theorem go_laload : gGo g mi pc L st h .laload len := by
  intro pc' L' st' h1 hd hs p l e R s m args below meth c H locs cells slots Q ls hC hH hS hl hcs hfr hlo hce hsl K
  obtain ⟨hx, hb, hml, hown, hts, hE, hba, hlk, hnm⟩ := hC
  simp only [mIns, mNx] at hs
  split at hs
  · rename_i hlen
    subst hlen
    split at hs
    · rename_i i a r
      split at hs
      · rename_i hk
        obtain ⟨hk, hi⟩ := hk
        cases hs
        exact va_lald hx hb hE.1 hH.2.1 (a - 1) 1 (gAt_l hk) rfl (ixOK_in hi) hd (K H locs ls cells slots (eqz rfl) (eqz rfl) hH hS hl)
      · cases hs
    · cases hs
  · cases hs
theorem go_aaload : gGo g mi pc L st h .aaload len := by
  intro pc' L' st' h1 hd hs p l e R s m args below meth c H locs cells slots Q ls hC hH hS hl hcs hfr hlo hce hsl K
  obtain ⟨hx, hb, hml, hown, hts, hE, hba, hlk, hnm⟩ := hC
  simp only [mIns, mNx] at hs
  split at hs
  · rename_i hlen
    subst hlen
    split at hs
    · rename_i i a r
      split at hs
      · rename_i hk
        obtain ⟨hk, hi⟩ := hk
        split at hs
        · rename_i b hb2
          cases hs
          obtain ⟨ht, hty⟩ := gT_at (g := g) hk.1 hk.2
          have hin := ixOK_in hi
          have hlt : i.toNatClampNeg < mL h a := Nat.not_le.mp fun q => hin (Or.inr q)
          have ha := hH.2.1 _ _ (gAt_r rfl hk.1 hk.2)
          have hv : va_rf ((mR h a i.toNatClampNeg).map (gAd g)) = .ref (gAd g b) := by rw [hb2]; rfl
          exact W.aald (v := .ref (gAd g b)) (ty := gTy (mK h a)) hx hb ha ((hE.1.2 _ _ ht).1 (mL h a) (fun j => va_rf ((mR h a j).map (gAd g)))) hty (fun q => by cases q) (by show ¬ (i < 0 ∨ (arrV _ _ _).slots.size ≤ _); rw [arrV_size]; exact hin) (by show (arrV _ _ _).slots[_]? = _; rw [arrV_read _ _ hlt, hv]) rfl rfl hd (K H locs ls cells slots (eqz rfl) (eqz rfl) hH hS hl)
        · cases hs
      · cases hs
    · cases hs
  · cases hs
theorem go_iastore : gGo g mi pc L st h .iastore len := by
  intro pc' L' st' h1 hd hs p l e R s m args below meth c H locs cells slots Q ls hC hH hS hl hcs hfr hlo hce hsl K
  obtain ⟨hx, hb, hml, hown, hts, hE, hba, hlk, hnm⟩ := hC
  simp only [mIns, mNx] at hs
  split at hs
  · rename_i hlen
    subst hlen
    split at hs
    · rename_i v i a r
      split at hs
      · rename_i hk
        obtain ⟨hk, hi⟩ := hk
        cases hs
        have ha := mK_in (h := h) (a := a) (by omega)
        refine va_iast hx hb hE.1 hH.2.1 gW_D hS (a - 1) 0 (gAt_i hk) rfl (ixOK_in hi) hd (fun H1 locs1 hP1 hD1 hS1 => ?_)
        rw [gW_iast hk] at hP1
        exact K H1 locs1 ls cells slots (eqz rfl) (eqz rfl) (hH.put hba hS hS1 hH.1 hP1 rfl (mI_wI_ne (by omega))) hS1 hl
      · cases hs
    · cases hs
  · cases hs
theorem go_lastore : gGo g mi pc L st h .lastore len := by
  intro pc' L' st' h1 hd hs p l e R s m args below meth c H locs cells slots Q ls hC hH hS hl hcs hfr hlo hce hsl K
  obtain ⟨hx, hb, hml, hown, hts, hE, hba, hlk, hnm⟩ := hC
  simp only [mIns, mNx] at hs
  split at hs
  · rename_i hlen
    subst hlen
    split at hs
    · rename_i v i a r
      split at hs
      · rename_i hk
        obtain ⟨hk, hi⟩ := hk
        cases hs
        refine va_last hx hb hE.1 hH.2.1 gW_D hS (a - 1) 1 (gAt_l hk) rfl (ixOK_in hi) hd (fun H1 locs1 hP1 hD1 hS1 => ?_)
        rw [gW_last hk] at hP1
        exact K H1 locs1 ls cells slots (eqz rfl) (eqz rfl) (hH.put hba hS hS1 hH.1 hP1 rfl rfl) hS1 hl
      · cases hs
    · cases hs
  · cases hs
theorem go_aastore : gGo g mi pc L st h .aastore len := by
  intro pc' L' st' h1 hd hs p l e R s m args below meth c H locs cells slots Q ls hC hH hS hl hcs hfr hlo hce hsl K
  obtain ⟨hx, hb, hml, hown, hts, hE, hba, hlk, hnm⟩ := hC
  simp only [mIns, mNx] at hs
  split at hs
  · rename_i hlen
    subst hlen
    split at hs
    · rename_i b i a r
      split at hs
      · rename_i hk
        obtain ⟨hk, hbk, hi⟩ := hk
        cases hs
        have he : mEl (mK h a) < 11 ∧ gTy (mK h a) = .object (RN (mEl (mK h a))) := by
          rcases (show mK h a = 13 ∨ mK h a = 14 ∨ mK h a = 15 ∨ mK h a = 16 ∨ mK h a = 17 by omega) with q | q | q | q | q <;> rw [q] <;> exact ⟨by decide, rfl⟩
        obtain ⟨ht, -⟩ := gT_at (g := g) hk.1 (show mK h a < 19 by omega)
        rw [he.2] at ht
        refine va_astq (r := (RN (mEl (mK h a)), TN (mEl (mK h a)), nfN (mEl (mK h a)))) hx hb hE.1 hH.2.1 gW_D hS (a - 1) _ (b - 1) (mEl (mK h a)) (gAt_r rfl hk.1 (by omega)) ht (gAt_obj hbk he.1) (mCl_at he.1) (ixOK_in hi) hd (fun H1 locs1 hP1 hD1 hS1 => ?_)
        rw [gW_aast rfl hk.1 (by omega)] at hP1
        exact K H1 locs1 ls cells slots (eqz rfl) (eqz rfl) (hH.put hba hS hS1 hH.1 hP1 rfl rfl) hS1 hl
      · cases hs
    · cases hs
  · cases hs
theorem go_arraylength : gGo g mi pc L st h .arraylength len := by
  intro pc' L' st' h1 hd hs p l e R s m args below meth c H locs cells slots Q ls hC hH hS hl hcs hfr hlo hce hsl K
  obtain ⟨hx, hb, hml, hown, hts, hE, hba, hlk, hnm⟩ := hC
  simp only [mIns, mNx] at hs
  split at hs
  · rename_i hlen
    subst hlen
    split at hs
    · rename_i a r
      split at hs
      · rename_i hk
        cases hs
        have ha : a = 0 := by
          rcases mK_le (h := h) (a := a) with q | q | q
          · omega
          · exact q.2
          · omega
        subst ha
        have hbA : ¬ gA g g.1 := fun q => by unfold gA at q; have := hH.2.2.2; omega
        have hbl : g.1 < s.heap.size := by have := hH.2.2.2; omega
        exact va_slen hx hb (hH.2.2.1.kept (hS.2.1 g.1 hbl hbA).symm) hbl hbA hS hd (K H locs ls cells slots (eqz rfl) (eqz rfl) hH hS hl)
      · cases hs
    · cases hs
  · cases hs
end GOH
