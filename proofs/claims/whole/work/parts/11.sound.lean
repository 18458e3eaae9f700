-- the run of the small machine is a run of the machine
theorem mStep_ok {mi pc : Nat} {L : mLs} {st : List Value} {h : mM} {x : mX} (hs : mStep mi pc L st h = some x) : ∃ ins len, decode (cd mi) pc = .ok (ins, len) ∧ mIns mi pc L st h ins len = some x := by
  unfold mStep at hs
  split at hs
  · rename_i ins len hd
    exact ⟨ins, len, hd, hs⟩
  · cases hs
theorem ret_ok {mi pc len : Nat} {L : mLs} {st : List Value} {h : mM} {ins : Instr} {r : Option Value} (hd : decode (cd mi) pc = .ok (ins, len)) (hs : mIns mi pc L st h ins len = some (.inr (.inl r))) : gRet mi pc r ∧ st = r.toList := by
  cases ins with
  | ireturn =>
    simp only [mIns] at hs
    split at hs
    · rename_i hlen
      subst hlen
      split at hs
      · split at hs
        · rename_i hq
          cases hs
          exact ⟨⟨hq, hd⟩, rfl⟩
        · cases hs
      · cases hs
    · cases hs
  | lreturn =>
    simp only [mIns] at hs
    split at hs
    · rename_i hlen
      subst hlen
      split at hs
      · split at hs
        · rename_i hq
          cases hs
          exact ⟨⟨hq, hd⟩, rfl⟩
        · cases hs
      · cases hs
    · cases hs
  | return_ =>
    simp only [mIns] at hs
    split at hs
    · rename_i hlen
      subst hlen
      split at hs
      · split at hs
        · rename_i hq
          cases hs
          exact ⟨⟨hq, hd⟩, rfl⟩
        · cases hs
      · cases hs
    · cases hs
  | _ =>
    exfalso
    first
    | (cases hs; done)
    | (simp only [mIns, mNx, mTg, mGetF, mPutF, mCallV, mCallI, mCallS] at hs
       (repeat' split at hs) <;> (cases hs; done))
section SOUND
variable {g : mG} {mi pc d n : Nat} {L : mLs} {st as rest : List Value} {h h1 : mM} {r1 : Option Value} {mj : Nat}
theorem gCallGo {p : Program} {l : Launch} {e : Env} {R : Room} {s : State} {m : MethodId} {args : Array Value} {below : List Frame} {meth : Method} {c : Code} {H : Heap} {locs : List Loc} {cells slots : Nat} {Q : State → Prop} {ls : Array Slot} {ins : Instr} {len : Nat}
    (hd : decode (cd mi) pc = .ok (ins, len)) (hs : mIns mi pc L st h ins len = some (.inr (.inr (mj, as, rest)))) (hP : gSnd g n) (hr : mEx n d mj 0 (mEnt mj as) [] h = some (r1, h1))
    (hC : gC g mi p s m meth c args) (hH : gH g h s H) (hS : va_S (gA g) s.heap H locs) (hl : gLs g (mx mi) ls L) (hcs : s.heap.size + cells + 1 = g.2.1 + mN h) (hfr : d + 2 ≤ R.frames) (hlo : (d + 2) * 64 ≤ R.locals) (hce : cells + (mN h1 - mN h) ≤ R.cells) (hsl : slots + (mZ h1 - mZ h) ≤ R.slots)
    (K : ∀ (H1 : Heap) (locs1 : List Loc), gH g h1 s H1 → va_S (gA g) s.heap H1 locs1 → W p l e R s m args below meth c H1 locs1 (cells + (mN h1 - mN h)) (slots + (mZ h1 - mZ h)) Q (F0 m (pc + 3) ls ((r1.toList ++ rest).map (gV g)))) :
    W p l e R s m args below meth c H locs cells slots Q (F0 m pc ls (st.map (gV g))) := by
  obtain ⟨hx, hb, hml, hown, hts, hE, hba, hlk, hnm⟩ := hC
  have hK2 : ∀ (H1 : Heap) (locs1 : List Loc), gH g h1 s H1 → va_S (gA g) s.heap H1 locs1 → W p l e R s m args below meth c H1 locs1 (cells + (mN h1 - mN h)) (slots + (mZ h1 - mZ h)) Q (F0 m (pc + 3) ls ((r1.map (gV g)).toList ++ rest.map (gV g))) := fun H1 locs1 a1 a2 => by
    have h3 := K H1 locs1 a1 a2
    rw [List.map_append] at h3
    have e1 : r1.toList.map (gV g) = (r1.map (gV g)).toList := by cases r1 <;> rfl
    rw [e1] at h3
    exact h3
  refine W.size fun hz0 => ?_
  have hz := gSize hH hS hba hcs hz0
  have hz1 : H.size + 1 = g.2.1 + mN h := by have := hH.1; omega
  have hR : ∀ k, k < 122 → (gRm d (mN h1 - mN h) (mZ h1 - mZ h)).frames + 1 ≤ R.frames ∧ 8 + (mx k + 11) + (gRm d (mN h1 - mN h) (mZ h1 - mZ h)).locals ≤ R.locals := fun k hk => by
    have := (yn_ok k hk).2.2.2.2.1
    refine ⟨?_, ?_⟩
    · show d + 1 + 1 ≤ _
      omega
    · show 8 + (mx k + 11) + (d + 1) * 64 ≤ _
      omega
  cases ins with
  | invokevirtual i =>
    simp only [mIns] at hs
    split at hs
    · rename_i hlen
      subst hlen
      unfold mCallV at hs
      split at hs
      · rename_i kd mk hf
        split at hs
        · rename_i a r hdr
          split at hs
          · rename_i hq
            obtain ⟨rfl, hka, hnl, hcr, hfit⟩ := hq
            cases hs
            have hin := kGet_in hf
            have hm := mLk_ok _ hin
            have hk := (mLk_name _ hin (Nat.zero_le _)).1
            have hy := yn_ok mj hk
            have hMt := gMet (l := l) hk hP hfit hr
            rw [map_rev hdr]
            refine gCallW (va_runV (As := ((st.take (na mj)).reverse).map (gV g)) (rest := rest.map (gV g)) (C := RN (ow mj)) ⟨hx, hb, hml, hown, hts⟩ hMt (cwV (na mj) hts (gGood fun w hw => ?_) rfl rfl rfl ⟨hy.2.2.2.2.2, hy.2.1, hy.2.2.1, hy.2.2.2.1⟩ (hR mj hk)) ⟨gPc_blind, va_recv hE.1 hH.2.1 (mCl_at (ci := ow mj) ?_) (gAt_obj hka ?_), fun U hU hW => gPc_at hH hE hz1 hU hW⟩ rfl ?_ hl.1 rfl (lv_room (by rw [gCat]; exact hcr)) hd ⟨hce, hsl⟩) hS hba hK2
            · rcases List.mem_append.mp hw with h2 | h2
              · refine hm w ?_
                simp only [List.mem_cons, List.not_mem_nil, or_false] at h2
                simp only [mKinds, if_pos, List.mem_cons, List.not_mem_nil, or_false]
                exact h2
              · exact gWs_in hk w h2
            · have := mLk_own _ hin rfl; exact this
            · have := mLk_own _ hin rfl; exact this
            · rw [List.length_map, List.length_reverse, List.length_take]
              omega
          · cases hs
        · cases hs
      · cases hs
    · cases hs
  | invokespecial i =>
    simp only [mIns] at hs
    split at hs
    · rename_i hlen
      subst hlen
      unfold mCallI mNx at hs
      split at hs
      · rename_i kd mk hf
        split at hs
        · split at hs
          · split at hs
            · cases hs
            · cases hs
          · cases hs
        · split at hs
          · rename_i a r hdr
            split at hs
            · rename_i hq
              obtain ⟨hkd, hnl, hcr, hfit⟩ := hq
              cases hs
              have hin := kGet_in hf
              have hm := mLk_ok _ hin
              have hk := (mLk_name _ hin (by simp only; omega)).1
              have hini := (mLk_name _ hin (by simp only; omega)).2 hkd
              have hy := yn_ok mj hk
              have hMt := gMet (l := l) hk hP hfit hr
              rw [map_rev hdr]
              have hlen : (((st.take (na mj)).reverse).map (gV g)).length = na mj := by
                rw [List.length_map, List.length_reverse, List.length_take]
                omega
              rcases hkd with rfl | rfl
              · refine gCallW (va_runI (bytes := cd mj) (maxL := mx mj) (As := ((st.take (na mj)).reverse).map (gV g)) (rest := rest.map (gV g)) ⟨hx, hb, hml, hown, hts⟩ hMt ?_ ⟨gPc_blind, fun U hU hW => gPc_at hH hE hz1 hU hW⟩ rfl hlen hl.1 rfl (lv_room (by rw [gCat]; exact hcr)) hd ⟨hce, hsl⟩) hS hba hK2
                refine cwI (bytes := cd mj) (maxL := mx mj) (na mj) hts (gGood (gWs_in hk)) (by unfold gWs; rw [hini.2]) rfl rfl (hts _ (hm _ (by rw [hy.2.2.2.2.2]; simp [mKinds]))) (hts _ (hm _ (by simp [mKinds]))) (hts _ (hm _ (by simp [mKinds]))) hini.1 ⟨hy.2.1, hy.2.2.1, hy.2.2.2.1⟩ (hR mj hk)
              · refine gCallW (va_runIN (As := ((st.take (na mj)).reverse).map (gV g)) (rest := rest.map (gV g)) (host := "TideMill") ⟨hx, hb, hml, hown, hts⟩ hMt ⟨va_cnB (bytes := cd mj) (maxL := mx mj) (na mj) hts (gGood (gWs_in hk)) (by unfold gWs; rw [hini.2]) rfl rfl (hE.2.1 _ (mLk_nest _ hin (Or.inr rfl))) (hts _ (hm _ (by rw [hy.2.2.2.2.2]; simp [mKinds]))) ⟨hy.2.1, hy.2.2.1, hy.2.2.2.1⟩ (hR mj hk), hini.1, hts _ (hm _ (by simp [mKinds]))⟩ ⟨gPc_blind, fun U hU hW => gPc_at hH hE hz1 hU hW⟩ rfl hlen hl.1 rfl (lv_room (by rw [gCat]; exact hcr)) hd ⟨hce, hsl⟩) hS hba hK2
            · cases hs
          · cases hs
      · cases hs
    · cases hs
  | invokestatic i =>
    simp only [mIns] at hs
    split at hs
    · rename_i hlen
      subst hlen
      unfold mCallS mNx at hs
      split at hs
      · rename_i kd mk hf
        split at hs
        · (repeat' split at hs) <;> cases hs
        · split at hs
          · (repeat' split at hs) <;> cases hs
          · split at hs
            · (repeat' split at hs) <;> cases hs
            · split at hs
              · (repeat' split at hs) <;> cases hs
              · split at hs
                · rename_i hq
                  obtain ⟨hkd, hnl, hcr, hfit⟩ := hq
                  cases hs
                  have hin := kGet_in hf
                  have hm := mLk_ok _ hin
                  have hk := (mLk_name _ hin (by simp only; omega)).1
                  have hy := yn_ok mj hk
                  have hMt := gMet (l := l) hk hP hfit hr
                  rw [map_revS (g := g) (st := st) (n := na mj)]
                  have hlen : (((st.take (na mj)).reverse).map (gV g)).length = na mj := by
                    rw [List.length_map, List.length_reverse, List.length_take]
                    omega
                  rcases hkd with rfl | rfl
                  · refine gCallW (va_runS (As := ((st.take (na mj)).reverse).map (gV g)) (rest := (st.drop (na mj)).map (gV g)) ⟨hx, hb, hml, hown, hts⟩ hMt (va_cwS (na mj) hts (gGood fun w hw => ?_) rfl rfl rfl ⟨hy.2.1, hy.2.2.1, hy.2.2.2.1⟩ (hR mj hk)) ⟨gPc_blind, fun U hU hW => gPc_at hH hE hz1 hU hW⟩ rfl hlen hl.1 rfl (lv_room (by rw [gCat]; exact hcr)) hd ⟨hce, hsl⟩) hS hba hK2
                    rcases List.mem_append.mp hw with h2 | h2
                    · refine hm w ?_
                      simp only [List.mem_cons, List.not_mem_nil, or_false, hy.2.2.2.2.2] at h2
                      simp [mKinds]
                      exact h2
                    · exact gWs_in hk w h2
                  · exact gCallW (va_runSN (As := ((st.take (na mj)).reverse).map (gV g)) (rest := (st.drop (na mj)).map (gV g)) (host := "TideMill") ⟨hx, hb, hml, hown, hts⟩ hMt ⟨va_cnB (na mj) hts (gGood (gWs_in hk)) rfl rfl rfl (hE.2.1 _ (mLk_nest _ hin (Or.inl rfl))) (hts _ (hm _ (by rw [hy.2.2.2.2.2]; simp [mKinds]))) ⟨hy.2.1, hy.2.2.1, hy.2.2.2.1⟩ (hR mj hk), hts _ (hm _ (by simp [mKinds])), trivial⟩ ⟨gPc_blind, fun U hU hW => gPc_at hH hE hz1 hU hW⟩ rfl hlen hl.1 rfl (lv_room (by rw [gCat]; exact hcr)) hd ⟨hce, hsl⟩) hS hba hK2
                · cases hs
      · cases hs
    · cases hs
  | _ =>
    exfalso
    first
    | (cases hs; done)
    | (simp only [mIns, mNx, mTg, mGetF, mPutF] at hs
       (repeat' split at hs) <;> (cases hs; done))
end SOUND
theorem gSnd_all (g : mG) : ∀ n, gSnd g n := by
  intro n
  induction n with
  | zero =>
    intro d mi pc L st h h' r hr
    exact absurd hr (by simp [mEx])
  | succ n ih =>
    intro d mi pc L st h h' r hr p l e R s m args below meth c H locs cells slots Q ls hC hH hS hl hcs hfr hlo hce hsl K
    rw [mEx_s] at hr
    cases hs : mStep mi pc L st h with
    | none => rw [hs] at hr; cases hr
    | some x =>
      rw [hs] at hr
      obtain ⟨ins, len, hd, hi⟩ := mStep_ok hs
      rcases x with x | x | x
      · obtain ⟨pc', L', st', h1⟩ := x
        have g1 := mIns_mono hi
        have g2 := mEx_grow _ _ _ _ _ _ _ _ _ hr
        simp only at g2
        refine go_all ins pc' L' st' h1 hd hi p l e R s m args below meth c H locs cells slots Q ls hC hH hS hl hcs (by omega) (by omega) (by omega) (by omega) ?_
        intro H1 locs1 ls1 c1 s1 e1 e2 hH1 hS1 hl1
        refine ih d mi pc' L' st' h1 h' r hr p l e R s m args below meth c H1 locs1 c1 s1 Q ls1 hC hH1 hS1 hl1 (by omega) hfr hlo (by omega) (by omega) ?_
        intro pc2 ls2 H2 locs2 c2 s2 e3 e4 hret hH2 hS2
        exact K pc2 ls2 H2 locs2 c2 s2 (by omega) (by omega) hret hH2 hS2
      · cases hr
        obtain ⟨hret, hst⟩ := ret_ok hd hi
        rw [hst]
        have := K pc ls H locs cells slots (eqz rfl) (eqz rfl) hret hH hS
        have e1 : r.toList.map (gV g) = (r.map (gV g)).toList := by cases r <;> rfl
        rw [e1]
        exact this
      · obtain ⟨mj, as, rest⟩ := x
        cases d with
        | zero => cases hr
        | succ d =>
          simp only at hr
          cases hc : mEx n d mj 0 (mEnt mj as) [] h with
          | none => rw [hc] at hr; cases hr
          | some y =>
            rw [hc] at hr
            obtain ⟨r1, h1⟩ := y
            have g1 := mEx_grow _ _ _ _ _ _ _ _ _ hc
            have g2 := mEx_grow _ _ _ _ _ _ _ _ _ hr
            simp only at g2
            refine gCallGo hd hi ih hc hC hH hS hl hcs (by omega) (by omega) (by omega) (by omega) ?_
            intro H1 locs1 hH1 hS1
            refine ih (d + 1) mi (pc + 3) L (r1.toList ++ rest) h1 h' r hr p l e R s m args below meth c H1 locs1 _ _ Q ls hC hH1 hS1 hl (by omega) hfr hlo (by omega) (by omega) ?_
            intro pc2 ls2 H2 locs2 c2 s2 e3 e4 hret hH2 hS2
            exact K pc2 ls2 H2 locs2 c2 s2 (by omega) (by omega) hret hH2 hS2
