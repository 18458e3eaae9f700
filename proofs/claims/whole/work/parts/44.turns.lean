-- the stones of the reference turn
theorem kept_M {h : mM} (q : CF h) {m : Nat} (hm : m < cfg h 0 2) : keptM h (cfg h 0 2) m (cfg h 9 m) = nI (cfg h 1 (cfg h 9 m) * kpN (cfg h) m (cfg h 0 2)) ∧ cfg h 1 (cfg h 9 m) * kpN (cfg h) m (cfg h 0 2) ≤ 25000 := by
  have k := q.1.2.2.2.1 m hm
  have ka := (q.1.2.1 _ k.2.1).1
  have n4 := q.1.1
  obtain ⟨e1, e2⟩ := kp_gen q.1 (m := m) (kc := kcM h m) (kv := mI h 122) (fun j hj => by
    have z := (q.m hj).2
    have y := (q.m hm).2
    have kj := q.1.2.2.2.1 j hj
    unfold kcM
    rw [z.2.1, y.2.1, z.2.2.1, y.2.2.1, z.2.2.2.1, dec_nI (by omega) (by omega), dlt_nI (by omega) (by omega)]
    exact ⟨rfl, rfl⟩) (cfg h 0 2) (Nat.le_refl _)
  refine ⟨?_, Nat.le_trans (Nat.mul_le_mul ka.2 e2) (by omega)⟩
  unfold keptM
  rw [e1, (q.p k.2.1).2.1, pk_mul]
/-- what holds between two stones -/
def TS (h : mM) (mt : Bool) (qs : Nat → List Sk) (f0 : Nat → Int64) (τ0 : T8) (n : N3) (τ : T8) : Prop := WF (cfg h) mt f0 n τ ∧ (∀ j, j ≠ 34 → to τ j = to τ0 j) ∧ (∀ i, i < 32 → bt (to τ 34) i = decide (i < 12 ∧ 0 < n.2.2 i)) ∧ (∀ m, m < cfg h 0 2 → tg τ m = lN (gbN n.2.2 m)) ∧ (mt = false → ts τ = ts τ0 ∧ tr τ = tr τ0 ∧ tc τ = tc τ0 ∧ te τ = te τ0) ∧ (mt = true → AC (mI h 119) (to τ0 0) 4 qs τ0 n.2.2 τ) ∧ (∀ p, cfg h 0 0 ≤ p → tw τ p = tw τ0 p)
/-- which bits may turn -/
def MY (h : mM) (may : Int32) (rn : Nat) : Prop := ∀ m s, m < cfg h 0 2 → s < cfg h 13 m → onM may (3 * m + s) = if m = rn then 0 else nI (cfg h 19 (3 * m + s))
theorem st_rest {d : Nat} {h : mM} {a : Nat} (q : CF h) (g0 : MW h a) {t : Int32} {may : Int32} {rn : Nat} (hmy : MY h may rn) {τ : T8} (hn : to τ 13 = nI (cfg h 0 2)) {s : Nat} (hm : rn < cfg h 0 2) (hs : s < cfg h 13 rn) : ev (d + 2) 106 0 [some (.ref 109), some (.ref a), some (.int t), some (.int (nI rn)), some (.int (nI (3 * rn + s))), some (.int may), none, none, none] [] (wM h a τ) = some (none, wM h a τ) := by
  have n4 := q.1.1
  have s3 := (q.1.2.2.2.1 rn hm).2.2.2.2.2
  refine r106_no g0 q.PM hm (by omega) τ hn ?_
  unfold rnM
  rw [hmy rn s hm hs, if_pos rfl]
  rfl
theorem st_turn {d : Nat} {h : mM} {a : Nat} (q : CF h) (g0 : MW h a) {t : Nat} (ht : t ≤ 200) {mt : Bool} {qs : Nat → List Sk} {f0 : Nat → Int64} {τ0 : T8} (hmt : MT mt (to τ0 36)) (hn : to τ0 13 = nI (cfg h 0 2)) (hq : QS (mI h 119) 4 qs) {may : Int32} {rn : Nat} (hmy : MY h may rn) {n : N3} {τ : T8} (T : TS h mt qs f0 τ0 n τ) (hw : WB (cfg h) n.1) {m s : Nat} (hm : m < cfg h 0 2) (hs : s < cfg h 13 m) (h0 : n.2.2 (3 * m + s) = 0) (hr : m ≠ rn) : ∃ τ', TS h mt qs f0 τ0 (stN (cfg h) t m s n) τ' ∧ ev (d + 2) 106 0 [some (.ref 109), some (.ref a), some (.int (nI t)), some (.int (nI m)), some (.int (nI (3 * m + s))), some (.int may), none, none, none] [] (wM h a τ) = some (none, wM h a τ') := by
  have T' := T
  obtain ⟨⟨r1, r2⟩, x1, x2, x3, x4, x5, x6⟩ := T
  have n4 := q.1.1
  have k := q.1.2.2.2.1 m hm
  have kp := k.2.1
  have s3 := k.2.2.2.2.2
  have ks := q.1.2.2.2.2 m s hm hs
  obtain ⟨_, s0, s1, s2, s3', s4⟩ := q.s hm hs
  obtain ⟨e1, e2⟩ := kept_M q hm
  have ka := (q.1.2.1 _ kp).1
  have w1 := wb_25 ka.2 (hw _ kp)
  have l1 : n.1 (cfg h 9 m) / cfg h 1 (cfg h 9 m) ≤ n.1 (cfg h 9 m) := Nat.div_le_self _ _
  have ed := div_M q hw r1 kp
  have h13 : to τ 13 = nI (cfg h 0 2) := (x1 13 (by omega)).trans hn
  have h36 : to τ 36 = to τ0 36 := x1 36 (by omega)
  have eb : rnM h (cfg h 0 2) may (nI t) (cfg h 9 m) m (3 * m + s) τ = decide (rnN (cfg h) t m s n.1) := by
    unfold rnM
    rw [hmy m s hm hs, if_neg hr, s0, s1, ed, r1 _ kp, e1, run_N (by omega) (by omega) (by omega) (by omega) ht w1 e2]
  by_cases b : rnN (cfg h) t m s n.1
  · have bt' : rnM h (cfg h 0 2) may (nI t) (cfg h 9 m) m (3 * m + s) τ = true := by rw [eb]; exact decide_eq_true b
    have eg : grF (mI h 127 (3 * m + s)) (mI h 128 (3 * m + s)) (tw τ (cfg h 9 m) / mI h 111 (cfg h 9 m) - nI t) = nI (grN (cfg h) t m s n.1) := by
      rw [s2, s3', ed, gr_N (by omega) (by omega) (by omega) (by omega)]
      rfl
    have hg1 : 0 < grN (cfg h) t m s n.1 := by
      unfold grN
      have : 0 < (n.1 (cfg h 9 m) / cfg h 1 (cfg h 9 m) - t) * cfg h 17 (3 * m + s) := Nat.mul_pos (by omega) (by omega)
      omega
    have hg2 : grN (cfg h) t m s n.1 ≤ 1000 := by
      unfold grN
      omega
    have en : stN (cfg h) t m s n = (upN n.1 (cfg h 9 m) (n.1 (cfg h 9 m) - cfg h 16 (3 * m + s)), upN n.2.1 3 (n.2.1 3 + cfg h 16 (3 * m + s)), upN n.2.2 (3 * m + s) (grN (cfg h) t m s n.1)) := if_pos b
    have W1 : WF (cfg h) mt f0 (stN (cfg h) t m s n) (stM h (nI t) (cfg h 9 m) m (3 * m + s) τ) := by
      rw [en]
      refine ⟨fun p hp => ?_, fun j => ?_⟩
      · show upd (tw τ) (cfg h 9 m) (tw τ (cfg h 9 m) - mI h 126 (3 * m + s)) p = nI (upN n.1 _ _ p)
        rw [r1 _ kp, s1, pk_sub b.2.2.1]
        exact upd_nI (r1 p hp)
      · show vp_updL (tf τ) 3 (tf τ 3 + mtV (to τ 36) (mI h 126 (3 * m + s))) j = _
        rw [s1, mtV_N (by rw [h36]; exact hmt) (by omega), WF_flow (by omega) r2]
    have B1 : ∀ i, i < 32 → bt (to (stM h (nI t) (cfg h 9 m) m (3 * m + s) τ) 34) i = decide (i < 12 ∧ 0 < (stN (cfg h) t m s n).2.2 i) := fun i hi => by
      rw [en]
      show bt (upd (to τ) 34 (to τ 34 ||| (1 <<< (nI (3 * m + s) &&& 31))) 34) i = decide (i < 12 ∧ 0 < upN n.2.2 (3 * m + s) (grN (cfg h) t m s n.1) i)
      rw [upd_ap, if_pos rfl, b_or, x2 i hi, bt_bit (by omega) hi, upN_ap]
      by_cases e : i = 3 * m + s
      · rw [if_pos e, decide_eq_true e, Bool.or_true, decide_eq_true ⟨by omega, hg1⟩]
      · rw [if_neg e, decide_eq_false e, Bool.or_false]
    have G1 : ∀ m', m' < cfg h 0 2 → tg (stM h (nI t) (cfg h 9 m) m (3 * m + s) τ) m' = lN (gbN (stN (cfg h) t m s n).2.2 m') := fun m' hm' => by
      rw [en]
      show vp_updL (tg τ) m (tg τ m + (grF (mI h 127 (3 * m + s)) (mI h 128 (3 * m + s)) (tw τ (cfg h 9 m) / mI h 111 (cfg h 9 m) - nI t)).toInt64) m' = lN (gbN (upN n.2.2 (3 * m + s) (grN (cfg h) t m s n.1)) m')
      rw [eg, nI_l (by omega), updL_ap]
      by_cases e : m' = m
      · subst e
        rw [if_pos rfl, x3 m' hm', gb_same (by omega) h0, lN_add]
      · rw [if_neg e, (gb_other (by omega) e).1]
        exact x3 m' hm'
    have J1 : ∀ j, j ≠ 34 → to (stM h (nI t) (cfg h 9 m) m (3 * m + s) τ) j = to τ0 j := fun j hj => by
      show upd (to τ) 34 _ j = _
      rw [upd_ap, if_neg hj]
      exact x1 j hj
    have O1 : ∀ p, cfg h 0 0 ≤ p → tw (stM h (nI t) (cfg h 9 m) m (3 * m + s) τ) p = tw τ0 p := fun p hp => by
      show upd (tw τ) (cfg h 9 m) _ p = _
      rw [upd_ap, if_neg (by omega)]
      exact x6 p hp
    have run := fun (H : mM) (hH) => r106_run (d := d) g0 q.PM hm (show 3 * m + s < 12 by omega) τ h13 bt' (H := H) hH
    rw [eg] at run
    by_cases bm : to τ 36 = 0
    · have mf : mt = false := by
        cases mt
        · rfl
        · exact absurd (h36 ▸ bm) (hmt.mp rfl)
      refine ⟨stM h (nI t) (cfg h 9 m) m (3 * m + s) τ, ⟨W1, J1, B1, G1, x4, (fun z => by rw [mf] at z; cases z), O1⟩, run _ (by rw [if_pos bm])⟩
    · have mtt : mt = true := hmt.mpr (h36 ▸ bm)
      have A := x5 mtt
      by_cases k2 : mI h 119 m = 2
      · refine ⟨uc (stM h (nI t) (cfg h 9 m) m (3 * m + s) τ) (vp_updL (tc (stM h (nI t) (cfg h 9 m) m (3 * m + s) τ)) (6 * m + 5) (tc (stM h (nI t) (cfg h 9 m) m (3 * m + s) τ) (6 * m + 5) + 1)), ⟨W1, J1, B1, G1, (fun z => by rw [mtt] at z; exact absurd z (by decide)), fun _ => ?_, O1⟩, run _ (by rw [if_neg bm]; exact r107_f g0 (by omega) _ k2)⟩
        rw [en]
        exact AC_full hq A (show m < 4 by omega) (by omega) h0 hg1 k2 ⟨rfl, rfl, rfl, rfl⟩
      · have hm4 : m < 4 := by omega
        have A1 := A.1 m hm4
        have ok := gvQ_ok (qs m) (gbN n.2.2 m) (hq m hm4).1
        obtain ⟨τ', gv, e'⟩ := r107 (d := d) g0 (m := m) (x := grN (cfg h) t m s n.1) (by omega) (by omega) (stM h (nI t) (cfg h 9 m) m (3 * m + s) τ) (Nat.le_trans ok.2 (hq m hm4).2.1) A1.1 A1.2 ok.1 k2
        have gv' := gv
        obtain ⟨v1, v2, v3, v4, _⟩ := gv'
        refine ⟨τ', ⟨⟨fun p hp => by rw [v1]; exact W1.1 p hp, fun j => by rw [v3]; exact W1.2 j⟩, fun j hj => by rw [v2]; exact J1 j hj, fun i hi => by rw [v2]; exact B1 i hi, fun m' hm' => by rw [v4]; exact G1 m' hm', (fun z => by rw [mtt] at z; exact absurd z (by decide)), fun _ => ?_, fun p hp => by rw [v1]; exact O1 p hp⟩, run _ (by rw [if_neg bm]; exact e')⟩
        rw [en]
        refine AC_step (τ1 := stM h (nI t) (cfg h 9 m) m (3 * m + s) τ) hq A (show m < 4 by omega) (by omega) h0 hg1 k2 ⟨rfl, rfl, rfl, rfl, ?_⟩ gv
        exact J1 0 (by omega)
  · have bf : rnM h (cfg h 0 2) may (nI t) (cfg h 9 m) m (3 * m + s) τ = false := by rw [eb]; exact decide_eq_false b
    have en : stN (cfg h) t m s n = n := if_neg b
    rw [en]
    exact ⟨τ, T', r106_no g0 q.PM hm (by omega) τ h13 bf⟩
