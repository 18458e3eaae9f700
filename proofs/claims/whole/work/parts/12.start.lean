-- the law's start, out of an equation of the small machine
theorem inst_ok : ∀ k, k < 11 → ∃ q ∈ nL, q.2.2 = k := by decide +kernel
theorem known_all {s : State} {args : Array Value} (hts : ∀ w ∈ lw_good, w.before args s = true) : ∃ (dC : Nat → ClassId) (dI : Nat → Nat → Nat), ∀ (c : Nat) (q : vw_C), mCl[c]? = some q → u_Kn s q.1 q.2.1 q.2.2 (dC c) (dI c) := by
  have h1 : ∀ k, ∃ x : ClassId × (Nat → Nat), k < 11 → u_Kn s (RN k) (TN k) (nfN k) x.1 x.2 := by
    intro k
    by_cases hk : k < 11
    · obtain ⟨q, hq, e⟩ := inst_ok k hk
      subst e
      obtain ⟨cC, iS, h⟩ := u_known (C := RN q.2.2) (T := TN q.2.2) (N := nfN q.2.2) (n := nfN q.2.2) hts (inN _ hk) (hts _ (nL_in (a := q.1) (b := q.2.1) hq))
      exact ⟨(cC, iS), fun _ => h⟩
    · exact ⟨(0, fun _ => 0), fun h => absurd h hk⟩
  refine ⟨fun k => (Classical.choose (h1 k)).1, fun k => (Classical.choose (h1 k)).2, fun c q hq => ?_⟩
  have hc : c < 11 := by
    have := (List.getElem?_eq_some_iff.mp hq).1
    simpa [mCl] using this
  rw [mCl_at hc] at hq
  cases hq
  exact Classical.choose_spec (h1 c) hc
theorem arr_p {s : State} {args : Array Value} {ty : FieldType} (h : (Cond.arrayClass ty).before args s = true) (hp : ∀ C, ty ≠ .object C) : ∃ cA, ArrOfT s cA ty ∧ va_RA s cA ty := by
  obtain ⟨c, k, comp, h1, h2, h3⟩ := Cond.arrayClass_spec h
  refine ⟨c, fun N z => ⟨(fun k h => by cases h), k, h2, comp, h3⟩, ?_⟩
  cases ty with
  | object C => exact absurd rfl (hp C)
  | _ => exact h1
theorem arr_o {s : State} {args : Array Value} {C : String} (h : (Cond.arrayOver (.object C)).before args s = true) : ∃ cA, ArrOfT s cA (.object C) ∧ va_RA s cA (.object C) := by
  obtain ⟨comp, c, k, h1, -, h3, h4, h5⟩ := Cond.arrayOver_spec h
  exact ⟨c, fun N z => ⟨(fun k h => by cases h), k, h3, comp, h4⟩, k, comp, h3, h4, h1, h5⟩
theorem arr_a {s : State} {args : Array Value} (h : (Cond.arrayOver (.array .int)).before args s = true) : ∃ cA, ArrOfT s cA (.array .int) ∧ va_RA s cA (.array .int) := by
  obtain ⟨comp, c, k, h1, -, h3, h4, h5⟩ := arrayOver_specB h
  exact ⟨c, fun N z => ⟨(fun k h => by cases h), k, h3, comp, h4⟩, h5⟩
theorem kinds_all {s : State} {args : Array Value} (hts : ∀ w ∈ lw_tbl, w.before args s = true) (hg : ∀ w ∈ lw_good, w.before args s = true) (b base : Nat) (dC : Nat → ClassId) (dI : Nat → Nat → Nat) : ∃ kA : Nat → ClassId, ∀ (k : Nat) (q : ClassId × FieldType), (gT (b, base, dC, dI, kA))[k]? = some q → ArrOfT s q.1 q.2 ∧ va_RA s q.1 q.2 := by
  obtain ⟨a0, h0⟩ := arr_p (hg _ (arr_ok (.arrayClass .int) (by simp))) (fun C h => by cases h)
  obtain ⟨a1, h1⟩ := arr_p (hg _ (arr_ok (.arrayClass .long) (by simp))) (fun C h => by cases h)
  obtain ⟨a2, h2⟩ := arr_o (hts _ (aoL_in 3 (by decide)))
  obtain ⟨a3, h3⟩ := arr_o (hts _ (aoL_in 0 (by decide)))
  obtain ⟨a4, h4⟩ := arr_o (hts _ (aoL_in 2 (by decide)))
  obtain ⟨a5, h5⟩ := arr_o (hts _ (aoL_in 6 (by decide)))
  obtain ⟨a6, h6⟩ := arr_o (hts _ (aoL_in 4 (by decide)))
  obtain ⟨a7, h7⟩ := arr_a (hts _ (ao2_in _ List.mem_cons_self))
  refine ⟨fun q => if q = 11 then a0 else if q = 12 then a1 else if q = 13 then a2 else if q = 14 then a3 else if q = 15 then a4 else if q = 16 then a5 else if q = 17 then a6 else a7, fun k q hq => ?_⟩
  match k, hq with
  | 0, hq => cases hq; exact h0
  | 1, hq => cases hq; exact h1
  | 2, hq => cases hq; exact h2
  | 3, hq => cases hq; exact h3
  | 4, hq => cases hq; exact h4
  | 5, hq => cases hq; exact h5
  | 6, hq => cases hq; exact h6
  | 7, hq => cases hq; exact h7
  | k + 8, hq => cases hq
/-- the small machine's memory as the law begins: the script alone -/
def m0 (L : Nat) (xs : Nat → Int32) : mM := (1, 0, fun _ => (19, L), fun _ k => xs k, fun _ _ => 0, fun _ _ => none)
theorem start_of {p : Program} {e : Env} {s : State} {m : MethodId} {below : List Frame} {meth : Method} {c : Code} (l : Launch) {b L : Nat} {xs : Nat → Int32} (C0 : p.tables.exec = Jvm.exec ∧ c.code = code ∧ meth.sig.returnType = ret ∧ c.maxLocals = 4 ∧ s.vm.findClass RL = some m.cls ∧ (∀ w ∈ lw_tbl, w.before #[Value.ref b] s = true) ∧ va_X b L xs s s.heap ∧ b < s.heap.size ∧ meth.locks = false) {h' : mM} (hev : ev 40 122 0 [some (.ref 0), none, none, none] [] (m0 L xs) = some (some (.int 1), h')) {R : Room} (hR : 41 ≤ R.frames ∧ 2624 ≤ R.locals ∧ mN h' - 1 ≤ R.cells ∧ mZ h' ≤ R.slots) {Q : State → Prop}
    (K : ∀ (pc' : Nat) (ls' : Array Slot) (H' : Heap) (locs' : List Loc), decode code pc' = .ok (.ireturn, 1) → (∀ q ∈ locs', s.heap.size ≤ q.base) → W p l e R s m #[Value.ref b] below meth c H' locs' (mN h' - 1) (mZ h') Q (F0 m pc' ls' [.int 1])) : W p l e R s m #[Value.ref b] below meth c s.heap [] 0 0 Q (entryFrame m ([Value.ref b] : List Value).toArray 4) := by
  obtain ⟨hx, hb, hr, hml, hown, hts, hX, hbl, hlocks⟩ := C0
  have hg : ∀ w ∈ lw_good, w.before #[Value.ref b] s = true := fun w hw => hts w (lw_good_in hw)
  obtain ⟨dC, dI, hKc⟩ := known_all hg
  obtain ⟨kA, hKt⟩ := kinds_all hts hg b s.heap.size dC dI
  obtain ⟨n, hn⟩ := ev_iff.mp hev
  have hE : gEnv (b, s.heap.size, dC, dI, kA) s := by
    refine ⟨⟨hKc, hKt⟩, fun w hw => ?_, fun k hk => va_AO.of (hts _ (aoL_in k hk)), ?_⟩
    · obtain ⟨a, i, x, h, rfl⟩ := nestL_form w hw
      exact va_Nw.of rfl (hts _ (nestL_in _ hw))
    · exact arrayOver_alikeB (Vm.Alike.refl _) (hts _ (ao2_in _ List.mem_cons_self))
  have hH : gH (b, s.heap.size, dC, dI, kA) (m0 L xs) s s.heap := ⟨Nat.le_refl 1, (fun k q h => by cases h), hX, hbl⟩
  rw [lg_entry_eq]
  have hl := lv_entry ([.ref b]) (n := 4) (Nat.le_of_ble_eq_true rfl)
  generalize (lg_sl ([.ref b]) ++ List.replicate (4 - (lg_sl ([.ref b])).length) Slot.unset).toArray = ls at hl ⊢
  refine gSnd_all (b, s.heap.size, dC, dI, kA) n 40 122 0 _ [] (m0 L xs) h' _ hn p l e R s m _ below meth c s.heap [] 0 0 Q ls ⟨hx, hb, hml, hown, hg, hE, Nat.le_refl _, hlocks, fun z => absurd z (by decide)⟩ hH va_S.rf (gLs_sub hl fun q hq => ?_) rfl (by omega) (by omega) ?_ ?_ ?_
  · obtain ⟨v, h1, h2⟩ := gLv_mem.mp hq
    obtain ⟨j, w⟩ := q
    simp only at h1 h2
    match j, h1 with
    | 0, h1 => cases h1; subst h2; exact List.mem_cons_self
    | 1, h1 => cases h1
    | 2, h1 => cases h1
    | 3, h1 => cases h1
    | j + 4, h1 => cases h1
  · show 0 + (mN h' - 1) ≤ _
    omega
  · show 0 + (mZ h' - 0) ≤ _
    omega
  · intro pc' ls' H' locs' c1 s1 e1 e2 hret hH' hS'
    have e1 : c1 = mN h' - 1 := by rw [e1]; show 0 + (mN h' - 1) = _; omega
    have e2 : s1 = mZ h' := by rw [e2]; show 0 + (mZ h' - 0) = _; omega
    subst e1
    subst e2
    exact K pc' ls' H' locs' hret.2 hS'.2.2
