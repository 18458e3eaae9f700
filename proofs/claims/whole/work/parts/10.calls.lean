-- calls, the whole run, contracts
theorem go_ret {g : mG} {mi pc len : Nat} {L : mLs} {st : List Value} {h : mM} {ins : Instr} (hno : ∀ x, mIns mi pc L st h ins len ≠ some (.inl x)) : gGo g mi pc L st h ins len := by
  intro pc' L' st' h1 hd hs
  exact absurd hs (hno _)
set_option maxHeartbeats 4000000 in
theorem go_all {g : mG} {mi pc len : Nat} {L : mLs} {st : List Value} {h : mM} (ins : Instr) : gGo g mi pc L st h ins len := by
  cases ins with
  | iconst => exact go_iconst
  | bipush => exact go_bipush
  | sipush => exact go_sipush
  | lconst => exact go_lconst
  | ldc => exact go_ldc
  | ldc_w => exact go_ldc_w
  | ldc2_w => exact go_ldc2_w
  | iload_n => exact go_iload_n
  | iload => exact go_iload
  | lload_n => exact go_lload_n
  | lload => exact go_lload
  | aload_n => exact go_aload_n
  | aload => exact go_aload
  | istore_n => exact go_istore_n
  | istore => exact go_istore
  | astore_n => exact go_astore_n
  | astore => exact go_astore
  | lstore_n => exact go_lstore_n
  | lstore => exact go_lstore
  | iinc => exact go_iinc
  | iadd => exact go_iadd
  | isub => exact go_isub
  | imul => exact go_imul
  | iand => exact go_iand
  | ior => exact go_ior
  | ixor => exact go_ixor
  | ishl => exact go_ishl
  | ishr => exact go_ishr
  | iushr => exact go_iushr
  | idiv => exact go_idiv
  | irem => exact go_irem
  | ladd => exact go_ladd
  | lsub => exact go_lsub
  | lcmp => exact go_lcmp
  | ineg => exact go_ineg
  | i2l => exact go_i2l
  | l2i => exact go_l2i
  | pop => exact go_pop
  | dup => exact go_dup
  | dup2 => exact go_dup2
  | ifCond => exact go_ifCond
  | if_icmp => exact go_if_icmp
  | goto => exact go_goto
  | tableswitch => exact go_tableswitch
  | getfield => exact go_getfield
  | putfield => exact go_putfield
  | iaload => exact go_iaload
  | laload => exact go_laload
  | aaload => exact go_aaload
  | iastore => exact go_iastore
  | lastore => exact go_lastore
  | aastore => exact go_aastore
  | arraylength => exact go_arraylength
  | newarray => exact go_newarray
  | anewarray => exact go_anewarray
  | multianewarray => exact go_multianewarray
  | new => exact go_new
  | invokevirtual => exact go_invokevirtual
  | invokespecial => exact go_invokespecial
  | invokestatic => exact go_invokestatic
  | ireturn =>
    refine go_ret fun x hs => ?_
    simp only [mIns] at hs
    repeat' split at hs
    all_goals cases hs
  | lreturn =>
    refine go_ret fun x hs => ?_
    simp only [mIns] at hs
    repeat' split at hs
    all_goals cases hs
  | return_ =>
    refine go_ret fun x hs => ?_
    simp only [mIns] at hs
    repeat' split at hs
    all_goals cases hs
  | _ => exact go_ret fun x hs => by cases hs
theorem mono_nx {pc pc' : Nat} {L L' : mLs} {st st' : List Value} {h h1 h0 : mM} (hs : mNx pc L st h = some (.inl (pc', L', st', h1))) (q : mN h0 ≤ mN h ∧ mZ h0 ≤ mZ h) : mN h0 ≤ mN h1 ∧ mZ h0 ≤ mZ h1 := by
  cases hs
  exact q
theorem mono_tg {pc pc' : Nat} {off : Int} {L L' : mLs} {st st' : List Value} {h h1 h0 : mM} (hs : mTg pc off L st h = some (.inl (pc', L', st', h1))) (q : mN h0 ≤ mN h ∧ mZ h0 ≤ mZ h) : mN h0 ≤ mN h1 ∧ mZ h0 ≤ mZ h1 := by
  unfold mTg at hs
  split at hs
  · exact mono_nx hs q
  · cases hs
theorem le_self2 {h : mM} : mN h ≤ mN h ∧ mZ h ≤ mZ h := ⟨Nat.le_refl _, Nat.le_refl _⟩
theorem le_wN {h : mM} {q n : Nat} : mN h ≤ mN (wN h q n) ∧ mZ h ≤ mZ (wN h q n) := ⟨Nat.le_succ _, Nat.le_add_right _ _⟩
theorem le_wGrid {h : mM} {n m : Nat} : mN h ≤ mN (wGrid h n m) ∧ mZ h ≤ mZ (wGrid h n m) := ⟨by show h.1 ≤ h.1 + 1 + n; omega, by show h.2.1 ≤ h.2.1 + n + n * m; omega⟩
set_option maxHeartbeats 4000000 in
theorem mIns_mono {mi pc pc' len : Nat} {L L' : mLs} {st st' : List Value} {h h1 : mM} {ins : Instr} (hs : mIns mi pc L st h ins len = some (.inl (pc', L', st', h1))) : mN h ≤ mN h1 ∧ mZ h ≤ mZ h1 := by
  cases ins <;> (first | (cases hs; done) | (simp only [mIns, mGetF, mPutF, mCallV, mCallI, mCallS] at hs; (repeat' split at hs) <;> first | (cases hs; done) | exact mono_nx hs le_self2 | exact mono_tg hs le_self2 | exact mono_nx hs le_wN | exact mono_nx hs le_wGrid))
theorem mEx_grow : ∀ (n d mi pc : Nat) (L : mLs) (st : List Value) (h : mM) (r : Option Value) (h' : mM), mEx n d mi pc L st h = some (r, h') → mN h ≤ mN h' ∧ mZ h ≤ mZ h' := by
  intro n
  induction n with
  | zero => intro d mi pc L st h r h' hr; exact absurd hr (by simp [mEx])
  | succ n ih =>
    intro d mi pc L st h r h' hr
    rw [mEx_s] at hr
    cases hs : mStep mi pc L st h with
    | none => rw [hs] at hr; cases hr
    | some x =>
      rw [hs] at hr
      rcases x with x | x | x
      · have h1 := ih _ _ _ _ _ _ _ _ hr
        unfold mStep at hs
        split at hs
        · have h2 := mIns_mono (h1 := x.2.2.2) hs
          exact ⟨Nat.le_trans h2.1 h1.1, Nat.le_trans h2.2 h1.2⟩
        · cases hs
      · cases hr
        exact le_self2
      · cases d with
        | zero => cases hr
        | succ d =>
          simp only at hr
          cases hc : mEx n d x.1 0 (mEnt x.1 x.2.1) [] h with
          | none => rw [hc] at hr; cases hr
          | some y =>
            rw [hc] at hr
            have h1 := ih _ _ _ _ _ _ _ _ hc
            have h2 := ih _ _ _ _ _ _ _ _ hr
            exact ⟨Nat.le_trans h1.1 h2.1, Nat.le_trans h1.2 h2.2⟩
def gRet (mi pc : Nat) (r : Option Value) : Prop := match r with
  | none => mrt mi = none ∧ decode (cd mi) pc = .ok (.return_, 1)
  | some (.int v) => (mrt mi = some .int ∨ (mrt mi = some .boolean ∧ mZO v = true)) ∧ decode (cd mi) pc = .ok (.ireturn, 1)
  | some (.long v) => mrt mi = some .long ∧ decode (cd mi) pc = .ok (.lreturn, 1)
  | _ => False
/-- the run from here on is one of the machine's -/
def gSnd (g : mG) (n : Nat) : Prop := ∀ (d mi pc : Nat) (L : mLs) (st : List Value) (h h' : mM) (r : Option Value), mEx n d mi pc L st h = some (r, h') →
  ∀ (p : Program) (l : Launch) (e : Env) (R : Room) (s : State) (m : MethodId) (args : Array Value) (below : List Frame) (meth : Method) (c : Code) (H : Heap) (locs : List Loc) (cells slots : Nat) (Q : State → Prop) (ls : Array Slot), gC g mi p s m meth c args → gH g h s H → va_S (gA g) s.heap H locs → gLs g (mx mi) ls L → s.heap.size + cells + 1 = g.2.1 + mN h → d + 1 ≤ R.frames → (d + 1) * 64 ≤ R.locals → cells + (mN h' - mN h) ≤ R.cells → slots + (mZ h' - mZ h) ≤ R.slots →
  (∀ (pc' : Nat) (ls' : Array Slot) (H' : Heap) (locs' : List Loc) (c1 s1 : Nat), c1 = cells + (mN h' - mN h) → s1 = slots + (mZ h' - mZ h) → gRet mi pc' r → gH g h' s H' → va_S (gA g) s.heap H' locs' → W p l e R s m args below meth c H' locs' c1 s1 Q (F0 m pc' ls' ((r.map (gV g)).toList))) →
  W p l e R s m args below meth c H locs cells slots Q (F0 m pc ls (st.map (gV g)))
def gRm (d mc ms : Nat) : Room := { frames := d + 1, cells := mc, slots := ms, locals := (d + 1) * 64 }
def gWs (k : Nat) : List Cond := Cond.code (yn k) (cd k) (mx k) (mrt k) :: lw_good
def gPc (g : mG) (as : List Value) (h : mM) : Array Value → State → Prop := va_Pc (as.map (gV g)) (fun U => gH g h U U.heap ∧ gEnv g U ∧ U.heap.size + 1 = g.2.1 + mN h)
def gQc (g : mG) (r : Option Value) (h' : mM) : Array Value → State → Outcome → State → Prop := fun _ st oc t => oc = .returned (r.map (gV g)) ∧ gH g h' t t.heap ∧ st.heap.size ≤ t.heap.size ∧ ∀ q : Nat, q < g.2.1 → t.heap[q]? = st.heap[q]?
theorem gWs_in {k : Nat} (hk : k < 122) : ∀ w ∈ gWs k, w ∈ lw_good := by
  intro w hw
  rcases List.mem_cons.mp hw with h | h
  · subst h
    exact mCode_in k hk
  · exact h
theorem gGood {ws : List Cond} (h : ∀ w ∈ ws, w ∈ lw_good) : GoodIn lw_good ws := fun w hw => ⟨h w hw, good_of_word (lw_good_g (h w hw))⟩
theorem lg_len (vs : List Value) : (lg_sl vs).length = (vs.map fun v => v.category).sum := by
  induction vs with
  | nil => rfl
  | cons v vs ih =>
    have e : lg_sl (v :: vs) = (if v.category = 2 then [.val v, .second] else [.val v]) ++ lg_sl vs := rfl
    rw [e, List.length_append, ih]
    have := lv_cat v
    simp only [List.map_cons, List.sum_cons]
    split
    · rename_i h
      rw [h]
      rfl
    · rename_i h
      have : v.category = 1 := by omega
      rw [this]
      rfl
theorem mSl_args {g : mG} : ∀ (as : List Value) (i j : Nat) (v : Value), (mSl as).getD j none = some v → (i + j, gV g v) ∈ lv_args i (as.map (gV g))
  | [], i, j, v, h => by cases j <;> cases h
  | a :: as, i, j, v, h => by
    have e : mSl (a :: as) = (if a.category = 2 then [some a, none] else [some a]) ++ mSl as := rfl
    rw [e] at h
    show _ ∈ (i, gV g a) :: lv_args (if (gV g a).category = 2 then i + 2 else i + 1) (as.map (gV g))
    rw [gV_cat]
    by_cases hc : a.category = 2
    · rw [if_pos hc] at h ⊢
      match j, h with
      | 0, h => cases h; exact List.mem_cons_self
      | 1, h => cases h
      | j + 2, h =>
        refine List.mem_cons_of_mem _ ?_
        have := mSl_args (g := g) as (i + 2) j v h
        rw [show i + (j + 2) = i + 2 + j by omega]
        exact this
    · rw [if_neg hc] at h ⊢
      match j, h with
      | 0, h => cases h; exact List.mem_cons_self
      | j + 1, h =>
        refine List.mem_cons_of_mem _ ?_
        have := mSl_args (g := g) as (i + 1) j v h
        rw [show i + (j + 1) = i + 1 + j by omega]
        exact this
theorem getD_app {l : mLs} {n j : Nat} {v : Value} (h : (l ++ List.replicate n none).getD j none = some v) : l.getD j none = some v := by
  rw [List.getD_eq_getElem?_getD] at h ⊢
  by_cases hj : j < l.length
  · rw [List.getElem?_append_left hj] at h
    exact h
  · rw [List.getElem?_append_right (by omega), List.getElem?_replicate] at h
    split at h <;> cases h
theorem gLs_ent {g : mG} {k : Nat} {as : List Value} (hf : (as.map fun v => v.category).sum ≤ mx k) : gLs g (mx k) ((lg_sl (as.map (gV g)) ++ List.replicate (mx k - (lg_sl (as.map (gV g))).length) Slot.unset).toArray) (mEnt k as) := by
  have h1 : (lg_sl (as.map (gV g))).length ≤ mx k := by
    rw [lg_len]
    have := gCat (g := g) as
    unfold mCat at this
    rw [this]
    exact hf
  refine gLs_sub (lv_entry (as.map (gV g)) h1) fun q hq => ?_
  obtain ⟨v, h2, h3⟩ := gLv_mem.mp hq
  have h4 := mSl_args (g := g) as 0 q.1 v (getD_app h2)
  rw [Nat.zero_add, ← h3] at h4
  exact h4
/-- a contract out of a run -/
theorem gMet {g : mG} {n d k : Nat} {as : List Value} {h h' : mM} {r : Option Value} {l : Launch} (hk : k < 122) (hP : gSnd g n) (hf : (as.map fun v => v.category).sum ≤ mx k) (hr : mEx n d k 0 (mEnt k as) [] h = some (r, h')) :
    Met l (yn k) (gWs k) (gRm d (mN h' - mN h) (mZ h' - mZ h)) (gPc g as h) (gQc g r h') (mN h' - mN h) (mZ h' - mZ h) (gA g) := by
  have hy := yn_ok k hk
  refine Met.ofW (cc := cd k) (maxL := mx k) (ret := mrt k) hy.1 rfl ?_
  intro p e s m args below meth c s₁ B hml hv
  obtain ⟨rfl, hH, hE, hsz⟩ := hv
  have hts := atoms_spec (ws := gWs k) B.pre
  have hown : s.vm.findClass (RN (ow k)) = some m.cls := by rw [← hy.2.2.2.2.2]; exact findClass_of_methodNamed B.named
  have hnm : meth.name = (yn k).name := (name_of_methodNamed B.named B.method).1
  rw [lg_entry_eq]
  have hba : g.2.1 ≤ s.heap.size := by have := hH.1; omega
  refine hP d k 0 (mEnt k as) [] h h' r hr p l e _ s m _ below meth c s.heap [] 0 0 _ _ ⟨B.exec, B.bytes, hml, hown, fun w hw => hts w (List.mem_cons_of_mem _ hw), hE, hba, B.notSynchronized, fun z => hnm.trans z⟩ hH va_S.rf (gLs_ent hf) (by omega) (Nat.le_refl _) (Nat.le_refl _) (by show 0 + _ ≤ mN h' - mN h; omega) (by show 0 + _ ≤ mZ h' - mZ h; omega) ?_
  intro pc' ls' H' locs' c1 s1 hc1 hs1 hret hH' hS'
  have hc1 : c1 = mN h' - mN h := by omega
  have hs1 : s1 = mZ h' - mZ h := by omega
  subst hc1
  subst hs1
  have hq : ∀ t : State, t.heap = H' → s.WarmedH t.vm → gQc g r h' (as.map (gV g)).toArray s (.returned (r.map (gV g))) t := fun t ht hW => ⟨rfl, by rw [ht]; exact hH'.move hW.alike, by rw [ht]; exact hS'.1, fun q hq => by rw [ht]; exact hS'.2.1 q (by omega) (fun z => by unfold gA at z; omega)⟩
  have hlk := B.notSynchronized
  match r, hret, hq with
  | none, hret, hq => exact W.vret B.exec B.bytes (B.returns.trans hret.1) hq hS'.2.2 hret.2
  | some (.int v), hret, hq =>
    rcases hret.1 with h2 | ⟨h2, hz⟩
    · exact W.iret B.exec B.bytes (B.returns.trans h2) hq hS'.2.2 hret.2
    · refine W.zret B.exec B.bytes (B.returns.trans h2) ?_ hq hS'.2.2 hret.2
      unfold mZO at hz
      simp only [Bool.or_eq_true, beq_iff_eq] at hz
      rcases hz with rfl | rfl <;> decide
  | some (.long v), hret, hq => exact W.lret B.exec B.bytes (B.returns.trans hret.1) hq hS'.2.2 hret.2
theorem gPc_blind {g : mG} {as : List Value} {h : mM} : FrameBlind (gPc g as h) := fun a U f mk q => ⟨q.1, q.2.1.move (u := U) (U := U.calling f mk a) (Vm.Alike.refl U.vm), q.2.2.1.same rfl, q.2.2.2⟩
theorem gPc_at {g : mG} {as : List Value} {h : mM} {s U : State} {H : Heap} (hH : gH g h s H) (hE : gEnv g s) (hz : H.size + 1 = g.2.1 + mN h) (hU : U.heap = H) (hW : s.WarmedH U.vm) : gPc g as h (as.map (gV g)).toArray U := ⟨rfl, by rw [hU]; exact hH.move hW.alike, hE.warm hW, by rw [hU]; exact hz⟩
theorem gCallW {p : Program} {l : Launch} {e : Env} {R : Room} {s : State} {m : MethodId} {args : Array Value} {below : List Frame} {meth : Method} {c : Code} {H : Heap} {locs : List Loc} {cells slots mc ms pc : Nat} {Q : State → Prop} {g : mG} {h1 : mM} {r : Option Value} {ls : Array Slot} {st0 rest : List Value} {a : Array Value}
    (hr : va_Run p l e R s m args below meth c H locs cells slots mc ms (F0 m pc ls st0) rest (gQc g r h1 a) (gA g)) (hS : va_S (gA g) s.heap H locs) (hba : g.2.1 ≤ s.heap.size)
    (kk : ∀ (H1 : Heap) (locs1 : List Loc), gH g h1 s H1 → va_S (gA g) s.heap H1 locs1 → W p l e R s m args below meth c H1 locs1 (cells + mc) (slots + ms) Q (F0 m (pc + 3) ls ((r.map (gV g)).toList ++ rest))) : W p l e R s m args below meth c H locs cells slots Q (F0 m pc ls st0) := by
  intro T hT X
  obtain ⟨v, st₀, t, T', L, h0, X', hL, e1, e2, ⟨hv, hH, hz, hk⟩, st⟩ := hr T hT X
  have hv : v = r.map (gV g) := by injection hv
  subst hv
  rw [h0] at hz hk
  have hS1 : va_S (gA g) s.heap T'.heap (locs ++ L) := ⟨by rw [e1]; exact Nat.le_trans hS.1 hz, fun q h1 h2 => by
      rw [e1, hk q (by unfold gA at h2; omega)]
      exact hS.2.1 q h1 h2, fun q hq => by
      rcases List.mem_append.mp hq with h | h
      · exact hS.2.2 q h
      · exact hL q h⟩
  have hA : s.vm.Alike t.vm := by rw [← e2]; exact X'.warmed.alike
  obtain ⟨t2, a1, b1⟩ := kk T'.heap (locs ++ L) (by rw [e1]; exact hH.move hA.symm) hS1 T' rfl X'
  exact ⟨t2, st t2 a1, b1⟩
theorem map_rev {g : mG} {st : List Value} {n a : Nat} {r : List Value} (hd : st.drop n = .ref a :: r) : st.map (gV g) = (((st.take n).reverse).map (gV g)).reverse ++ .ref (gAd g a) :: r.map (gV g) := by
  have h := List.take_append_drop n st
  rw [hd] at h
  conv => lhs; rw [← h]
  rw [List.map_append, List.map_reverse, List.reverse_reverse]
  rfl
theorem map_revS {g : mG} {st : List Value} {n : Nat} : st.map (gV g) = (((st.take n).reverse).map (gV g)).reverse ++ (st.drop n).map (gV g) := by
  have h := List.take_append_drop n st
  conv => lhs; rw [← h]
  rw [List.map_append, List.map_reverse, List.reverse_reverse]
