-- each step of the small machine is one of the real machine's (gen_step.py)
theorem eqz {c x y : Nat} (h : x = y) : c = c + (x - y) := by omega
def gC (g : mG) (mi : Nat) (p : Program) (s : State) (m : MethodId) (meth : Method) (c : Code) (args : Array Value) : Prop :=
  p.tables.exec = Jvm.exec ∧ c.code = cd mi ∧ c.maxLocals = mx mi ∧ s.vm.findClass (RN (ow mi)) = some m.cls ∧ (∀ w ∈ lw_good, w.before args s = true) ∧ gEnv g s ∧ g.2.1 ≤ s.heap.size ∧ meth.locks = false ∧ ((yn mi).name = "<init>" → meth.name = "<init>")
def gGo (g : mG) (mi pc : Nat) (L : mLs) (st : List Value) (h : mM) (ins : Instr) (len : Nat) : Prop := ∀ (pc' : Nat) (L' : mLs) (st' : List Value) (h1 : mM), decode (cd mi) pc = .ok (ins, len) → mIns mi pc L st h ins len = some (.inl (pc', L', st', h1)) →
  ∀ (p : Program) (l : Launch) (e : Env) (R : Room) (s : State) (m : MethodId) (args : Array Value) (below : List Frame) (meth : Method) (c : Code) (H : Heap) (locs : List Loc) (cells slots : Nat) (Q : State → Prop) (ls : Array Slot), gC g mi p s m meth c args → gH g h s H → va_S (gA g) s.heap H locs → gLs g (mx mi) ls L → s.heap.size + cells + 1 = g.2.1 + mN h → 1 ≤ R.frames → 64 ≤ R.locals → cells + (mN h1 - mN h) ≤ R.cells → slots + (mZ h1 - mZ h) ≤ R.slots →
  (∀ (H1 : Heap) (locs1 : List Loc) (ls1 : Array Slot) (c1 s1 : Nat), c1 = cells + (mN h1 - mN h) → s1 = slots + (mZ h1 - mZ h) → gH g h1 s H1 → va_S (gA g) s.heap H1 locs1 → gLs g (mx mi) ls1 L' → W p l e R s m args below meth c H1 locs1 c1 s1 Q (F0 m pc' ls1 (st'.map (gV g)))) →
  W p l e R s m args below meth c H locs cells slots Q (F0 m pc ls (st.map (gV g)))
section GOS
variable {g : mG} {mi pc len : Nat} {L : mLs} {st : List Value} {h : mM}
theorem go_iconst {n : Int} : gGo g mi pc L st h (.iconst n) len := by
  intro pc' L' st' h1 hd hs p l e R s m args below meth c H locs cells slots Q ls hC hH hS hl hcs hfr hlo hce hsl K
  obtain ⟨hx, hb, hml, hown, hts, hE, hba, hlk, hnm⟩ := hC
  simp only [mIns, mNx] at hs
  split at hs
  · rename_i hlen
    subst hlen
    cases hs
    exact lv_iconst hx hb hd rfl (K H locs ls cells slots (eqz rfl) (eqz rfl) hH hS hl)
  · cases hs
theorem go_bipush {n : Int} : gGo g mi pc L st h (.bipush n) len := by
  intro pc' L' st' h1 hd hs p l e R s m args below meth c H locs cells slots Q ls hC hH hS hl hcs hfr hlo hce hsl K
  obtain ⟨hx, hb, hml, hown, hts, hE, hba, hlk, hnm⟩ := hC
  simp only [mIns, mNx] at hs
  split at hs
  · rename_i hlen
    subst hlen
    cases hs
    exact lv_bipush hx hb hd rfl (K H locs ls cells slots (eqz rfl) (eqz rfl) hH hS hl)
  · cases hs
theorem go_sipush {n : Int} : gGo g mi pc L st h (.sipush n) len := by
  intro pc' L' st' h1 hd hs p l e R s m args below meth c H locs cells slots Q ls hC hH hS hl hcs hfr hlo hce hsl K
  obtain ⟨hx, hb, hml, hown, hts, hE, hba, hlk, hnm⟩ := hC
  simp only [mIns, mNx] at hs
  split at hs
  · rename_i hlen
    subst hlen
    cases hs
    exact lv_sipush hx hb hd rfl (K H locs ls cells slots (eqz rfl) (eqz rfl) hH hS hl)
  · cases hs
theorem go_lconst {n : Fin 2} : gGo g mi pc L st h (.lconst n) len := by
  intro pc' L' st' h1 hd hs p l e R s m args below meth c H locs cells slots Q ls hC hH hS hl hcs hfr hlo hce hsl K
  obtain ⟨hx, hb, hml, hown, hts, hE, hba, hlk, hnm⟩ := hC
  simp only [mIns, mNx] at hs
  split at hs
  · rename_i hlen
    subst hlen
    cases hs
    exact lv_lconst hx hb hd rfl (K H locs ls cells slots (eqz rfl) (eqz rfl) hH hS hl)
  · cases hs
theorem go_ldc {i : Nat} : gGo g mi pc L st h (.ldc i) len := by
  intro pc' L' st' h1 hd hs p l e R s m args below meth c H locs cells slots Q ls hC hH hS hl hcs hfr hlo hce hsl K
  obtain ⟨hx, hb, hml, hown, hts, hE, hba, hlk, hnm⟩ := hC
  simp only [mIns, mNx] at hs
  split at hs
  · rename_i hlen
    subst hlen
    split at hs
    · rename_i v hq
      cases hs
      exact lv_ldc hx hb hown (hts _ (cL_ok _ (cGet_in hq))) hd (K H locs ls cells slots (eqz rfl) (eqz rfl) hH hS hl)
    · cases hs
  · cases hs
theorem go_ldc_w {i : Nat} : gGo g mi pc L st h (.ldc_w i) len := by
  intro pc' L' st' h1 hd hs p l e R s m args below meth c H locs cells slots Q ls hC hH hS hl hcs hfr hlo hce hsl K
  obtain ⟨hx, hb, hml, hown, hts, hE, hba, hlk, hnm⟩ := hC
  simp only [mIns, mNx] at hs
  split at hs
  · rename_i hlen
    subst hlen
    split at hs
    · rename_i v hq
      cases hs
      exact lv_ldcw hx hb hown (hts _ (cL_ok _ (cGet_in hq))) hd (K H locs ls cells slots (eqz rfl) (eqz rfl) hH hS hl)
    · cases hs
  · cases hs
theorem go_ldc2_w {i : Nat} : gGo g mi pc L st h (.ldc2_w i) len := by
  intro pc' L' st' h1 hd hs p l e R s m args below meth c H locs cells slots Q ls hC hH hS hl hcs hfr hlo hce hsl K
  obtain ⟨hx, hb, hml, hown, hts, hE, hba, hlk, hnm⟩ := hC
  simp only [mIns, mNx] at hs
  split at hs
  · rename_i hlen
    subst hlen
    split at hs
    · rename_i v hq
      cases hs
      exact lv_ldc2 hx hb hown (hts _ (cJ_ok _ (jGet_in hq))) hd (K H locs ls cells slots (eqz rfl) (eqz rfl) hH hS hl)
    · cases hs
  · cases hs
theorem go_iload_n {i : Fin 4} : gGo g mi pc L st h (.iload_n i) len := by
  intro pc' L' st' h1 hd hs p l e R s m args below meth c H locs cells slots Q ls hC hH hS hl hcs hfr hlo hce hsl K
  obtain ⟨hx, hb, hml, hown, hts, hE, hba, hlk, hnm⟩ := hC
  simp only [mIns, mNx] at hs
  split at hs
  · rename_i hlen
    subst hlen
    split at hs
    · rename_i x hq
      cases hs
      exact lv_iload_n hx hb hd rfl (gLs_at hl hq) (K H locs ls cells slots (eqz rfl) (eqz rfl) hH hS hl)
    · cases hs
  · cases hs
theorem go_iload {i : Nat} : gGo g mi pc L st h (.iload i) len := by
  intro pc' L' st' h1 hd hs p l e R s m args below meth c H locs cells slots Q ls hC hH hS hl hcs hfr hlo hce hsl K
  obtain ⟨hx, hb, hml, hown, hts, hE, hba, hlk, hnm⟩ := hC
  simp only [mIns, mNx] at hs
  split at hs
  · rename_i hlen
    subst hlen
    split at hs
    · rename_i x hq
      cases hs
      exact lv_iload hx hb hd (gLs_at hl hq) (K H locs ls cells slots (eqz rfl) (eqz rfl) hH hS hl)
    · cases hs
  · cases hs
theorem go_lload_n {i : Fin 4} : gGo g mi pc L st h (.lload_n i) len := by
  intro pc' L' st' h1 hd hs p l e R s m args below meth c H locs cells slots Q ls hC hH hS hl hcs hfr hlo hce hsl K
  obtain ⟨hx, hb, hml, hown, hts, hE, hba, hlk, hnm⟩ := hC
  simp only [mIns, mNx] at hs
  split at hs
  · rename_i hlen
    subst hlen
    split at hs
    · rename_i x hq
      cases hs
      exact lv_lload_n hx hb hd rfl (gLs_at hl hq) (K H locs ls cells slots (eqz rfl) (eqz rfl) hH hS hl)
    · cases hs
  · cases hs
theorem go_lload {i : Nat} : gGo g mi pc L st h (.lload i) len := by
  intro pc' L' st' h1 hd hs p l e R s m args below meth c H locs cells slots Q ls hC hH hS hl hcs hfr hlo hce hsl K
  obtain ⟨hx, hb, hml, hown, hts, hE, hba, hlk, hnm⟩ := hC
  simp only [mIns, mNx] at hs
  split at hs
  · rename_i hlen
    subst hlen
    split at hs
    · rename_i x hq
      cases hs
      exact lv_lload hx hb hd (gLs_at hl hq) (K H locs ls cells slots (eqz rfl) (eqz rfl) hH hS hl)
    · cases hs
  · cases hs
theorem go_aload_n {i : Fin 4} : gGo g mi pc L st h (.aload_n i) len := by
  intro pc' L' st' h1 hd hs p l e R s m args below meth c H locs cells slots Q ls hC hH hS hl hcs hfr hlo hce hsl K
  obtain ⟨hx, hb, hml, hown, hts, hE, hba, hlk, hnm⟩ := hC
  simp only [mIns, mNx] at hs
  split at hs
  · rename_i hlen
    subst hlen
    split at hs
    · rename_i x hq
      cases hs
      exact lv_aload_n hx hb hd rfl (gLs_at hl hq) (K H locs ls cells slots (eqz rfl) (eqz rfl) hH hS hl)
    · cases hs
  · cases hs
theorem go_aload {i : Nat} : gGo g mi pc L st h (.aload i) len := by
  intro pc' L' st' h1 hd hs p l e R s m args below meth c H locs cells slots Q ls hC hH hS hl hcs hfr hlo hce hsl K
  obtain ⟨hx, hb, hml, hown, hts, hE, hba, hlk, hnm⟩ := hC
  simp only [mIns, mNx] at hs
  split at hs
  · rename_i hlen
    subst hlen
    split at hs
    · rename_i x hq
      cases hs
      exact lv_aload hx hb hd (gLs_at hl hq) (K H locs ls cells slots (eqz rfl) (eqz rfl) hH hS hl)
    · cases hs
  · cases hs
theorem go_istore_n {i : Fin 4} : gGo g mi pc L st h (.istore_n i) len := by
  intro pc' L' st' h1 hd hs p l e R s m args below meth c H locs cells slots Q ls hC hH hS hl hcs hfr hlo hce hsl K
  obtain ⟨hx, hb, hml, hown, hts, hE, hba, hlk, hnm⟩ := hC
  simp only [mIns, mNx] at hs
  split at hs
  · rename_i hc
    obtain ⟨rfl, hlt⟩ := hc
    split at hs
    · cases hs
      exact lv_istore_n hx hb hd rfl hl hlt rfl (fun ls' h' => K H locs ls' cells slots (eqz rfl) (eqz rfl) hH hS (gLs_sub h' gLv_s1))
    · cases hs
  · cases hs
theorem go_istore {i : Nat} : gGo g mi pc L st h (.istore i) len := by
  intro pc' L' st' h1 hd hs p l e R s m args below meth c H locs cells slots Q ls hC hH hS hl hcs hfr hlo hce hsl K
  obtain ⟨hx, hb, hml, hown, hts, hE, hba, hlk, hnm⟩ := hC
  simp only [mIns, mNx] at hs
  split at hs
  · rename_i hc
    obtain ⟨rfl, hlt⟩ := hc
    split at hs
    · cases hs
      exact lv_istore hx hb hd hl hlt rfl (fun ls' h' => K H locs ls' cells slots (eqz rfl) (eqz rfl) hH hS (gLs_sub h' gLv_s1))
    · cases hs
  · cases hs
theorem go_lstore_n {i : Fin 4} : gGo g mi pc L st h (.lstore_n i) len := by
  intro pc' L' st' h1 hd hs p l e R s m args below meth c H locs cells slots Q ls hC hH hS hl hcs hfr hlo hce hsl K
  obtain ⟨hx, hb, hml, hown, hts, hE, hba, hlk, hnm⟩ := hC
  simp only [mIns, mNx] at hs
  split at hs
  · rename_i hc
    obtain ⟨rfl, hlt⟩ := hc
    split at hs
    · cases hs
      exact lv_lstore_n hx hb hd rfl hl hlt rfl (fun ls' h' => K H locs ls' cells slots (eqz rfl) (eqz rfl) hH hS (gLs_sub h' gLv_s2))
    · cases hs
  · cases hs
theorem go_lstore {i : Nat} : gGo g mi pc L st h (.lstore i) len := by
  intro pc' L' st' h1 hd hs p l e R s m args below meth c H locs cells slots Q ls hC hH hS hl hcs hfr hlo hce hsl K
  obtain ⟨hx, hb, hml, hown, hts, hE, hba, hlk, hnm⟩ := hC
  simp only [mIns, mNx] at hs
  split at hs
  · rename_i hc
    obtain ⟨rfl, hlt⟩ := hc
    split at hs
    · cases hs
      exact lv_lstore hx hb hd hl hlt rfl (fun ls' h' => K H locs ls' cells slots (eqz rfl) (eqz rfl) hH hS (gLs_sub h' gLv_s2))
    · cases hs
  · cases hs
theorem go_astore_n {i : Fin 4} : gGo g mi pc L st h (.astore_n i) len := by
  intro pc' L' st' h1 hd hs p l e R s m args below meth c H locs cells slots Q ls hC hH hS hl hcs hfr hlo hce hsl K
  obtain ⟨hx, hb, hml, hown, hts, hE, hba, hlk, hnm⟩ := hC
  simp only [mIns, mNx] at hs
  split at hs
  · rename_i hc
    obtain ⟨rfl, hlt⟩ := hc
    split at hs
    · cases hs
      exact lv_astore_n hx hb hd rfl hl hlt rfl (fun ls' h' => K H locs ls' cells slots (eqz rfl) (eqz rfl) hH hS (gLs_sub h' gLv_s1))
    · cases hs
  · cases hs
theorem go_astore {i : Nat} : gGo g mi pc L st h (.astore i) len := by
  intro pc' L' st' h1 hd hs p l e R s m args below meth c H locs cells slots Q ls hC hH hS hl hcs hfr hlo hce hsl K
  obtain ⟨hx, hb, hml, hown, hts, hE, hba, hlk, hnm⟩ := hC
  simp only [mIns, mNx] at hs
  split at hs
  · rename_i hc
    obtain ⟨rfl, hlt⟩ := hc
    split at hs
    · cases hs
      exact lv_astore hx hb hd hl hlt rfl (fun ls' h' => K H locs ls' cells slots (eqz rfl) (eqz rfl) hH hS (gLs_sub h' gLv_s1))
    · cases hs
  · cases hs
theorem go_iinc {i : Nat} {n : Int} : gGo g mi pc L st h (.iinc i n) len := by
  intro pc' L' st' h1 hd hs p l e R s m args below meth c H locs cells slots Q ls hC hH hS hl hcs hfr hlo hce hsl K
  obtain ⟨hx, hb, hml, hown, hts, hE, hba, hlk, hnm⟩ := hC
  simp only [mIns, mNx] at hs
  split at hs
  · rename_i hc
    obtain ⟨rfl, hlt⟩ := hc
    split at hs
    · rename_i x hq
      cases hs
      obtain ⟨k, hk⟩ := List.getElem?_of_mem (gLv_mem.mpr ⟨_, hq, rfl⟩ : (i, gV g (.int x)) ∈ gLv g L)
      exact lv_iinc hx hb hd hl hk rfl hlt rfl (fun ls' h' => K H locs ls' cells slots (eqz rfl) (eqz rfl) hH hS (gLs_sub h' gLv_s1))
    · cases hs
  · cases hs
theorem go_iadd : gGo g mi pc L st h .iadd len := by
  intro pc' L' st' h1 hd hs p l e R s m args below meth c H locs cells slots Q ls hC hH hS hl hcs hfr hlo hce hsl K
  obtain ⟨hx, hb, hml, hown, hts, hE, hba, hlk, hnm⟩ := hC
  simp only [mIns, mNx] at hs
  split at hs
  · rename_i hlen
    subst hlen
    split at hs
    · cases hs
      exact lv_iadd hx hb hd (K H locs ls cells slots (eqz rfl) (eqz rfl) hH hS hl)
    · cases hs
  · cases hs
theorem go_isub : gGo g mi pc L st h .isub len := by
  intro pc' L' st' h1 hd hs p l e R s m args below meth c H locs cells slots Q ls hC hH hS hl hcs hfr hlo hce hsl K
  obtain ⟨hx, hb, hml, hown, hts, hE, hba, hlk, hnm⟩ := hC
  simp only [mIns, mNx] at hs
  split at hs
  · rename_i hlen
    subst hlen
    split at hs
    · cases hs
      exact lv_isub hx hb hd (K H locs ls cells slots (eqz rfl) (eqz rfl) hH hS hl)
    · cases hs
  · cases hs
theorem go_imul : gGo g mi pc L st h .imul len := by
  intro pc' L' st' h1 hd hs p l e R s m args below meth c H locs cells slots Q ls hC hH hS hl hcs hfr hlo hce hsl K
  obtain ⟨hx, hb, hml, hown, hts, hE, hba, hlk, hnm⟩ := hC
  simp only [mIns, mNx] at hs
  split at hs
  · rename_i hlen
    subst hlen
    split at hs
    · cases hs
      exact lv_imul hx hb hd (K H locs ls cells slots (eqz rfl) (eqz rfl) hH hS hl)
    · cases hs
  · cases hs
theorem go_iand : gGo g mi pc L st h .iand len := by
  intro pc' L' st' h1 hd hs p l e R s m args below meth c H locs cells slots Q ls hC hH hS hl hcs hfr hlo hce hsl K
  obtain ⟨hx, hb, hml, hown, hts, hE, hba, hlk, hnm⟩ := hC
  simp only [mIns, mNx] at hs
  split at hs
  · rename_i hlen
    subst hlen
    split at hs
    · cases hs
      exact lv_iand hx hb hd (K H locs ls cells slots (eqz rfl) (eqz rfl) hH hS hl)
    · cases hs
  · cases hs
theorem go_ior : gGo g mi pc L st h .ior len := by
  intro pc' L' st' h1 hd hs p l e R s m args below meth c H locs cells slots Q ls hC hH hS hl hcs hfr hlo hce hsl K
  obtain ⟨hx, hb, hml, hown, hts, hE, hba, hlk, hnm⟩ := hC
  simp only [mIns, mNx] at hs
  split at hs
  · rename_i hlen
    subst hlen
    split at hs
    · cases hs
      exact lv_ior hx hb hd (K H locs ls cells slots (eqz rfl) (eqz rfl) hH hS hl)
    · cases hs
  · cases hs
theorem go_ixor : gGo g mi pc L st h .ixor len := by
  intro pc' L' st' h1 hd hs p l e R s m args below meth c H locs cells slots Q ls hC hH hS hl hcs hfr hlo hce hsl K
  obtain ⟨hx, hb, hml, hown, hts, hE, hba, hlk, hnm⟩ := hC
  simp only [mIns, mNx] at hs
  split at hs
  · rename_i hlen
    subst hlen
    split at hs
    · cases hs
      exact lv_ixor hx hb hd (K H locs ls cells slots (eqz rfl) (eqz rfl) hH hS hl)
    · cases hs
  · cases hs
theorem go_ishl : gGo g mi pc L st h .ishl len := by
  intro pc' L' st' h1 hd hs p l e R s m args below meth c H locs cells slots Q ls hC hH hS hl hcs hfr hlo hce hsl K
  obtain ⟨hx, hb, hml, hown, hts, hE, hba, hlk, hnm⟩ := hC
  simp only [mIns, mNx] at hs
  split at hs
  · rename_i hlen
    subst hlen
    split at hs
    · cases hs
      exact lv_ishl hx hb hd (K H locs ls cells slots (eqz rfl) (eqz rfl) hH hS hl)
    · cases hs
  · cases hs
theorem go_ishr : gGo g mi pc L st h .ishr len := by
  intro pc' L' st' h1 hd hs p l e R s m args below meth c H locs cells slots Q ls hC hH hS hl hcs hfr hlo hce hsl K
  obtain ⟨hx, hb, hml, hown, hts, hE, hba, hlk, hnm⟩ := hC
  simp only [mIns, mNx] at hs
  split at hs
  · rename_i hlen
    subst hlen
    split at hs
    · cases hs
      exact lv_ishr hx hb hd (K H locs ls cells slots (eqz rfl) (eqz rfl) hH hS hl)
    · cases hs
  · cases hs
theorem go_ladd : gGo g mi pc L st h .ladd len := by
  intro pc' L' st' h1 hd hs p l e R s m args below meth c H locs cells slots Q ls hC hH hS hl hcs hfr hlo hce hsl K
  obtain ⟨hx, hb, hml, hown, hts, hE, hba, hlk, hnm⟩ := hC
  simp only [mIns, mNx] at hs
  split at hs
  · rename_i hlen
    subst hlen
    split at hs
    · cases hs
      exact lv_ladd hx hb hd (K H locs ls cells slots (eqz rfl) (eqz rfl) hH hS hl)
    · cases hs
  · cases hs
theorem go_lsub : gGo g mi pc L st h .lsub len := by
  intro pc' L' st' h1 hd hs p l e R s m args below meth c H locs cells slots Q ls hC hH hS hl hcs hfr hlo hce hsl K
  obtain ⟨hx, hb, hml, hown, hts, hE, hba, hlk, hnm⟩ := hC
  simp only [mIns, mNx] at hs
  split at hs
  · rename_i hlen
    subst hlen
    split at hs
    · cases hs
      exact lv_lsub hx hb hd (K H locs ls cells slots (eqz rfl) (eqz rfl) hH hS hl)
    · cases hs
  · cases hs
theorem go_ineg : gGo g mi pc L st h .ineg len := by
  intro pc' L' st' h1 hd hs p l e R s m args below meth c H locs cells slots Q ls hC hH hS hl hcs hfr hlo hce hsl K
  obtain ⟨hx, hb, hml, hown, hts, hE, hba, hlk, hnm⟩ := hC
  simp only [mIns, mNx] at hs
  split at hs
  · rename_i hlen
    subst hlen
    split at hs
    · cases hs
      exact lv_ineg hx hb hd (K H locs ls cells slots (eqz rfl) (eqz rfl) hH hS hl)
    · cases hs
  · cases hs
theorem go_lcmp : gGo g mi pc L st h .lcmp len := by
  intro pc' L' st' h1 hd hs p l e R s m args below meth c H locs cells slots Q ls hC hH hS hl hcs hfr hlo hce hsl K
  obtain ⟨hx, hb, hml, hown, hts, hE, hba, hlk, hnm⟩ := hC
  simp only [mIns, mNx] at hs
  split at hs
  · rename_i hlen
    subst hlen
    split at hs
    · cases hs
      exact W.lcmp hx hb hd (K H locs ls cells slots (eqz rfl) (eqz rfl) hH hS hl)
    · cases hs
  · cases hs
theorem go_iushr : gGo g mi pc L st h .iushr len := by
  intro pc' L' st' h1 hd hs p l e R s m args below meth c H locs cells slots Q ls hC hH hS hl hcs hfr hlo hce hsl K
  obtain ⟨hx, hb, hml, hown, hts, hE, hba, hlk, hnm⟩ := hC
  simp only [mIns, mNx] at hs
  split at hs
  · rename_i hlen
    subst hlen
    split at hs
    · cases hs
      exact lv_iushr hx hb hd rfl (K H locs ls cells slots (eqz rfl) (eqz rfl) hH hS hl)
    · cases hs
  · cases hs
theorem go_i2l : gGo g mi pc L st h .i2l len := by
  intro pc' L' st' h1 hd hs p l e R s m args below meth c H locs cells slots Q ls hC hH hS hl hcs hfr hlo hce hsl K
  obtain ⟨hx, hb, hml, hown, hts, hE, hba, hlk, hnm⟩ := hC
  simp only [mIns, mNx] at hs
  split at hs
  · rename_i hlen
    subst hlen
    split at hs
    · cases hs
      exact lv_i2l hx hb hd rfl (K H locs ls cells slots (eqz rfl) (eqz rfl) hH hS hl)
    · cases hs
  · cases hs
theorem go_l2i : gGo g mi pc L st h .l2i len := by
  intro pc' L' st' h1 hd hs p l e R s m args below meth c H locs cells slots Q ls hC hH hS hl hcs hfr hlo hce hsl K
  obtain ⟨hx, hb, hml, hown, hts, hE, hba, hlk, hnm⟩ := hC
  simp only [mIns, mNx] at hs
  split at hs
  · rename_i hlen
    subst hlen
    split at hs
    · cases hs
      exact lv_l2i hx hb hd rfl (K H locs ls cells slots (eqz rfl) (eqz rfl) hH hS hl)
    · cases hs
  · cases hs
theorem go_idiv : gGo g mi pc L st h .idiv len := by
  intro pc' L' st' h1 hd hs p l e R s m args below meth c H locs cells slots Q ls hC hH hS hl hcs hfr hlo hce hsl K
  obtain ⟨hx, hb, hml, hown, hts, hE, hba, hlk, hnm⟩ := hC
  simp only [mIns, mNx] at hs
  split at hs
  · rename_i hlen
    subst hlen
    split at hs
    · split at hs
      · cases hs
      · rename_i hne
        cases hs
        exact lv_idiv hx hb hd hne (K H locs ls cells slots (eqz rfl) (eqz rfl) hH hS hl)
    · cases hs
  · cases hs
theorem go_irem : gGo g mi pc L st h .irem len := by
  intro pc' L' st' h1 hd hs p l e R s m args below meth c H locs cells slots Q ls hC hH hS hl hcs hfr hlo hce hsl K
  obtain ⟨hx, hb, hml, hown, hts, hE, hba, hlk, hnm⟩ := hC
  simp only [mIns, mNx] at hs
  split at hs
  · rename_i hlen
    subst hlen
    split at hs
    · split at hs
      · cases hs
      · rename_i hne
        cases hs
        exact lv_irem hx hb hd hne (K H locs ls cells slots (eqz rfl) (eqz rfl) hH hS hl)
    · cases hs
  · cases hs
theorem go_pop : gGo g mi pc L st h .pop len := by
  intro pc' L' st' h1 hd hs p l e R s m args below meth c H locs cells slots Q ls hC hH hS hl hcs hfr hlo hce hsl K
  obtain ⟨hx, hb, hml, hown, hts, hE, hba, hlk, hnm⟩ := hC
  simp only [mIns, mNx] at hs
  split at hs
  · rename_i hlen
    subst hlen
    split at hs
    · cases hs
      exact lv_pop hx hb hd rfl (K H locs ls cells slots (eqz rfl) (eqz rfl) hH hS hl)
    · cases hs
  · cases hs
theorem go_dup : gGo g mi pc L st h .dup len := by
  intro pc' L' st' h1 hd hs p l e R s m args below meth c H locs cells slots Q ls hC hH hS hl hcs hfr hlo hce hsl K
  obtain ⟨hx, hb, hml, hown, hts, hE, hba, hlk, hnm⟩ := hC
  simp only [mIns, mNx] at hs
  split at hs
  · rename_i hlen
    subst hlen
    split at hs
    · split at hs
      · rename_i hc
        cases hs
        exact lv_dup hx hb hd (by rw [gV_cat]; exact hc) (K H locs ls cells slots (eqz rfl) (eqz rfl) hH hS hl)
      · cases hs
    · cases hs
  · cases hs
theorem go_dup2 : gGo g mi pc L st h .dup2 len := by
  intro pc' L' st' h1 hd hs p l e R s m args below meth c H locs cells slots Q ls hC hH hS hl hcs hfr hlo hce hsl K
  obtain ⟨hx, hb, hml, hown, hts, hE, hba, hlk, hnm⟩ := hC
  simp only [mIns, mNx] at hs
  split at hs
  · rename_i hlen
    subst hlen
    split at hs
    · split at hs
      · rename_i hc
        cases hs
        exact lv_dup2_2 hx hb hd (by rw [gV_cat]; exact hc) (K H locs ls cells slots (eqz rfl) (eqz rfl) hH hS hl)
      · split at hs
        · split at hs
          · rename_i hc
            cases hs
            exact lv_dup2_11 hx hb hd (by rw [gV_cat]; exact hc.2) (by rw [gV_cat]; exact hc.1) (K H locs ls cells slots (eqz rfl) (eqz rfl) hH hS hl)
          · cases hs
        · cases hs
    · cases hs
  · cases hs
theorem tg_of {pc : Nat} {off : Int} (h : 0 ≤ (pc : Int) + off) : (pc : Int) + off = (((pc : Int) + off).toNat : Int) := (Int.toNat_of_nonneg h).symm
theorem gBr_ifCond {p : Program} {l : Launch} {e : Env} {R : Room} {s : State} {m : MethodId} {args : Array Value} {below : List Frame} {meth : Method} {c : Code} {H : Heap} {locs : List Loc} {cells slots : Nat} {Q : State → Prop} {cc : ByteArray} {ls : Array Slot} {rest : List Value} {cn : ClassFile.Cond} {off : Int} {x : Int32} (hx : p.tables.exec = Jvm.exec) (hb : c.code = cc) (hd : decode cc pc = .ok (.ifCond cn off, 3)) (ht : 0 ≤ (pc : Int) + off)
    (kt : mCmp cn x 0 = true → W p l e R s m args below meth c H locs cells slots Q (F0 m ((pc : Int) + off).toNat ls rest)) (kf : mCmp cn x 0 = false → W p l e R s m args below meth c H locs cells slots Q (F0 m (pc + 3) ls rest)) : W p l e R s m args below meth c H locs cells slots Q (F0 m pc ls (.int x :: rest)) := by
  cases cn
  · exact lv_if_eq hx hb hd (tg_of ht) (fun q => kt (decide_eq_true q)) (fun q => kf (decide_eq_false q))
  · exact lv_if_ne hx hb hd (tg_of ht) (fun q => kt (decide_eq_true q)) (fun q => kf (decide_eq_false (fun z => z q)))
  · exact lv_if_lt hx hb hd (tg_of ht) (fun q => kt (decide_eq_true q)) (fun q => kf (decide_eq_false q))
  · exact lv_if_ge hx hb hd (tg_of ht) (fun q => kt (decide_eq_true q)) (fun q => kf (decide_eq_false q))
  · exact lv_if_gt hx hb hd (tg_of ht) (fun q => kt (decide_eq_true q)) (fun q => kf (decide_eq_false q))
  · exact lv_if_le hx hb hd (tg_of ht) (fun q => kt (decide_eq_true q)) (fun q => kf (decide_eq_false q))
theorem gBf_ifCond {p : Program} {l : Launch} {e : Env} {R : Room} {s : State} {m : MethodId} {args : Array Value} {below : List Frame} {meth : Method} {c : Code} {H : Heap} {locs : List Loc} {cells slots : Nat} {Q : State → Prop} {cc : ByteArray} {ls : Array Slot} {rest : List Value} {cn : ClassFile.Cond} {off : Int} {x : Int32} (hx : p.tables.exec = Jvm.exec) (hb : c.code = cc) (hd : decode cc pc = .ok (.ifCond cn off, 3)) (hq : mCmp cn x 0 = false)
    (k : W p l e R s m args below meth c H locs cells slots Q (F0 m (pc + 3) ls rest)) : W p l e R s m args below meth c H locs cells slots Q (F0 m pc ls (.int x :: rest)) := by
  intro T hT X
  obtain ⟨t, a, b⟩ := k T hT X
  refine ⟨t, ?_, b⟩
  cases cn <;> simp only [mCmp, decide_eq_false_iff_not, Classical.not_not] at hq <;> (jvm_step X.here [X.here.top, hx, hb, hd, Op.ifCond.holds, hq]; exact a)
theorem go_ifCond {cn : ClassFile.Cond} {off : Int} : gGo g mi pc L st h (.ifCond cn off) len := by
  intro pc' L' st' h1 hd hs p l e R s m args below meth c H locs cells slots Q ls hC hH hS hl hcs hfr hlo hce hsl K
  obtain ⟨hx, hb, hml, hown, hts, hE, hba, hlk, hnm⟩ := hC
  simp only [mIns, mNx] at hs
  split at hs
  · rename_i hlen
    subst hlen
    split at hs
    · rename_i x r
      split at hs
      · rename_i hq
        unfold mTg mNx at hs
        split at hs
        · rename_i ht
          cases hs
          exact gBr_ifCond hx hb hd ht (fun _ => (K H locs ls cells slots (eqz rfl) (eqz rfl) hH hS hl)) (fun z => by rw [z] at hq; cases hq)
        · cases hs
      · rename_i hq
        cases hs
        exact gBf_ifCond hx hb hd (by simpa using hq) (K H locs ls cells slots (eqz rfl) (eqz rfl) hH hS hl)
    · cases hs
  · cases hs
theorem gBr_if_icmp {p : Program} {l : Launch} {e : Env} {R : Room} {s : State} {m : MethodId} {args : Array Value} {below : List Frame} {meth : Method} {c : Code} {H : Heap} {locs : List Loc} {cells slots : Nat} {Q : State → Prop} {cc : ByteArray} {ls : Array Slot} {rest : List Value} {cn : ClassFile.Cond} {off : Int} {x y : Int32} (hx : p.tables.exec = Jvm.exec) (hb : c.code = cc) (hd : decode cc pc = .ok (.if_icmp cn off, 3)) (ht : 0 ≤ (pc : Int) + off)
    (kt : mCmp cn x y = true → W p l e R s m args below meth c H locs cells slots Q (F0 m ((pc : Int) + off).toNat ls rest)) (kf : mCmp cn x y = false → W p l e R s m args below meth c H locs cells slots Q (F0 m (pc + 3) ls rest)) : W p l e R s m args below meth c H locs cells slots Q (F0 m pc ls (.int y :: .int x :: rest)) := by
  cases cn
  · exact lv_icmp_eq hx hb hd (tg_of ht) (fun q => kt (decide_eq_true q)) (fun q => kf (decide_eq_false q))
  · exact lv_icmp_ne hx hb hd (tg_of ht) (fun q => kt (decide_eq_true q)) (fun q => kf (decide_eq_false (fun z => z q)))
  · exact lv_icmp_lt hx hb hd (tg_of ht) (fun q => kt (decide_eq_true q)) (fun q => kf (decide_eq_false q))
  · exact lv_icmp_ge hx hb hd (tg_of ht) (fun q => kt (decide_eq_true q)) (fun q => kf (decide_eq_false q))
  · exact lv_icmp_gt hx hb hd (tg_of ht) (fun q => kt (decide_eq_true q)) (fun q => kf (decide_eq_false q))
  · exact lv_icmp_le hx hb hd (tg_of ht) (fun q => kt (decide_eq_true q)) (fun q => kf (decide_eq_false q))
theorem gBf_if_icmp {p : Program} {l : Launch} {e : Env} {R : Room} {s : State} {m : MethodId} {args : Array Value} {below : List Frame} {meth : Method} {c : Code} {H : Heap} {locs : List Loc} {cells slots : Nat} {Q : State → Prop} {cc : ByteArray} {ls : Array Slot} {rest : List Value} {cn : ClassFile.Cond} {off : Int} {x y : Int32} (hx : p.tables.exec = Jvm.exec) (hb : c.code = cc) (hd : decode cc pc = .ok (.if_icmp cn off, 3)) (hq : mCmp cn x y = false)
    (k : W p l e R s m args below meth c H locs cells slots Q (F0 m (pc + 3) ls rest)) : W p l e R s m args below meth c H locs cells slots Q (F0 m pc ls (.int y :: .int x :: rest)) := by
  intro T hT X
  obtain ⟨t, a, b⟩ := k T hT X
  refine ⟨t, ?_, b⟩
  cases cn <;> simp only [mCmp, decide_eq_false_iff_not, Classical.not_not] at hq <;> (jvm_step X.here [X.here.top, hx, hb, hd, Op.if_icmp.holds, hq]; exact a)
theorem go_if_icmp {cn : ClassFile.Cond} {off : Int} : gGo g mi pc L st h (.if_icmp cn off) len := by
  intro pc' L' st' h1 hd hs p l e R s m args below meth c H locs cells slots Q ls hC hH hS hl hcs hfr hlo hce hsl K
  obtain ⟨hx, hb, hml, hown, hts, hE, hba, hlk, hnm⟩ := hC
  simp only [mIns, mNx] at hs
  split at hs
  · rename_i hlen
    subst hlen
    split at hs
    · rename_i y x r
      split at hs
      · rename_i hq
        unfold mTg mNx at hs
        split at hs
        · rename_i ht
          cases hs
          exact gBr_if_icmp hx hb hd ht (fun _ => (K H locs ls cells slots (eqz rfl) (eqz rfl) hH hS hl)) (fun z => by rw [z] at hq; cases hq)
        · cases hs
      · rename_i hq
        cases hs
        exact gBf_if_icmp hx hb hd (by simpa using hq) (K H locs ls cells slots (eqz rfl) (eqz rfl) hH hS hl)
    · cases hs
  · cases hs
theorem go_goto {off : Int} : gGo g mi pc L st h (.goto off) len := by
  intro pc' L' st' h1 hd hs p l e R s m args below meth c H locs cells slots Q ls hC hH hS hl hcs hfr hlo hce hsl K
  obtain ⟨hx, hb, hml, hown, hts, hE, hba, hlk, hnm⟩ := hC
  simp only [mIns, mNx] at hs
  split at hs
  · rename_i hlen
    subst hlen
    unfold mTg mNx at hs
    split at hs
    · rename_i ht
      cases hs
      exact lv_goto hx hb hd (tg_of ht) (K H locs ls cells slots (eqz rfl) (eqz rfl) hH hS hl)
    · cases hs
  · cases hs
theorem go_tableswitch {dflt lo hi : Int} {offs : Array Int} : gGo g mi pc L st h (.tableswitch dflt lo hi offs) len := by
  intro pc' L' st' h1 hd hs p l e R s m args below meth c H locs cells slots Q ls hC hH hS hl hcs hfr hlo hce hsl K
  obtain ⟨hx, hb, hml, hown, hts, hE, hba, hlk, hnm⟩ := hC
  simp only [mIns, mNx] at hs
  split at hs
  · rename_i x r
    split at hs
    · rename_i hq
      unfold mTg mNx at hs
      split at hs
      · rename_i ht
        cases hs
        exact lv_tableOut hx hb hd hq (tg_of ht) (K H locs ls cells slots (eqz rfl) (eqz rfl) hH hS hl)
      · cases hs
    · rename_i hq
      split at hs
      · rename_i off ho
        unfold mTg mNx at hs
        split at hs
        · rename_i ht
          cases hs
          exact lv_tableIn hx hb hd (fun z => hq (Or.inl z)) (fun z => hq (Or.inr z)) ho (tg_of ht) (K H locs ls cells slots (eqz rfl) (eqz rfl) hH hS hl)
        · cases hs
      · cases hs
  · cases hs
end GOS
