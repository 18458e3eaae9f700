-- the search finds what the reference finds
theorem HN_rest {c : Tb} (ck : CK c) {t m s : Nat} {w : Nat → Nat} (ht : t ≤ 200) (hw : WB c w) (hs : s < 3) : (HN c t m w).2.2 (3 * m + s) = 0 := by
  obtain ⟨g1, g2, g3, g4, g5⟩ := gt_ok ck ht hw
  unfold HN
  generalize foldN (gtN c t) (c 0 0) (w, fun _ => 0, fun _ => 0) = σ1 at g1 g4 g5 ⊢
  obtain ⟨c1, c2⟩ := ch_ok ck g1 (c 0 1) (Nat.le_refl _)
  generalize foldN (chN c) (c 0 1) σ1 = σ2 at c1 c2 ⊢
  have z : (foldN (rkN c t m) 10 σ2).2.2 (3 * m + s) = 0 := foldN_inv (P := fun _ (n : N3) => n.2.2 (3 * m + s) = 0) 10 σ2 (by rw [c2, g5]) (fun k y _ z => foldN_inv (P := fun _ (n : N3) => n.2.2 (3 * m + s) = 0) (c 0 2) y z (fun m' n hm z => by
    unfold rmN
    split
    · have h3 := (ck.2.2.2.1 m' hm).2.2.2.2.2
      by_cases e : m' = m
      · subst e
        unfold mlN
        rw [if_pos rfl]
        exact z
      · have := mlP_off (c := c) (t := t) (rn := m) (m := m') (i := c 13 m') (j := 3 * m + s) (n := n) (fun s' hs' => by omega)
        exact this.trans z
    · exact z))
  have k1 := (rks_ok ck (t := t) (r := m) c1 (by rw [c2]; exact g4 3 (by omega)) (by rw [c2, g5]; intro i; exact Nat.zero_le _)).1
  generalize foldN (rkN c t m) 10 σ2 = σ3 at z k1 ⊢
  rw [(sp_ok ck k1 (c 0 0) (Nat.le_refl _)).2.2.2]
  exact z
theorem gb_rest {c : Tb} (ck : CK c) {t m : Nat} {w : Nat → Nat} (ht : t ≤ 200) (hw : WB c w) : gbN (HN c t m w).2.2 m = 0 := by
  unfold gbN
  have h0 := HN_rest ck (m := m) (s := 0) ht hw (by omega)
  rw [Nat.add_zero] at h0
  rw [h0, HN_rest ck ht hw (by omega), HN_rest ck ht hw (by omega)]
def posM (m : Nat) (n : N3) : Prop := ∃ s, s < 3 ∧ 0 < n.2.2 (3 * m + s)
theorem st_pos {c : Tb} (ck : CK c) {t m m' s' : Nat} {n : N3} (hm : m' < c 0 2) (hs : s' < c 13 m') (p : posM m n) : posM m (stN c t m' s' n) := by
  obtain ⟨s, h1, h2⟩ := p
  refine ⟨s, h1, ?_⟩
  unfold stN
  split
  · rename_i b
    show 0 < upN n.2.2 _ _ _
    rw [upN_ap]
    split
    · have k := ck.2.2.2.2 m' s' hm hs
      have : 0 < (n.1 (c 9 m') / c 1 (c 9 m') - t) * c 17 (3 * m' + s') := Nat.mul_pos (by omega) (by omega)
      unfold grN
      omega
    · exact h2
  · exact h2
theorem st_same {c : Tb} (ck : CK c) {t m s : Nat} {n : N3} (hm : m < c 0 2) (hs : s < c 13 m) : stN c t m s n = n ∨ posM m (stN c t m s n) := by
  unfold stN
  split
  · rename_i b
    right
    have h3 := (ck.2.2.2.1 m hm).2.2.2.2.2
    refine ⟨s, by omega, ?_⟩
    show 0 < upN n.2.2 _ _ _
    rw [upN_eq]
    have k := ck.2.2.2.2 m s hm hs
    have : 0 < (n.1 (c 9 m) / c 1 (c 9 m) - t) * c 17 (3 * m + s) := Nat.mul_pos (by omega) (by omega)
    unfold grN
    omega
  · exact Or.inl rfl
theorem ml_pos {c : Tb} (ck : CK c) {t m m' r : Nat} {n : N3} (hm : m' < c 0 2) (p : posM m n) : posM m (mlN c t r m' n) := by
  unfold mlN
  split
  · exact p
  · exact foldN_inv (P := fun _ n => posM m n) (c 13 m') n p (fun i y hi z => st_pos ck hm hi z)
theorem rm_idle {c : Tb} (ck : CK c) {t m m' k : Nat} (hm' : m' < c 0 2) {x y : N3} (h : x = y ∨ posM m x) (h4 : c 0 2 ≤ 4) : rmN c t 4 k m' x = rmN c t m k m' y ∨ posM m (rmN c t 4 k m' x) := by
  unfold rmN
  by_cases e : c 10 m' = k
  · rw [if_pos e, if_pos e]
    rcases h with h | h
    · subst h
      by_cases e2 : m' = m
      · subst e2
        have a1 : mlN c t m' m' x = x := if_pos rfl
        have a2 : mlN c t 4 m' x = foldN (stN c t m') (c 13 m') x := if_neg (by omega)
        rw [a1, a2]
        exact foldN_inv (P := fun _ n => n = x ∨ posM m' n) (c 13 m') x (Or.inl rfl) (fun i y hi z => by
          rcases z with z | z
          · subst z
            exact st_same ck hm' hi
          · exact Or.inr (st_pos ck hm' hi z))
      · left
        unfold mlN
        rw [if_neg (by omega), if_neg e2]
    · exact Or.inr (ml_pos ck hm' h)
  · rw [if_neg e, if_neg e]
    exact h
theorem HN_idle {c : Tb} (ck : CK c) {t m : Nat} {w : Nat → Nat} (ht : t ≤ 200) (hw : WB c w) (hg : gbN (HN c t 4 w).2.2 m = 0) : HN c t 4 w = HN c t m w := by
  obtain ⟨g1, g2, g3, g4, g5⟩ := gt_ok ck ht hw
  have h4 := ck.1.2.2
  unfold HN at hg ⊢
  generalize foldN (gtN c t) (c 0 0) (w, fun _ => 0, fun _ => 0) = σ1 at g1 g4 g5 hg ⊢
  obtain ⟨c1, c2⟩ := ch_ok ck g1 (c 0 1) (Nat.le_refl _)
  generalize foldN (chN c) (c 0 1) σ1 = σ2 at c1 c2 hg ⊢
  have k1 := (rks_ok ck (t := t) (r := 4) c1 (by rw [c2]; exact g4 3 (by omega)) (by rw [c2, g5]; intro i; exact Nat.zero_le _)).1
  have z : foldN (rkN c t 4) 10 σ2 = foldN (rkN c t m) 10 σ2 ∨ posM m (foldN (rkN c t 4) 10 σ2) := foldN_inv2 (P := fun x y => x = y ∨ posM m x) 10 σ2 σ2 (Or.inl rfl) (fun k x y _ z => foldN_inv2 (P := fun x y => x = y ∨ posM m x) (c 0 2) x y z (fun m' x y hm' z => rm_idle ck hm' z h4))
  have s4 := (sp_ok ck k1 (c 0 0) (Nat.le_refl _)).2.2.2
  rw [s4] at hg
  rcases z with z | ⟨s, h1, h2⟩
  · rw [z]
  · exfalso
    unfold gbN at hg
    rcases (show s = 0 ∨ s = 1 ∨ s = 2 by omega) with e | e | e <;> subst e
    · rw [Nat.add_zero] at h2
      omega
    · omega
    · omega
def agr (k S S' : Nat) : Prop := ∀ j, j < k → S.testBit j = S'.testBit j
theorem bS_t {S k : Nat} : bS S k ↔ S.testBit k = true := by
  rw [Nat.testBit_eq_decide_div_mod_eq, decide_eq_true_eq]
theorem BN_bit {c : Tb} {T : Nat → Nat} {hr m S S' k : Nat} {w : Nat → Nat} (h : S.testBit k = S'.testBit k) : BN c T hr m S k w = BN c T hr m S' k w := by
  unfold BN
  have : bS S k ↔ bS S' k := by rw [bS_t, bS_t, h]
  by_cases b : bS S k
  · rw [if_pos b, if_pos (this.mp b)]
  · rw [if_neg b, if_neg (fun z => b (this.mpr z))]
theorem B_agr {c : Tb} {T : Nat → Nat} {hr m S S' : Nat} {w : Nat → Nat} : ∀ k, agr k S S' → BW c T hr m S w k = BW c T hr m S' w k ∧ BG c T hr m S w k = BG c T hr m S' w k
  | 0, _ => ⟨rfl, rfl⟩
  | k + 1, h => by
    obtain ⟨i1, i2⟩ := B_agr (c := c) (T := T) (hr := hr) (m := m) (w := w) k (fun j hj => h j (by omega))
    show (BN c T hr m S k (BW c T hr m S w k)).1 = (BN c T hr m S' k (BW c T hr m S' w k)).1 ∧ BG c T hr m S w k + gbN (BN c T hr m S k (BW c T hr m S w k)).2.2 m = BG c T hr m S' w k + gbN (BN c T hr m S' k (BW c T hr m S' w k)).2.2 m
    rw [i1, i2, BN_bit (h k (by omega))]
    exact ⟨rfl, rfl⟩
theorem B_from {c : Tb} {T : Nat → Nat} {hr m S S' k0 : Nat} {w : Nat → Nat} (h0 : BW c T hr m S w k0 = BW c T hr m S' w k0) (h1 : BG c T hr m S w k0 = BG c T hr m S' w k0) (hb : ∀ j, k0 ≤ j → S.testBit j = S'.testBit j) : ∀ r, BW c T hr m S w (k0 + r) = BW c T hr m S' w (k0 + r) ∧ BG c T hr m S w (k0 + r) = BG c T hr m S' w (k0 + r)
  | 0 => ⟨h0, h1⟩
  | r + 1 => by
    obtain ⟨i1, i2⟩ := B_from h0 h1 hb r
    show (BN c T hr m S (k0 + r) (BW c T hr m S w (k0 + r))).1 = (BN c T hr m S' (k0 + r) (BW c T hr m S' w (k0 + r))).1 ∧ BG c T hr m S w (k0 + r) + gbN (BN c T hr m S (k0 + r) (BW c T hr m S w (k0 + r))).2.2 m = BG c T hr m S' w (k0 + r) + gbN (BN c T hr m S' (k0 + r) (BW c T hr m S' w (k0 + r))).2.2 m
    rw [i1, i2, BN_bit (hb _ (by omega))]
    exact ⟨rfl, rfl⟩
theorem BC_bit {S S' k : Nat} (hk : S.testBit k = true) (hk' : S'.testBit k = false) (hb : ∀ j, j ≠ k → S.testBit j = S'.testBit j) : ∀ i, BC S i = BC S' i + (if k < i then 1 else 0)
  | 0 => rfl
  | i + 1 => by
    have ih := BC_bit hk hk' hb i
    show BC S i + (if bS S i then 1 else 0) = BC S' i + (if bS S' i then 1 else 0) + (if k < i + 1 then 1 else 0)
    by_cases e : i = k
    · subst e
      have b1 : bS S i := bS_t.mpr hk
      have b2 : ¬ bS S' i := fun z => by rw [bS_t, hk'] at z; cases z
      rw [if_pos b1, if_neg b2, if_pos (by omega), ih, if_neg (by omega)]
    · have : bS S i ↔ bS S' i := by rw [bS_t, bS_t, hb i e]
      by_cases b : bS S i
      · rw [if_pos b, if_pos (this.mp b), ih]
        by_cases z : k < i
        · rw [if_pos z, if_pos (by omega)]
        · rw [if_neg z, if_neg (by omega)]
      · rw [if_neg b, if_neg (fun z => b (this.mpr z)), ih]
        by_cases z : k < i
        · rw [if_pos z, if_pos (by omega)]
        · rw [if_neg z, if_neg (by omega)]
theorem BC_hi {S n : Nat} (hS : S < 2 ^ n) : ∀ r, BC S (n + r) = BC S n
  | 0 => rfl
  | r + 1 => by
    show BC S (n + r) + (if bS S (n + r) then 1 else 0) = _
    rw [BC_hi hS r, if_neg (fun z => ?_)]
    · rfl
    · have h1 : S.testBit (n + r) = false := Nat.testBit_lt_two_pow (Nat.lt_of_lt_of_le hS (Nat.pow_le_pow_right (by omega) (by omega)))
      rw [bS_t, h1] at z
      cases z
theorem BC_8 {S n : Nat} (hS : S < 2 ^ n) (hn : n ≤ 8) : BC S 8 = BC S n := by
  have := BC_hi hS (8 - n)
  rw [show n + (8 - n) = 8 by omega] at this
  exact this
theorem agr_eq {n S S' : Nat} (h : agr n S S') (hS : S < 2 ^ n) (hS' : S' < 2 ^ n) : S = S' := by
  refine Nat.eq_of_testBit_eq (fun i => ?_)
  by_cases e : i < n
  · exact h i e
  · have hp : 2 ^ n ≤ 2 ^ i := Nat.pow_le_pow_right (by omega) (by omega)
    rw [Nat.testBit_lt_two_pow (Nat.lt_of_lt_of_le hS hp), Nat.testBit_lt_two_pow (Nat.lt_of_lt_of_le hS' hp)]
theorem nbtr_tr {a b c : Nat × Nat} (h1 : ¬ btr a b.1 b.2) (h2 : ¬ btr b c.1 c.2) : ¬ btr a c.1 c.2 := by
  simp only [btr] at h1 h2 ⊢
  omega
theorem SF_best {h : mM} {rd hr : Nat} (q : MH h rd hr) {m n : Nat} (hn : n ≤ 8) {w0 : Nat → Nat} (hw : WB (cfg h) w0) : ∀ (r k S : Nat) (b : Nat × Nat), k + r = n → S < 2 ^ k → (SF (cfg h) (TD h rd) hr m r k S (BG (cfg h) (TD h rd) hr m S w0 k) (BW (cfg h) (TD h rd) hr m S w0 k) b = b ∨ ∃ S', S' < 2 ^ n ∧ SF (cfg h) (TD h rd) hr m r k S (BG (cfg h) (TD h rd) hr m S w0 k) (BW (cfg h) (TD h rd) hr m S w0 k) b = (S', BG (cfg h) (TD h rd) hr m S' w0 n)) ∧ (¬ btr (SF (cfg h) (TD h rd) hr m r k S (BG (cfg h) (TD h rd) hr m S w0 k) (BW (cfg h) (TD h rd) hr m S w0 k) b) b.1 b.2) ∧ (∀ S', S' < 2 ^ n → agr k S S' → ¬ btr (SF (cfg h) (TD h rd) hr m r k S (BG (cfg h) (TD h rd) hr m S w0 k) (BW (cfg h) (TD h rd) hr m S w0 k) b) S' (BG (cfg h) (TD h rd) hr m S' w0 n))
  | 0, k, S, b, hk, hS => by
    have e : k = n := by omega
    subst e
    show (kpB S _ b = b ∨ ∃ S', S' < 2 ^ k ∧ kpB S _ b = _) ∧ (¬ btr (kpB S _ b) b.1 b.2) ∧ (∀ S', S' < 2 ^ k → agr k S S' → ¬ btr (kpB S _ b) S' _)
    unfold kpB
    by_cases z : btr b S (BG (cfg h) (TD h rd) hr m S w0 k)
    · rw [if_pos z]
      refine ⟨Or.inr ⟨S, hS, rfl⟩, ?_, fun S' hS' ha => ?_⟩
      · simp only [btr] at z ⊢
        omega
      · have := agr_eq ha hS hS'
        subst this
        simp only [btr]
        omega
    · rw [if_neg z]
      refine ⟨Or.inl rfl, ?_, fun S' hS' ha => ?_⟩
      · simp only [btr]
        omega
      · have := agr_eq ha hS hS'
        subst this
        exact z
  | r + 1, k, S, b, hk, hS => by
    have wk := BW_wb q hw (m := m) (S := S) k
    have td := (q.td (hr + k)).2
    have ck := q.1.1
    have sk : S.testBit k = false := Nat.testBit_lt_two_pow hS
    have nb : ¬ bS S k := fun z => by rw [bS_t, sk] at z; cases z
    have hp : 2 ^ (k + 1) = 2 ^ k + 2 ^ k := by rw [Nat.pow_succ]; omega
    have eN : BN (cfg h) (TD h rd) hr m S k (BW (cfg h) (TD h rd) hr m S w0 k) = HN (cfg h) (TD h rd (hr + k)) m (BW (cfg h) (TD h rd) hr m S w0 k) := by unfold BN; rw [if_neg nb]
    have eW : BW (cfg h) (TD h rd) hr m S w0 (k + 1) = (HN (cfg h) (TD h rd (hr + k)) m (BW (cfg h) (TD h rd) hr m S w0 k)).1 := by rw [← eN]; rfl
    have eG : BG (cfg h) (TD h rd) hr m S w0 (k + 1) = BG (cfg h) (TD h rd) hr m S w0 k := by
      show _ + gbN (BN (cfg h) (TD h rd) hr m S k (BW (cfg h) (TD h rd) hr m S w0 k)).2.2 m = _
      rw [eN, gb_rest ck td wk, Nat.add_zero]
    have ag1 : ∀ S', agr k S S' → S'.testBit k = false → agr (k + 1) S S' := fun S' ha h0 j hj => by
      by_cases e : j = k
      · subst e; rw [sk, h0]
      · exact ha j (by omega)
    obtain ⟨i1, i2, i3⟩ := SF_best q (m := m) hn hw r (k + 1) S (if 0 < gbN (HN (cfg h) (TD h rd (hr + k)) 4 (BW (cfg h) (TD h rd) hr m S w0 k)).2.2 m then SF (cfg h) (TD h rd) hr m r (k + 1) (S + 2 ^ k) (BG (cfg h) (TD h rd) hr m S w0 k + gbN (HN (cfg h) (TD h rd (hr + k)) 4 (BW (cfg h) (TD h rd) hr m S w0 k)).2.2 m) (HN (cfg h) (TD h rd (hr + k)) 4 (BW (cfg h) (TD h rd) hr m S w0 k)).1 b else b) (by omega) (by omega)
    rw [eW, eG] at i1 i2 i3
    by_cases z : 0 < gbN (HN (cfg h) (TD h rd (hr + k)) 4 (BW (cfg h) (TD h rd) hr m S w0 k)).2.2 m
    · have eSF : SF (cfg h) (TD h rd) hr m (r + 1) k S (BG (cfg h) (TD h rd) hr m S w0 k) (BW (cfg h) (TD h rd) hr m S w0 k) b = SF (cfg h) (TD h rd) hr m r (k + 1) S (BG (cfg h) (TD h rd) hr m S w0 k) (HN (cfg h) (TD h rd (hr + k)) m (BW (cfg h) (TD h rd) hr m S w0 k)).1 (SF (cfg h) (TD h rd) hr m r (k + 1) (S + 2 ^ k) (BG (cfg h) (TD h rd) hr m S w0 k + gbN (HN (cfg h) (TD h rd (hr + k)) 4 (BW (cfg h) (TD h rd) hr m S w0 k)).2.2 m) (HN (cfg h) (TD h rd (hr + k)) 4 (BW (cfg h) (TD h rd) hr m S w0 k)).1 b) := if_pos z
      rw [eSF]
      rw [if_pos z] at i1 i2 i3
      have sb : (S + 2 ^ k).testBit k = true := by
        rw [Nat.add_comm, Nat.testBit_two_pow_add_eq, sk]
        rfl
      have ag2 : agr k S (S + 2 ^ k) := fun j hj => by rw [Nat.add_comm, Nat.testBit_two_pow_add_gt hj]
      obtain ⟨a1, a2⟩ := B_agr (c := cfg h) (T := TD h rd) (hr := hr) (m := m) (w := w0) k ag2
      have eN2 : BN (cfg h) (TD h rd) hr m (S + 2 ^ k) k (BW (cfg h) (TD h rd) hr m (S + 2 ^ k) w0 k) = HN (cfg h) (TD h rd (hr + k)) 4 (BW (cfg h) (TD h rd) hr m S w0 k) := by
        unfold BN
        rw [if_pos (bS_t.mpr sb), a1]
      have eW2 : BW (cfg h) (TD h rd) hr m (S + 2 ^ k) w0 (k + 1) = (HN (cfg h) (TD h rd (hr + k)) 4 (BW (cfg h) (TD h rd) hr m S w0 k)).1 := by rw [← eN2]; rfl
      have eG2 : BG (cfg h) (TD h rd) hr m (S + 2 ^ k) w0 (k + 1) = BG (cfg h) (TD h rd) hr m S w0 k + gbN (HN (cfg h) (TD h rd (hr + k)) 4 (BW (cfg h) (TD h rd) hr m S w0 k)).2.2 m := by
        rw [← eN2, a2]
        rfl
      obtain ⟨j1, j2, j3⟩ := SF_best q (m := m) hn hw r (k + 1) (S + 2 ^ k) b (by omega) (by omega)
      rw [eW2, eG2] at j1 j2 j3
      generalize SF (cfg h) (TD h rd) hr m r (k + 1) (S + 2 ^ k) (BG (cfg h) (TD h rd) hr m S w0 k + gbN (HN (cfg h) (TD h rd (hr + k)) 4 (BW (cfg h) (TD h rd) hr m S w0 k)).2.2 m) (HN (cfg h) (TD h rd (hr + k)) 4 (BW (cfg h) (TD h rd) hr m S w0 k)).1 b = b1 at i1 i2 i3 j1 j2 j3 ⊢
      generalize SF (cfg h) (TD h rd) hr m r (k + 1) S (BG (cfg h) (TD h rd) hr m S w0 k) (HN (cfg h) (TD h rd (hr + k)) m (BW (cfg h) (TD h rd) hr m S w0 k)).1 b1 = b2 at i1 i2 i3 ⊢
      refine ⟨?_, nbtr_tr i2 j2, fun S' hS' ha => ?_⟩
      · rcases i1 with i1 | i1
        · subst i1
          exact j1
        · exact Or.inr i1
      · by_cases b0 : S'.testBit k = true
        · refine nbtr_tr (c := (S', BG (cfg h) (TD h rd) hr m S' w0 n)) i2 (j3 S' hS' (fun j hj => ?_))
          by_cases e : j = k
          · subst e; rw [sb, b0]
          · rw [← ag2 j (by omega)]
            exact ha j (by omega)
        · exact i3 S' hS' (ag1 S' ha (by simpa using b0))
    · have eSF : SF (cfg h) (TD h rd) hr m (r + 1) k S (BG (cfg h) (TD h rd) hr m S w0 k) (BW (cfg h) (TD h rd) hr m S w0 k) b = SF (cfg h) (TD h rd) hr m r (k + 1) S (BG (cfg h) (TD h rd) hr m S w0 k) (HN (cfg h) (TD h rd (hr + k)) 4 (BW (cfg h) (TD h rd) hr m S w0 k)).1 b := if_neg z
      have idle := HN_idle ck (m := m) td wk (by omega)
      rw [eSF, idle]
      rw [if_neg z] at i1 i2 i3
      generalize SF (cfg h) (TD h rd) hr m r (k + 1) S (BG (cfg h) (TD h rd) hr m S w0 k) (HN (cfg h) (TD h rd (hr + k)) m (BW (cfg h) (TD h rd) hr m S w0 k)).1 b = b2 at i1 i2 i3 ⊢
      refine ⟨i1, i2, fun S' hS' ha => ?_⟩
      by_cases b0 : S'.testBit k = true
      · have xb : ∀ j, (S' ^^^ 2 ^ k).testBit j = (S'.testBit j ^^ decide (k = j)) := fun j => by rw [Nat.testBit_xor, Nat.testBit_two_pow]
        have x0 : (S' ^^^ 2 ^ k).testBit k = false := by rw [xb, b0, decide_eq_true rfl]; rfl
        have xo : ∀ j, j ≠ k → S'.testBit j = (S' ^^^ 2 ^ k).testBit j := fun j hj => by rw [xb, decide_eq_false (fun e => hj e.symm), Bool.xor_false]
        have xl : S' ^^^ 2 ^ k < 2 ^ n := Nat.xor_lt_two_pow hS' (Nat.pow_lt_pow_right (by omega) (by omega))
        have ha2 : agr k S (S' ^^^ 2 ^ k) := fun j hj => by rw [← xo j (by omega)]; exact ha j hj
        have nb2 := i3 (S' ^^^ 2 ^ k) xl (ag1 _ ha2 x0)
        obtain ⟨p1, p2⟩ := B_agr (c := cfg h) (T := TD h rd) (hr := hr) (m := m) (w := w0) k ha
        obtain ⟨p3, p4⟩ := B_agr (c := cfg h) (T := TD h rd) (hr := hr) (m := m) (w := w0) k ha2
        have n1 : BN (cfg h) (TD h rd) hr m S' k (BW (cfg h) (TD h rd) hr m S' w0 k) = BN (cfg h) (TD h rd) hr m (S' ^^^ 2 ^ k) k (BW (cfg h) (TD h rd) hr m (S' ^^^ 2 ^ k) w0 k) := by
          unfold BN
          rw [if_pos (bS_t.mpr b0), if_neg (fun z => by rw [bS_t, x0] at z; cases z), ← p1, ← p3, idle]
        have e1 : BW (cfg h) (TD h rd) hr m S' w0 (k + 1) = BW (cfg h) (TD h rd) hr m (S' ^^^ 2 ^ k) w0 (k + 1) := congrArg (fun x : N3 => x.1) n1
        have e2 : BG (cfg h) (TD h rd) hr m S' w0 (k + 1) = BG (cfg h) (TD h rd) hr m (S' ^^^ 2 ^ k) w0 (k + 1) := by
          show _ + gbN (BN (cfg h) (TD h rd) hr m S' k _).2.2 m = _ + gbN (BN (cfg h) (TD h rd) hr m (S' ^^^ 2 ^ k) k _).2.2 m
          rw [n1, ← p2, ← p4]
        have e3 := (B_from e1 e2 (fun j hj => xo j (by omega)) r).2
        rw [show k + 1 + r = n by omega] at e3
        have bc := BC_bit b0 x0 xo 8
        rw [if_pos (by omega)] at bc
        rw [e3]
        simp only [btr] at nb2 ⊢
        omega
      · exact i3 S' hS' (ag1 S' ha (by simpa using b0))
theorem BB_max {v : Nat → Nat} {n : Nat} (hn : n ≤ 8) : ∀ s, s < 2 ^ n → (BB v (fun S => BC S n) s).1 = v (BB v (fun S => BC S n) s).2.1 ∧ (BB v (fun S => BC S n) s).2.2 = BC (BB v (fun S => BC S n) s).2.1 n ∧ (BB v (fun S => BC S n) s).2.1 ≤ s ∧ ∀ S, S ≤ s → ¬ btr ((BB v (fun S => BC S n) s).2.1, (BB v (fun S => BC S n) s).1) S (v S)
  | 0, _ => by
    refine ⟨rfl, rfl, Nat.le_refl _, fun S hS => ?_⟩
    have : S = 0 := by omega
    subst this
    show ¬ btr (0, v 0) 0 (v 0)
    simp only [btr]
    omega
  | s + 1, hs => by
    obtain ⟨i1, i2, i3, i4⟩ := BB_max (v := v) hn s (by omega)
    have c1 := BC_8 hs hn
    have c2 := BC_8 (S := (BB v (fun S => BC S n) s).2.1) (n := n) (by omega) hn
    have e : BB v (fun S => BC S n) (s + 1) = if (BB v (fun S => BC S n) s).1 < v (s + 1) ∨ (v (s + 1) = (BB v (fun S => BC S n) s).1 ∧ BC (s + 1) n < (BB v (fun S => BC S n) s).2.2) then (v (s + 1), s + 1, BC (s + 1) n) else BB v (fun S => BC S n) s := rfl
    rw [e]
    generalize BB v (fun S => BC S n) s = X at i1 i2 i3 i4 c2 ⊢
    by_cases z : X.1 < v (s + 1) ∨ (v (s + 1) = X.1 ∧ BC (s + 1) n < X.2.2)
    · rw [if_pos z]
      refine ⟨rfl, rfl, Nat.le_refl _, fun S hS => ?_⟩
      show ¬ btr (s + 1, v (s + 1)) S (v S)
      by_cases e2 : S = s + 1
      · subst e2
        simp only [btr]
        omega
      · have := i4 S (by omega)
        simp only [btr] at this ⊢
        omega
    · rw [if_neg z]
      refine ⟨i1, i2, by omega, fun S hS => ?_⟩
      by_cases e2 : S = s + 1
      · subst e2
        simp only [btr]
        omega
      · exact i4 S (by omega)
theorem BG_0 {h : mM} {rd hr : Nat} (q : MH h rd hr) {m : Nat} {w0 : Nat → Nat} (hw : WB (cfg h) w0) : ∀ k, BG (cfg h) (TD h rd) hr m 0 w0 k = 0
  | 0 => rfl
  | k + 1 => by
    show BG (cfg h) (TD h rd) hr m 0 w0 k + gbN (BN (cfg h) (TD h rd) hr m 0 k _).2.2 m = 0
    have nb : ¬ bS 0 k := fun z => by rw [bS_t, Nat.zero_testBit] at z; cases z
    unfold BN
    rw [if_neg nb, gb_rest q.1.1 (q.td _).2 (BW_wb q hw k), BG_0 q hw k]
theorem SF_BR {h : mM} {rd hr : Nat} (q : MH h rd hr) {m n : Nat} (hn : n ≤ 8) {w0 : Nat → Nat} (hw : WB (cfg h) w0) : SF (cfg h) (TD h rd) hr m n 0 0 0 w0 (0, 0) = ((BR (cfg h) (TD h rd) hr m w0 n).2.1, (BR (cfg h) (TD h rd) hr m w0 n).1) := by
  have p1 : 1 ≤ 2 ^ n := Nat.one_le_two_pow
  obtain ⟨i1, i2, i3⟩ := SF_best q (m := m) hn hw n 0 0 (0, 0) (by omega) (by omega)
  have e0 : SF (cfg h) (TD h rd) hr m n 0 0 (BG (cfg h) (TD h rd) hr m 0 w0 0) (BW (cfg h) (TD h rd) hr m 0 w0 0) (0, 0) = SF (cfg h) (TD h rd) hr m n 0 0 0 w0 (0, 0) := rfl
  rw [e0] at i1 i2 i3
  obtain ⟨j1, j2, j3, j4⟩ := BB_max (v := fun S => BG (cfg h) (TD h rd) hr m S w0 n) hn (2 ^ n - 1) (by omega)
  unfold BR
  generalize SF (cfg h) (TD h rd) hr m n 0 0 0 w0 (0, 0) = A at i1 i2 i3 ⊢
  generalize BB (fun S => BG (cfg h) (TD h rd) hr m S w0 n) (fun S => BC S n) (2 ^ n - 1) = X at j1 j2 j3 j4 ⊢
  have hA : A.1 < 2 ^ n ∧ A.2 = BG (cfg h) (TD h rd) hr m A.1 w0 n := by
    rcases i1 with e | ⟨S', h1, e⟩
    · subst e
      exact ⟨by show 0 < 2 ^ n; omega, (BG_0 q hw n).symm⟩
    · subst e
      exact ⟨h1, rfl⟩
  have k1 := i3 X.2.1 (by omega) (fun j hj => by omega)
  have k2 := j4 A.1 (by omega)
  rw [← hA.2] at k2
  have j1' : X.1 = BG (cfg h) (TD h rd) hr m X.2.1 w0 n := j1
  rw [← j1'] at k1
  have : A.1 = X.2.1 ∧ A.2 = X.1 := by
    simp only [btr] at k1 k2
    omega
  obtain ⟨x1, x2⟩ := A
  show (x1, x2) = (X.2.1, X.1)
  rw [show x1 = X.2.1 from this.1, show x2 = X.1 from this.2]
