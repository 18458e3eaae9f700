-- bits (the family bt of laws/BITS.to-paste, and what is wanted of it here)
def bt (x : Int32) (i : Nat) : Bool := x.toBitVec.getLsbD i
theorem b_ext {x y : Int32} (h : ∀ i, i < 32 → bt x i = bt y i) : x = y := Int32.toBitVec_inj.mp (BitVec.eq_of_getLsbD_eq (fun i hi => h i hi))
theorem b_or (x y : Int32) (i : Nat) : bt (x ||| y) i = (bt x i || bt y i) := by unfold bt; rw [Int32.toBitVec_or, BitVec.getLsbD_or]
theorem b_and (x y : Int32) (i : Nat) : bt (x &&& y) i = (bt x i && bt y i) := by unfold bt; rw [Int32.toBitVec_and, BitVec.getLsbD_and]
theorem b_xor (x y : Int32) (i : Nat) : bt (x ^^^ y) i = (bt x i ^^ bt y i) := by unfold bt; rw [Int32.toBitVec_xor, BitVec.getLsbD_xor]
theorem b_m1 : ∀ i, i < 32 → bt (-1) i = true := by decide +kernel
theorem b_big {x : Int32} {i : Nat} (h : 32 ≤ i) : bt x i = false := BitVec.getLsbD_of_ge _ _ h
theorem b_0 (i : Nat) : bt 0 i = false := BitVec.getLsbD_zero
theorem s_l : ∀ n, n < 32 → ((nI n &&& 31).toBitVec.smod 32).toNat = n := by decide +kernel
theorem b_shl (n : Nat) (hn : n < 32) (x : Int32) {i : Nat} (hi : i < 32) : bt (x <<< (nI n &&& 31)) i = (decide (n ≤ i) && bt x (i - n)) := by
  unfold bt
  rw [Int32.toBitVec_shiftLeft]
  show (x.toBitVec <<< ((nI n &&& 31).toBitVec.smod 32).toNat).getLsbD i = _
  rw [s_l n hn, BitVec.getLsbD_shiftLeft]
  rcases Nat.lt_or_ge i n with h | h
  · simp [h, Nat.not_le.mpr h]
  · simp [hi, h, Nat.not_lt.mpr h]
theorem b_sshr (n : Nat) (hn : n < 32) (x : Int32) {i : Nat} (hi : i < 32) : bt (x >>> (nI n &&& 31)) i = if n + i < 32 then bt x (n + i) else bt x 31 := by
  unfold bt
  rw [Int32.toBitVec_shiftRight]
  show (x.toBitVec.sshiftRight ((nI n &&& 31).toBitVec.smod 32).toNat).getLsbD i = _
  rw [s_l n hn, BitVec.getLsbD_sshiftRight, BitVec.msb_eq_getLsbD_last]
  simp [hi]
theorem bt_one : ∀ i, i < 32 → bt 1 i = decide (i = 0) := by decide +kernel
theorem bt_bit {n i : Nat} (hn : n < 32) (hi : i < 32) : bt (1 <<< (nI n &&& 31)) i = decide (i = n) := by
  rw [b_shl n hn 1 hi]
  by_cases h : n ≤ i
  · rw [bt_one (i - n) (by omega), decide_eq_true h, Bool.true_and]
    exact decide_eq_decide.mpr ⟨fun _ => by omega, fun _ => by omega⟩
  · rw [decide_eq_false h, Bool.false_and, decide_eq_false (by omega)]
theorem onM_bt {x : Int32} {s : Nat} (hs : s < 32) : onM x s = nI (if bt x s = true then 1 else 0) := by
  refine b_ext (fun i hi => ?_)
  unfold onM
  rw [b_and, b_sshr s hs x hi, bt_one i hi]
  by_cases e : i = 0
  · subst e
    rw [Nat.add_zero, if_pos hs, decide_eq_true rfl, Bool.and_true]
    by_cases b : bt x s = true
    · rw [b, if_pos rfl]
      exact (by decide +kernel : true = bt (nI 1) 0)
    · rw [if_neg b]
      have : bt x s = false := by simpa using b
      rw [this]
      exact (by decide +kernel : false = bt (nI 0) 0)
  · rw [decide_eq_false e, Bool.and_false]
    by_cases b : bt x s = true
    · rw [if_pos b]
      show false = bt 1 i
      rw [bt_one i hi, decide_eq_false e]
    · rw [if_neg b]
      exact (b_0 i).symm
theorem bt_7 : ∀ i, i < 32 → bt 7 i = decide (i < 3) := by decide +kernel
theorem bt_rest {x : Int32} {m i : Nat} (hm : m < 4) (hi : i < 32) : bt (x &&& ((7 <<< (nI (3 * m) &&& 31)) ^^^ (-1))) i = (bt x i && !decide (3 * m ≤ i ∧ i < 3 * m + 3)) := by
  rw [b_and, b_xor, b_m1 i hi, b_shl (3 * m) (by omega) 7 hi]
  by_cases h : 3 * m ≤ i
  · rw [bt_7 (i - 3 * m) (by omega), decide_eq_true h, Bool.true_and]
    by_cases h2 : i - 3 * m < 3
    · rw [decide_eq_true h2, decide_eq_true (show 3 * m ≤ i ∧ i < 3 * m + 3 by omega)]
      rfl
    · rw [decide_eq_false h2, decide_eq_false (show ¬ (3 * m ≤ i ∧ i < 3 * m + 3) by omega)]
      rfl
  · rw [decide_eq_false h, Bool.false_and, decide_eq_false (show ¬ (3 * m ≤ i ∧ i < 3 * m + 3) by omega)]
    rfl
theorem set_bit {S k : Nat} (hS : S < 2 ^ 31) (hk : k < 32) : (nI S >>> (nI k &&& 31)) &&& 1 = nI (S / 2 ^ k % 2) := by
  rw [pk_shrN hS _ k (s_l k hk), pk_andN (Nat.lt_of_le_of_lt (Nat.div_le_self _ _) (by omega)) 1 (by decide)]
