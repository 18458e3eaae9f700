-- the memory while the objects are made (gen_ctor.py)
def tT : List (Nat × Nat) := [(19, 0), (9, 16), (7, 2), (11, 24), (8, 7), (13, 4), (14, 4), (15, 4), (11, 4), (3, 4), (3, 4), (3, 4), (3, 4), (0, 3), (0, 3), (0, 3), (0, 3), (2, 15), (16, 3), (17, 12), (6, 5), (6, 5), (6, 5), (4, 4), (4, 4), (4, 4), (4, 4), (4, 4), (4, 4), (4, 4), (4, 4), (4, 4), (4, 4), (4, 4), (4, 4), (2, 15), (16, 3), (17, 12), (6, 5), (6, 5), (6, 5), (4, 4), (4, 4), (4, 4), (4, 4), (4, 4), (4, 4), (4, 4), (4, 4), (4, 4), (4, 4), (4, 4), (4, 4), (2, 15), (16, 3), (17, 12), (6, 5), (6, 5), (6, 5), (4, 4), (4, 4), (4, 4), (4, 4), (4, 4), (4, 4), (4, 4), (4, 4), (4, 4), (4, 4), (4, 4), (4, 4), (2, 15), (16, 3), (17, 12), (6, 5), (6, 5), (6, 5), (4, 4), (4, 4), (4, 4), (4, 4), (4, 4), (4, 4), (4, 4), (4, 4), (4, 4), (4, 4), (4, 4), (4, 4), (1, 6), (11, 12), (5, 8), (18, 9), (11, 4), (11, 4), (11, 4), (11, 4), (11, 4), (11, 4), (11, 4), (11, 4), (11, 4), (1, 6), (11, 12), (11, 4), (11, 10), (11, 24), (11, 6), (11, 4), (10, 37), (11, 24), (11, 4), (11, 4), (11, 4), (11, 4), (11, 4), (11, 4), (11, 4), (11, 4), (11, 4), (11, 4), (11, 4), (11, 4), (11, 4), (11, 4), (11, 12), (11, 12), (11, 12), (11, 12), (11, 4), (11, 192), (12, 24), (12, 10), (12, 5), (11, 24), (12, 6), (11, 4), (12, 4)]
def TT (a : Nat) : Nat × Nat := tT.getD a (0, 0)
theorem TT_1 : TT 1 = (9, 16) := by decide
theorem TT_2 : TT 2 = (7, 2) := by decide
theorem TT_3 : TT 3 = (11, 24) := by decide
theorem TT_4 : TT 4 = (8, 7) := by decide
theorem TT_5 : TT 5 = (13, 4) := by decide
theorem TT_6 : TT 6 = (14, 4) := by decide
theorem TT_7 : TT 7 = (15, 4) := by decide
theorem TT_8 : TT 8 = (11, 4) := by decide
theorem TT_9 : TT 9 = (3, 4) := by decide
theorem TT_10 : TT 10 = (3, 4) := by decide
theorem TT_11 : TT 11 = (3, 4) := by decide
theorem TT_12 : TT 12 = (3, 4) := by decide
theorem TT_13 : TT 13 = (0, 3) := by decide
theorem TT_14 : TT 14 = (0, 3) := by decide
theorem TT_15 : TT 15 = (0, 3) := by decide
theorem TT_16 : TT 16 = (0, 3) := by decide
theorem TT_17 : TT 17 = (2, 15) := by decide
theorem TT_18 : TT 18 = (16, 3) := by decide
theorem TT_19 : TT 19 = (17, 12) := by decide
theorem TT_20 : TT 20 = (6, 5) := by decide
theorem TT_21 : TT 21 = (6, 5) := by decide
theorem TT_22 : TT 22 = (6, 5) := by decide
theorem TT_23 : TT 23 = (4, 4) := by decide
theorem TT_24 : TT 24 = (4, 4) := by decide
theorem TT_25 : TT 25 = (4, 4) := by decide
theorem TT_26 : TT 26 = (4, 4) := by decide
theorem TT_27 : TT 27 = (4, 4) := by decide
theorem TT_28 : TT 28 = (4, 4) := by decide
theorem TT_29 : TT 29 = (4, 4) := by decide
theorem TT_30 : TT 30 = (4, 4) := by decide
theorem TT_31 : TT 31 = (4, 4) := by decide
theorem TT_32 : TT 32 = (4, 4) := by decide
theorem TT_33 : TT 33 = (4, 4) := by decide
theorem TT_34 : TT 34 = (4, 4) := by decide
theorem TT_35 : TT 35 = (2, 15) := by decide
theorem TT_36 : TT 36 = (16, 3) := by decide
theorem TT_37 : TT 37 = (17, 12) := by decide
theorem TT_38 : TT 38 = (6, 5) := by decide
theorem TT_39 : TT 39 = (6, 5) := by decide
theorem TT_40 : TT 40 = (6, 5) := by decide
theorem TT_41 : TT 41 = (4, 4) := by decide
theorem TT_42 : TT 42 = (4, 4) := by decide
theorem TT_43 : TT 43 = (4, 4) := by decide
theorem TT_44 : TT 44 = (4, 4) := by decide
theorem TT_45 : TT 45 = (4, 4) := by decide
theorem TT_46 : TT 46 = (4, 4) := by decide
theorem TT_47 : TT 47 = (4, 4) := by decide
theorem TT_48 : TT 48 = (4, 4) := by decide
theorem TT_49 : TT 49 = (4, 4) := by decide
theorem TT_50 : TT 50 = (4, 4) := by decide
theorem TT_51 : TT 51 = (4, 4) := by decide
theorem TT_52 : TT 52 = (4, 4) := by decide
theorem TT_53 : TT 53 = (2, 15) := by decide
theorem TT_54 : TT 54 = (16, 3) := by decide
theorem TT_55 : TT 55 = (17, 12) := by decide
theorem TT_56 : TT 56 = (6, 5) := by decide
theorem TT_57 : TT 57 = (6, 5) := by decide
theorem TT_58 : TT 58 = (6, 5) := by decide
theorem TT_59 : TT 59 = (4, 4) := by decide
theorem TT_60 : TT 60 = (4, 4) := by decide
theorem TT_61 : TT 61 = (4, 4) := by decide
theorem TT_62 : TT 62 = (4, 4) := by decide
theorem TT_63 : TT 63 = (4, 4) := by decide
theorem TT_64 : TT 64 = (4, 4) := by decide
theorem TT_65 : TT 65 = (4, 4) := by decide
theorem TT_66 : TT 66 = (4, 4) := by decide
theorem TT_67 : TT 67 = (4, 4) := by decide
theorem TT_68 : TT 68 = (4, 4) := by decide
theorem TT_69 : TT 69 = (4, 4) := by decide
theorem TT_70 : TT 70 = (4, 4) := by decide
theorem TT_71 : TT 71 = (2, 15) := by decide
theorem TT_72 : TT 72 = (16, 3) := by decide
theorem TT_73 : TT 73 = (17, 12) := by decide
theorem TT_74 : TT 74 = (6, 5) := by decide
theorem TT_75 : TT 75 = (6, 5) := by decide
theorem TT_76 : TT 76 = (6, 5) := by decide
theorem TT_77 : TT 77 = (4, 4) := by decide
theorem TT_78 : TT 78 = (4, 4) := by decide
theorem TT_79 : TT 79 = (4, 4) := by decide
theorem TT_80 : TT 80 = (4, 4) := by decide
theorem TT_81 : TT 81 = (4, 4) := by decide
theorem TT_82 : TT 82 = (4, 4) := by decide
theorem TT_83 : TT 83 = (4, 4) := by decide
theorem TT_84 : TT 84 = (4, 4) := by decide
theorem TT_85 : TT 85 = (4, 4) := by decide
theorem TT_86 : TT 86 = (4, 4) := by decide
theorem TT_87 : TT 87 = (4, 4) := by decide
theorem TT_88 : TT 88 = (4, 4) := by decide
theorem TT_89 : TT 89 = (1, 6) := by decide
theorem TT_90 : TT 90 = (11, 12) := by decide
theorem TT_91 : TT 91 = (5, 8) := by decide
theorem TT_92 : TT 92 = (18, 9) := by decide
theorem TT_93 : TT 93 = (11, 4) := by decide
theorem TT_94 : TT 94 = (11, 4) := by decide
theorem TT_95 : TT 95 = (11, 4) := by decide
theorem TT_96 : TT 96 = (11, 4) := by decide
theorem TT_97 : TT 97 = (11, 4) := by decide
theorem TT_98 : TT 98 = (11, 4) := by decide
theorem TT_99 : TT 99 = (11, 4) := by decide
theorem TT_100 : TT 100 = (11, 4) := by decide
theorem TT_101 : TT 101 = (11, 4) := by decide
theorem TT_102 : TT 102 = (1, 6) := by decide
theorem TT_103 : TT 103 = (11, 12) := by decide
theorem TT_104 : TT 104 = (11, 4) := by decide
theorem TT_105 : TT 105 = (11, 10) := by decide
theorem TT_106 : TT 106 = (11, 24) := by decide
theorem TT_107 : TT 107 = (11, 6) := by decide
theorem TT_108 : TT 108 = (11, 4) := by decide
theorem TT_109 : TT 109 = (10, 37) := by decide
theorem TT_110 : TT 110 = (11, 24) := by decide
theorem TT_111 : TT 111 = (11, 4) := by decide
theorem TT_112 : TT 112 = (11, 4) := by decide
theorem TT_113 : TT 113 = (11, 4) := by decide
theorem TT_114 : TT 114 = (11, 4) := by decide
theorem TT_115 : TT 115 = (11, 4) := by decide
theorem TT_116 : TT 116 = (11, 4) := by decide
theorem TT_117 : TT 117 = (11, 4) := by decide
theorem TT_118 : TT 118 = (11, 4) := by decide
theorem TT_119 : TT 119 = (11, 4) := by decide
theorem TT_120 : TT 120 = (11, 4) := by decide
theorem TT_121 : TT 121 = (11, 4) := by decide
theorem TT_122 : TT 122 = (11, 4) := by decide
theorem TT_123 : TT 123 = (11, 4) := by decide
theorem TT_124 : TT 124 = (11, 4) := by decide
theorem TT_125 : TT 125 = (11, 12) := by decide
theorem TT_126 : TT 126 = (11, 12) := by decide
theorem TT_127 : TT 127 = (11, 12) := by decide
theorem TT_128 : TT 128 = (11, 12) := by decide
theorem TT_129 : TT 129 = (11, 4) := by decide
theorem TT_130 : TT 130 = (11, 192) := by decide
theorem TT_131 : TT 131 = (12, 24) := by decide
theorem TT_132 : TT 132 = (12, 10) := by decide
theorem TT_133 : TT 133 = (12, 5) := by decide
theorem TT_134 : TT 134 = (11, 24) := by decide
theorem TT_135 : TT 135 = (12, 6) := by decide
theorem TT_136 : TT 136 = (11, 4) := by decide
theorem TT_137 : TT 137 = (12, 4) := by decide
theorem zl_3 : ((3 : Int32) < 0) = False := by decide
theorem cz_3 : (3 : Int32).toNatClampNeg = 3 := by decide
theorem zl_4 : ((4 : Int32) < 0) = False := by decide
theorem cz_4 : (4 : Int32).toNatClampNeg = 4 := by decide
theorem zl_5 : ((5 : Int32) < 0) = False := by decide
theorem cz_5 : (5 : Int32).toNatClampNeg = 5 := by decide
theorem zl_6 : ((6 : Int32) < 0) = False := by decide
theorem cz_6 : (6 : Int32).toNatClampNeg = 6 := by decide
theorem zl_9 : ((9 : Int32) < 0) = False := by decide
theorem cz_9 : (9 : Int32).toNatClampNeg = 9 := by decide
theorem zl_10 : ((10 : Int32) < 0) = False := by decide
theorem cz_10 : (10 : Int32).toNatClampNeg = 10 := by decide
theorem zl_12 : ((12 : Int32) < 0) = False := by decide
theorem cz_12 : (12 : Int32).toNatClampNeg = 12 := by decide
theorem zl_24 : ((24 : Int32) < 0) = False := by decide
theorem cz_24 : (24 : Int32).toNatClampNeg = 24 := by decide
theorem zl_192 : ((192 : Int32) < 0) = False := by decide
theorem cz_192 : (192 : Int32).toNatClampNeg = 192 := by decide
/-- cells 1 .. N-1 are made, by the table TT; ints I, references R -/
def yM (b : mM) (N Z : Nat) (I : Nat → Nat → Int32) (R : Nat → Nat → Option Nat) : mM := (N, Z, fun a => if 0 < a ∧ a < N then TT a else b.2.2.1 a, fun a k => if 0 < a ∧ a < N then I a k else b.2.2.2.1 a k, fun a k => if 0 < a ∧ a < N then 0 else b.2.2.2.2.1 a k, fun a k => if 0 < a ∧ a < N then R a k else b.2.2.2.2.2 a k)
def Fr (I : Nat → Nat → Int32) (R : Nat → Nat → Option Nat) (N : Nat) : Prop := ∀ x, N ≤ x → ∀ k, I x k = 0 ∧ R x k = none
theorem y_mN {b : mM} {N Z : Nat} {I : Nat → Nat → Int32} {R : Nat → Nat → Option Nat} : mN (yM b N Z I R) = N := rfl
theorem y_mK {b : mM} {N Z a : Nat} {I : Nat → Nat → Int32} {R : Nat → Nat → Option Nat} (h0 : 0 < a) (h1 : a < N) (hk : (TT a).1 < 19) : mK (yM b N Z I R) a = (TT a).1 := by
  show (if a = 0 then 19 else if a < N ∧ (if 0 < a ∧ a < N then TT a else _).1 < 19 then (if 0 < a ∧ a < N then TT a else _).1 else 99) = _
  rw [if_neg (by omega), if_pos (show 0 < a ∧ a < N from ⟨h0, h1⟩), if_pos ⟨h1, hk⟩]
theorem y_mL {b : mM} {N Z a : Nat} {I : Nat → Nat → Int32} {R : Nat → Nat → Option Nat} (h0 : 0 < a) (h1 : a < N) : mL (yM b N Z I R) a = (TT a).2 := by
  show (if 0 < a ∧ a < N then TT a else _).2 = _
  rw [if_pos ⟨h0, h1⟩]
theorem y_mR {b : mM} {N Z a k : Nat} {I : Nat → Nat → Int32} {R : Nat → Nat → Option Nat} (h0 : 0 < a) (h1 : a < N) : mR (yM b N Z I R) a k = R a k := if_pos ⟨h0, h1⟩
theorem y_mI {b : mM} {N Z a k : Nat} {I : Nat → Nat → Int32} {R : Nat → Nat → Option Nat} (h0 : 0 < a) (h1 : a < N) : mI (yM b N Z I R) a k = I a k := if_pos ⟨h0, h1⟩
theorem y_mJ {b : mM} {N Z a k : Nat} {I : Nat → Nat → Int32} {R : Nat → Nat → Option Nat} (h0 : 0 < a) (h1 : a < N) : mJ (yM b N Z I R) a k = 0 := if_pos ⟨h0, h1⟩
theorem y_ext {N Z : Nat} {t t' : Nat → Nat × Nat} {i i' : Nat → Nat → Int32} {j j' : Nat → Nat → Int64} {r r' : Nat → Nat → Option Nat} (h1 : ∀ a, t a = t' a) (h2 : ∀ a k, i a k = i' a k) (h3 : ∀ a k, j a k = j' a k) (h4 : ∀ a k, r a k = r' a k) : ((N, Z, t, i, j, r) : mM) = (N, Z, t', i', j', r') := by
  rw [show t = t' from funext h1, show i = i' from funext fun a => funext (h2 a), show j = j' from funext fun a => funext (h3 a), show r = r' from funext fun a => funext (h4 a)]
theorem y_wI {b : mM} {N Z a k : Nat} {v : Int32} {I : Nat → Nat → Int32} {R : Nat → Nat → Option Nat} (h0 : 0 < a) (h1 : a < N) : wI (yM b N Z I R) a k v = yM b N Z (u2 I a k v) R := by
  refine y_ext (fun _ => rfl) (fun x j => ?_) (fun _ _ => rfl) (fun _ _ => rfl)
  show (if x = a ∧ j = k then v else if 0 < x ∧ x < N then I x j else _) = if 0 < x ∧ x < N then (if x = a ∧ j = k then v else I x j) else _
  by_cases c : x = a ∧ j = k
  · rw [if_pos c, if_pos (by omega), if_pos c]
  · rw [if_neg c, if_neg c]
theorem y_wI0 {b : mM} {N Z a k : Nat} {I : Nat → Nat → Int32} {R : Nat → Nat → Option Nat} (h0 : 0 < a) (h1 : a < N) (hz : I a k = 0) : wI (yM b N Z I R) a k 0 = yM b N Z I R := by
  rw [y_wI h0 h1]
  have e : u2 I a k 0 = I := by
    funext x j
    rw [u2_ap]
    by_cases c : x = a ∧ j = k
    · rw [if_pos c, c.1, c.2, hz]
    · rw [if_neg c]
  rw [e]
theorem y_wR {b : mM} {N Z a k : Nat} {v : Option Nat} {I : Nat → Nat → Int32} {R : Nat → Nat → Option Nat} (h0 : 0 < a) (h1 : a < N) : wR (yM b N Z I R) a k v = yM b N Z I (r2 R a k v) := by
  refine y_ext (fun _ => rfl) (fun _ _ => rfl) (fun _ _ => rfl) (fun x j => ?_)
  show (if x = a ∧ j = k then v else if 0 < x ∧ x < N then R x j else _) = if 0 < x ∧ x < N then (if x = a ∧ j = k then v else R x j) else _
  by_cases c : x = a ∧ j = k
  · rw [if_pos c, if_pos (by omega), if_pos c]
  · rw [if_neg c, if_neg c]
theorem y_wN {b : mM} {N Z q n : Nat} {I : Nat → Nat → Int32} {R : Nat → Nat → Option Nat} (h0 : 0 < N) (hT : TT N = (q, n)) (fr : Fr I R N) : wN (yM b N Z I R) q n = yM b (N + 1) (Z + n) I R := by
  refine y_ext (fun a => ?_) (fun a k => ?_) (fun a k => ?_) (fun a k => ?_)
  · show (if a = N then (q, n) else if 0 < a ∧ a < N then TT a else _) = if 0 < a ∧ a < N + 1 then TT a else _
    by_cases c : a = N
    · rw [if_pos c, if_pos (by omega), c, hT]
    · rw [if_neg c]
      by_cases c2 : 0 < a ∧ a < N
      · rw [if_pos c2, if_pos (by omega)]
      · rw [if_neg c2, if_neg (by omega)]
  · show (if a = N then 0 else if 0 < a ∧ a < N then I a k else _) = if 0 < a ∧ a < N + 1 then I a k else _
    by_cases c : a = N
    · rw [if_pos c, if_pos (by omega), c, (fr N (Nat.le_refl _) k).1]
    · rw [if_neg c]
      by_cases c2 : 0 < a ∧ a < N
      · rw [if_pos c2, if_pos (by omega)]
      · rw [if_neg c2, if_neg (by omega)]
  · show (if a = N then 0 else if 0 < a ∧ a < N then (0 : Int64) else _) = if 0 < a ∧ a < N + 1 then 0 else _
    by_cases c : a = N
    · rw [if_pos c, if_pos (by omega)]
    · rw [if_neg c]
      by_cases c2 : 0 < a ∧ a < N
      · rw [if_pos c2, if_pos (by omega)]
      · rw [if_neg c2, if_neg (by omega)]
  · show (if a = N then none else if 0 < a ∧ a < N then R a k else _) = if 0 < a ∧ a < N + 1 then R a k else _
    by_cases c : a = N
    · rw [if_pos c, if_pos (by omega), c, (fr N (Nat.le_refl _) k).2]
    · rw [if_neg c]
      by_cases c2 : 0 < a ∧ a < N
      · rw [if_pos c2, if_pos (by omega)]
      · rw [if_neg c2, if_neg (by omega)]
theorem Fr.up {I : Nat → Nat → Int32} {R : Nat → Nat → Option Nat} {N M : Nat} (f : Fr I R N) (h : N ≤ M) : Fr I R M := fun x hx => f x (by omega)
theorem Fr.r {I : Nat → Nat → Int32} {R : Nat → Nat → Option Nat} {N a k : Nat} {v : Option Nat} (f : Fr I R N) (h : a < N) : Fr I (r2 R a k v) N := fun x hx j => by
  rw [r2_ap, if_neg (by omega)]; exact f x hx j
theorem Fr.i {I : Nat → Nat → Int32} {R : Nat → Nat → Option Nat} {N a k : Nat} {v : Int32} (f : Fr I R N) (h : a < N) : Fr (u2 I a k v) R N := fun x hx j => by
  rw [u2_ap, if_neg (by omega)]; exact f x hx j
theorem r2_off {R : Nat → Nat → Option Nat} {a k x j : Nat} {v : Option Nat} (h : x ≠ a) : r2 R a k v x j = R x j := by rw [r2_ap, if_neg (fun z => h z.1)]
theorem u2_off {I : Nat → Nat → Int32} {a k x j : Nat} {v : Int32} (h : x ≠ a) : u2 I a k v x j = I x j := by rw [u2_ap, if_neg (fun z => h z.1)]
def st5 (I : Nat → Nat → Int32) (a : Nat) : Nat → Nat → Int32 := u2 (u2 (u2 (u2 (u2 I a 0 1) a 1 1) a 2 1) a 3 1) a 4 1
def pn4 (I : Nat → Nat → Int32) (a : Nat) : Nat → Nat → Int32 := u2 (u2 (u2 I a 0 1) a 1 1) a 3 1
theorem st5_off {I : Nat → Nat → Int32} {a x j : Nat} (h : x ≠ a) : st5 I a x j = I x j := by
  unfold st5
  rw [u2_off h, u2_off h, u2_off h, u2_off h, u2_off h]
theorem pn4_off {I : Nat → Nat → Int32} {a x j : Nat} (h : x ≠ a) : pn4 I a x j = I x j := by
  unfold pn4
  rw [u2_off h, u2_off h, u2_off h]
def stI (n : Nat) (I : Nat → Nat → Int32) : Nat → Nat → Nat → Int32
  | 0 => I
  | i + 1 => st5 (stI n I i) (n + i)
def pnI (n : Nat) (I : Nat → Nat → Int32) : Nat → Nat → Nat → Int32
  | 0 => I
  | i + 1 => pn4 (pnI n I i) (n + i)
def arR (arr n : Nat) (R : Nat → Nat → Option Nat) : Nat → Nat → Nat → Option Nat
  | 0 => R
  | i + 1 => r2 (arR arr n R i) arr i (some (n + i))
theorem stI_off {n x j : Nat} {I : Nat → Nat → Int32} : ∀ (i : Nat), (x < n ∨ n + i ≤ x) → stI n I i x j = I x j
  | 0, _ => rfl
  | i + 1, h => by
    show st5 (stI n I i) (n + i) x j = _
    rw [st5_off (by omega), stI_off i (by omega)]
theorem pnI_off {n x j : Nat} {I : Nat → Nat → Int32} : ∀ (i : Nat), (x < n ∨ n + i ≤ x) → pnI n I i x j = I x j
  | 0, _ => rfl
  | i + 1, h => by
    show pn4 (pnI n I i) (n + i) x j = _
    rw [pn4_off (by omega), pnI_off i (by omega)]
theorem arR_off {arr n x j : Nat} {R : Nat → Nat → Option Nat} (h : x ≠ arr) : ∀ (i : Nat), arR arr n R i x j = R x j
  | 0 => rfl
  | i + 1 => by
    show r2 (arR arr n R i) arr i (some (n + i)) x j = _
    rw [r2_off h, arR_off h i]
theorem n0 {d : Nat} {b : mM} {N Z a : Nat} {I : Nat → Nat → Int32} {R : Nat → Nat → Option Nat} (h0 : 0 < a) (h1 : a < N) (hT : TT a = (0, 3)) (hz : ∀ k, I a k = 0) : ev d 0 0 [some (.ref a)] [] (yM b N Z I R) = some (none, yM b N Z I R) := by
  have k : mK (yM b N Z I R) a = 0 := by rw [y_mK h0 h1 (by rw [hT]; decide), hT]
  have w : ∀ j, wI (yM b N Z I R) a j 0 = yM b N Z I R := fun j => y_wI0 h0 h1 (hz j)
  simp only [e_0_0, e_0_1, e_0_4, e_0_5, e_0_6, e_0_9, e_0_10, e_0_11, e_0_14, e_0_15, e_0_16, e_0_19, cV_some, tl_some, tl_none, mZO_0, mZO_1, mL1_n, mL1_i, mL1_r, oB_some, List.cons_append, List.nil_append, mK_wI, mL_wI, mN_wI, mR_wI, mJ_wI, mK_wJ, mL_wJ, mI_wJ, mR_wJ, mK_wR, mL_wR, mI_wR, mJ_wR, bI_0, bI_n0, if_true, if_false, Nat.reduceLeDiff, Nat.reduceAdd, ite_not, reduceIte, not_false_eq_true, not_true_eq_false, true_and, and_true, and_self, or_false, false_or, or_true, true_or, Nat.reduceEqDiff, Nat.reduceLT, Nat.zero_le, Nat.add_zero, eq_self, false_and, and_false, mc_, mc_i, mc_r, mc_l, mc_ii, mc_ir, mc_il, mc_ri, mc_rr, mc_rl, mc_li, mc_lr, mc_ll, mc_iii, mc_iir, mc_iil, mc_iri, mc_irr, mc_irl, mc_ili, mc_ilr, mc_ill, mc_rii, mc_rir, mc_ril, mc_rri, mc_rrr, mc_rrl, mc_rli, mc_rlr, mc_rll, mc_lii, mc_lir, mc_lil, mc_lri, mc_lrr, mc_lrl, mc_lli, mc_llr, mc_lll, mc_iiii, mc_iiir, mc_iiri, mc_iirr, mc_irii, mc_irir, mc_irri, mc_irrr, mc_riii, mc_riir, mc_riri, mc_rirr, mc_rrii, mc_rrir, mc_rrri, mc_rrrr, mc_iiiii, mc_iiiir, mc_iiiri, mc_iiirr, mc_iirii, mc_iirir, mc_iirri, mc_iirrr, mc_iriii, mc_iriir, mc_iriri, mc_irirr, mc_irrii, mc_irrir, mc_irrri, mc_irrrr, mc_riiii, mc_riiir, mc_riiri, mc_riirr, mc_ririi, mc_ririr, mc_rirri, mc_rirrr, mc_rriii, mc_rriir, mc_rriri, mc_rrirr, mc_rrrii, mc_rrrir, mc_rrrri, mc_rrrrr, k, w]
theorem n20 {d : Nat} {b : mM} {N Z a : Nat} {I : Nat → Nat → Int32} {R : Nat → Nat → Option Nat} (h0 : 0 < a) (h1 : a < N) (hT : TT a = (4, 4)) (hz : ∀ k, I a k = 0) : ev d 20 0 [some (.ref a)] [] (yM b N Z I R) = some (none, yM b N Z I R) := by
  have k : mK (yM b N Z I R) a = 4 := by rw [y_mK h0 h1 (by rw [hT]; decide), hT]
  have w : ∀ j, wI (yM b N Z I R) a j 0 = yM b N Z I R := fun j => y_wI0 h0 h1 (hz j)
  simp only [e_20_0, e_20_1, e_20_4, e_20_5, e_20_6, e_20_9, e_20_10, e_20_11, e_20_14, e_20_15, e_20_16, e_20_19, e_20_20, e_20_21, e_20_24, cV_some, tl_some, tl_none, mZO_0, mZO_1, mL1_n, mL1_i, mL1_r, oB_some, List.cons_append, List.nil_append, mK_wI, mL_wI, mN_wI, mR_wI, mJ_wI, mK_wJ, mL_wJ, mI_wJ, mR_wJ, mK_wR, mL_wR, mI_wR, mJ_wR, bI_0, bI_n0, if_true, if_false, Nat.reduceLeDiff, Nat.reduceAdd, ite_not, reduceIte, not_false_eq_true, not_true_eq_false, true_and, and_true, and_self, or_false, false_or, or_true, true_or, Nat.reduceEqDiff, Nat.reduceLT, Nat.zero_le, Nat.add_zero, eq_self, false_and, and_false, mc_, mc_i, mc_r, mc_l, mc_ii, mc_ir, mc_il, mc_ri, mc_rr, mc_rl, mc_li, mc_lr, mc_ll, mc_iii, mc_iir, mc_iil, mc_iri, mc_irr, mc_irl, mc_ili, mc_ilr, mc_ill, mc_rii, mc_rir, mc_ril, mc_rri, mc_rrr, mc_rrl, mc_rli, mc_rlr, mc_rll, mc_lii, mc_lir, mc_lil, mc_lri, mc_lrr, mc_lrl, mc_lli, mc_llr, mc_lll, mc_iiii, mc_iiir, mc_iiri, mc_iirr, mc_irii, mc_irir, mc_irri, mc_irrr, mc_riii, mc_riir, mc_riri, mc_rirr, mc_rrii, mc_rrir, mc_rrri, mc_rrrr, mc_iiiii, mc_iiiir, mc_iiiri, mc_iiirr, mc_iirii, mc_iirir, mc_iirri, mc_iirrr, mc_iriii, mc_iriir, mc_iriri, mc_irirr, mc_irrii, mc_irrir, mc_irrri, mc_irrrr, mc_riiii, mc_riiir, mc_riiri, mc_riirr, mc_ririi, mc_ririr, mc_rirri, mc_rirrr, mc_rriii, mc_rriir, mc_rriri, mc_rrirr, mc_rrrii, mc_rrrir, mc_rrrri, mc_rrrrr, k, w]
theorem n27 {d : Nat} {b : mM} {N Z a : Nat} {I : Nat → Nat → Int32} {R : Nat → Nat → Option Nat} (h0 : 0 < a) (h1 : a < N) (hT : TT a = (6, 5)) : ev d 27 0 [some (.ref a)] [] (yM b N Z I R) = some (none, yM b N Z (st5 I a) R) := by
  have k : ∀ I, mK (yM b N Z I R) a = 6 := fun I => by rw [y_mK h0 h1 (by rw [hT]; decide), hT]
  have w : ∀ I j v, wI (yM b N Z I R) a j v = yM b N Z (u2 I a j v) R := fun I j v => y_wI h0 h1
  simp only [e_27_0, e_27_1, e_27_4, e_27_5, e_27_6, e_27_9, e_27_10, e_27_11, e_27_14, e_27_15, e_27_16, e_27_19, e_27_20, e_27_21, e_27_24, e_27_25, e_27_26, e_27_29, cV_some, tl_some, tl_none, mZO_0, mZO_1, mL1_n, mL1_i, mL1_r, oB_some, List.cons_append, List.nil_append, mK_wI, mL_wI, mN_wI, mR_wI, mJ_wI, mK_wJ, mL_wJ, mI_wJ, mR_wJ, mK_wR, mL_wR, mI_wR, mJ_wR, bI_0, bI_n0, if_true, if_false, Nat.reduceLeDiff, Nat.reduceAdd, ite_not, reduceIte, not_false_eq_true, not_true_eq_false, true_and, and_true, and_self, or_false, false_or, or_true, true_or, Nat.reduceEqDiff, Nat.reduceLT, Nat.zero_le, Nat.add_zero, eq_self, false_and, and_false, mc_, mc_i, mc_r, mc_l, mc_ii, mc_ir, mc_il, mc_ri, mc_rr, mc_rl, mc_li, mc_lr, mc_ll, mc_iii, mc_iir, mc_iil, mc_iri, mc_irr, mc_irl, mc_ili, mc_ilr, mc_ill, mc_rii, mc_rir, mc_ril, mc_rri, mc_rrr, mc_rrl, mc_rli, mc_rlr, mc_rll, mc_lii, mc_lir, mc_lil, mc_lri, mc_lrr, mc_lrl, mc_lli, mc_llr, mc_lll, mc_iiii, mc_iiir, mc_iiri, mc_iirr, mc_irii, mc_irir, mc_irri, mc_irrr, mc_riii, mc_riir, mc_riri, mc_rirr, mc_rrii, mc_rrir, mc_rrri, mc_rrrr, mc_iiiii, mc_iiiir, mc_iiiri, mc_iiirr, mc_iirii, mc_iirir, mc_iirri, mc_iirrr, mc_iriii, mc_iriir, mc_iriri, mc_irirr, mc_irrii, mc_irrir, mc_irrri, mc_irrrr, mc_riiii, mc_riiir, mc_riiri, mc_riirr, mc_ririi, mc_ririr, mc_rirri, mc_rirrr, mc_rriii, mc_rriir, mc_rriri, mc_rrirr, mc_rrrii, mc_rrrir, mc_rrrri, mc_rrrrr, k, w, st5]
theorem n15 {d : Nat} {b : mM} {N Z a : Nat} {I : Nat → Nat → Int32} {R : Nat → Nat → Option Nat} (h0 : 0 < a) (h1 : a < N) (hT : TT a = (3, 4)) (hz : ∀ k, I a k = 0) : ev d 15 0 [some (.ref a)] [] (yM b N Z I R) = some (none, yM b N Z (pn4 I a) R) := by
  have k : ∀ I, mK (yM b N Z I R) a = 3 := fun I => by rw [y_mK h0 h1 (by rw [hT]; decide), hT]
  have w : ∀ I j, wI (yM b N Z I R) a j 1 = yM b N Z (u2 I a j 1) R := fun I j => y_wI h0 h1
  have w0 : wI (yM b N Z (u2 (u2 I a 0 1) a 1 1) R) a 2 0 = yM b N Z (u2 (u2 I a 0 1) a 1 1) R := y_wI0 h0 h1 (by rw [u2_ap, if_neg (by omega), u2_ap, if_neg (by omega)]; exact hz 2)
  simp only [e_15_0, e_15_1, e_15_4, e_15_5, e_15_6, e_15_9, e_15_10, e_15_11, e_15_14, e_15_15, e_15_16, e_15_19, e_15_20, e_15_21, e_15_24, cV_some, tl_some, tl_none, mZO_0, mZO_1, mL1_n, mL1_i, mL1_r, oB_some, List.cons_append, List.nil_append, mK_wI, mL_wI, mN_wI, mR_wI, mJ_wI, mK_wJ, mL_wJ, mI_wJ, mR_wJ, mK_wR, mL_wR, mI_wR, mJ_wR, bI_0, bI_n0, if_true, if_false, Nat.reduceLeDiff, Nat.reduceAdd, ite_not, reduceIte, not_false_eq_true, not_true_eq_false, true_and, and_true, and_self, or_false, false_or, or_true, true_or, Nat.reduceEqDiff, Nat.reduceLT, Nat.zero_le, Nat.add_zero, eq_self, false_and, and_false, mc_, mc_i, mc_r, mc_l, mc_ii, mc_ir, mc_il, mc_ri, mc_rr, mc_rl, mc_li, mc_lr, mc_ll, mc_iii, mc_iir, mc_iil, mc_iri, mc_irr, mc_irl, mc_ili, mc_ilr, mc_ill, mc_rii, mc_rir, mc_ril, mc_rri, mc_rrr, mc_rrl, mc_rli, mc_rlr, mc_rll, mc_lii, mc_lir, mc_lil, mc_lri, mc_lrr, mc_lrl, mc_lli, mc_llr, mc_lll, mc_iiii, mc_iiir, mc_iiri, mc_iirr, mc_irii, mc_irir, mc_irri, mc_irrr, mc_riii, mc_riir, mc_riri, mc_rirr, mc_rrii, mc_rrir, mc_rrri, mc_rrrr, mc_iiiii, mc_iiiir, mc_iiiri, mc_iiirr, mc_iirii, mc_iirir, mc_iirri, mc_iirrr, mc_iriii, mc_iriir, mc_iriri, mc_irirr, mc_irrii, mc_irrir, mc_irrri, mc_irrrr, mc_riiii, mc_riiir, mc_riiri, mc_riirr, mc_ririi, mc_ririr, mc_rirri, mc_rirrr, mc_rriii, mc_rriir, mc_rriri, mc_rrirr, mc_rrrii, mc_rrrir, mc_rrrri, mc_rrrrr, k, w, w0, pn4]
theorem mEl_13 : mEl 13 = 3 := rfl
theorem mEl_14 : mEl 14 = 0 := rfl
theorem mEl_15 : mEl 15 = 2 := rfl
theorem mEl_16 : mEl 16 = 6 := rfl
theorem mEl_17 : mEl 17 = 4 := rfl
theorem l11a {d : Nat} {b : mM} {Z : Nat} {I : Nat → Nat → Int32} {R : Nat → Nat → Option Nat} {a : Nat} (h0 : 0 < a) (hTo : TT a = (2, 15)) (hTa : TT (a + 1) = (16, 3)) (hTn : ∀ i, i < 3 → TT (a + 3 + i) = (6, 5)) (hR : R a 0 = some (a + 1)) (fr : Fr I R (a + 3)) : ∀ (k i : Nat), i + k = 3 → ev (d + 1) 11 88 [some (.ref a), some (.int (nI i))] [] (yM b (a + 3 + i) (Z + 5 * i) (stI (a + 3) I i) (arR (a + 1) (a + 3) R i)) = ev (d + 1) 11 112 [some (.ref a), some (.int (nI 3))] [] (yM b (a + 3 + 3) (Z + 5 * 3) (stI (a + 3) I 3) (arR (a + 1) (a + 3) R 3))
  | 0, i, hk => by
    have e : i = 3 := by omega
    subst e
    have hc : (3 : Int32) ≤ nI 3 := by decide
    rw [e_11_88]
    simp only [e_11_0, e_11_1, e_11_4, e_11_5, e_11_6, e_11_9, e_11_12, e_11_13, e_11_15, e_11_18, e_11_21, e_11_22, e_11_23, e_11_26, e_11_27, e_11_28, e_11_31, e_11_32, e_11_33, e_11_36, e_11_37, e_11_38, e_11_41, e_11_42, e_11_43, e_11_46, e_11_47, e_11_48, e_11_51, e_11_52, e_11_53, e_11_56, e_11_57, e_11_58, e_11_61, e_11_62, e_11_63, e_11_66, e_11_67, e_11_68, e_11_71, e_11_72, e_11_73, e_11_76, e_11_77, e_11_78, e_11_81, e_11_82, e_11_83, e_11_86, e_11_87, e_11_89, e_11_90, e_11_93, e_11_94, e_11_97, e_11_98, e_11_101r, e_11_101i, e_11_102, e_11_105, e_11_106, e_11_109, e_11_112, e_11_113, e_11_114, e_11_115, e_11_117, e_11_120, e_11_121, e_11_124, e_11_125, e_11_128r, e_11_128i, e_11_129, e_11_132, e_11_133, e_11_136, e_11_139, cV_some, tl_some, tl_none, mZO_0, mZO_1, mL1_n, mL1_i, mL1_r, oB_some, List.cons_append, List.nil_append, mK_wI, mL_wI, mN_wI, mR_wI, mJ_wI, mK_wJ, mL_wJ, mI_wJ, mR_wJ, mK_wR, mL_wR, mI_wR, mJ_wR, bI_0, bI_n0, if_true, if_false, Nat.reduceLeDiff, Nat.reduceAdd, ite_not, reduceIte, not_false_eq_true, not_true_eq_false, true_and, and_true, and_self, or_false, false_or, or_true, true_or, Nat.reduceEqDiff, Nat.reduceLT, Nat.zero_le, Nat.add_zero, eq_self, false_and, and_false, mc_, mc_i, mc_r, mc_l, mc_ii, mc_ir, mc_il, mc_ri, mc_rr, mc_rl, mc_li, mc_lr, mc_ll, mc_iii, mc_iir, mc_iil, mc_iri, mc_irr, mc_irl, mc_ili, mc_ilr, mc_ill, mc_rii, mc_rir, mc_ril, mc_rri, mc_rrr, mc_rrl, mc_rli, mc_rlr, mc_rll, mc_lii, mc_lir, mc_lil, mc_lri, mc_lrr, mc_lrl, mc_lli, mc_llr, mc_lll, mc_iiii, mc_iiir, mc_iiri, mc_iirr, mc_irii, mc_irir, mc_irri, mc_irrr, mc_riii, mc_riir, mc_riri, mc_rirr, mc_rrii, mc_rrir, mc_rrri, mc_rrrr, mc_iiiii, mc_iiiir, mc_iiiri, mc_iiirr, mc_iirii, mc_iirir, mc_iirri, mc_iirrr, mc_iriii, mc_iriir, mc_iriri, mc_irirr, mc_irrii, mc_irrir, mc_irrri, mc_irrrr, mc_riiii, mc_riiir, mc_riiri, mc_riirr, mc_ririi, mc_ririr, mc_rirri, mc_rirrr, mc_rriii, mc_rriir, mc_rriri, mc_rrirr, mc_rrrii, mc_rrrir, mc_rrrri, mc_rrrrr, hc]
  | k + 1, i, hk => by
    have hc : ¬ (3 : Int32) ≤ nI i := nI_ge (b := 3) (by omega) (by omega)
    have tn : TT (a + 3 + i) = (6, 5) := hTn i (by omega)
    have fr2 : Fr (stI (a + 3) I i) (arR (a + 1) (a + 3) R i) (a + 3 + i) := fun x hx j => by
      rw [stI_off i (by omega), arR_off (by omega)]
      exact fr x (by omega) j
    have w : wN (yM b (a + 3 + i) (Z + 5 * i) (stI (a + 3) I i) (arR (a + 1) (a + 3) R i)) 6 5 = yM b (a + 3 + i + 1) (Z + 5 * i + 5) (stI (a + 3) I i) (arR (a + 1) (a + 3) R i) := y_wN (by omega) tn fr2
    have c := n27 (d := d) (b := b) (N := a + 3 + i + 1) (Z := Z + 5 * i + 5) (a := a + 3 + i) (I := stI (a + 3) I i) (R := arR (a + 1) (a + 3) R i) (by omega) (by omega) tn
    have kO : ∀ I R, mK (yM b (a + 3 + i + 1) (Z + 5 * i + 5) I R) (a) = 2 := fun I R => by rw [y_mK (by omega) (by omega) (by rw [hTo]; decide), hTo]
    have kO2 : ∀ I R, mK (yM b (a + 3 + i) (Z + 5 * i) I R) (a) = 2 := fun I R => by rw [y_mK (by omega) (by omega) (by rw [hTo]; decide), hTo]
    have kA : ∀ I R, mK (yM b (a + 3 + i + 1) (Z + 5 * i + 5) I R) (a + 1) = 16 := fun I R => by rw [y_mK (by omega) (by omega) (by rw [hTa]; decide), hTa]
    have lA : ∀ I R, mL (yM b (a + 3 + i + 1) (Z + 5 * i + 5) I R) (a + 1) = 3 := fun I R => by rw [y_mL (by omega) (by omega), hTa]
    have kN : ∀ I R, mK (yM b (a + 3 + i + 1) (Z + 5 * i + 5) I R) (a + 3 + i) = 6 := fun I R => by rw [y_mK (by omega) (by omega) (by rw [tn]; decide), tn]
    have rr : mR (yM b (a + 3 + i) (Z + 5 * i) (stI (a + 3) I i) (arR (a + 1) (a + 3) R i)) (a) 0 = some (a + 1) := by rw [y_mR (by omega) (by omega), arR_off (by omega)]; exact hR
    have wr : ∀ I R, wR (yM b (a + 3 + i + 1) (Z + 5 * i + 5) I R) (a + 1) i (some (a + 3 + i)) = yM b (a + 3 + i + 1) (Z + 5 * i + 5) I (r2 R (a + 1) i (some (a + 3 + i))) := fun I R => y_wR (by omega) (by omega)
    have ih := l11a (d := d) (b := b) (Z := Z) h0 hTo hTa hTn hR fr k (i + 1) (by omega)
    rw [show Z + 5 * (i + 1) = Z + 5 * i + 5 by omega] at ih
    refine Eq.trans ?_ ih
    rw [e_11_88]
    simp only [e_11_0, e_11_1, e_11_4, e_11_5, e_11_6, e_11_9, e_11_12, e_11_13, e_11_15, e_11_18, e_11_21, e_11_22, e_11_23, e_11_26, e_11_27, e_11_28, e_11_31, e_11_32, e_11_33, e_11_36, e_11_37, e_11_38, e_11_41, e_11_42, e_11_43, e_11_46, e_11_47, e_11_48, e_11_51, e_11_52, e_11_53, e_11_56, e_11_57, e_11_58, e_11_61, e_11_62, e_11_63, e_11_66, e_11_67, e_11_68, e_11_71, e_11_72, e_11_73, e_11_76, e_11_77, e_11_78, e_11_81, e_11_82, e_11_83, e_11_86, e_11_87, e_11_89, e_11_90, e_11_93, e_11_94, e_11_97, e_11_98, e_11_101r, e_11_101i, e_11_102, e_11_105, e_11_106, e_11_109, e_11_112, e_11_113, e_11_114, e_11_115, e_11_117, e_11_120, e_11_121, e_11_124, e_11_125, e_11_128r, e_11_128i, e_11_129, e_11_132, e_11_133, e_11_136, e_11_139, cV_some, tl_some, tl_none, mZO_0, mZO_1, mL1_n, mL1_i, mL1_r, oB_some, List.cons_append, List.nil_append, mK_wI, mL_wI, mN_wI, mR_wI, mJ_wI, mK_wJ, mL_wJ, mI_wJ, mR_wJ, mK_wR, mL_wR, mI_wR, mJ_wR, bI_0, bI_n0, if_true, if_false, Nat.reduceLeDiff, Nat.reduceAdd, ite_not, reduceIte, not_false_eq_true, not_true_eq_false, true_and, and_true, and_self, or_false, false_or, or_true, true_or, Nat.reduceEqDiff, Nat.reduceLT, Nat.zero_le, Nat.add_zero, eq_self, false_and, and_false, mc_, mc_i, mc_r, mc_l, mc_ii, mc_ir, mc_il, mc_ri, mc_rr, mc_rl, mc_li, mc_lr, mc_ll, mc_iii, mc_iir, mc_iil, mc_iri, mc_irr, mc_irl, mc_ili, mc_ilr, mc_ill, mc_rii, mc_rir, mc_ril, mc_rri, mc_rrr, mc_rrl, mc_rli, mc_rlr, mc_rll, mc_lii, mc_lir, mc_lil, mc_lri, mc_lrr, mc_lrl, mc_lli, mc_llr, mc_lll, mc_iiii, mc_iiir, mc_iiri, mc_iirr, mc_irii, mc_irir, mc_irri, mc_irrr, mc_riii, mc_riir, mc_riri, mc_rirr, mc_rrii, mc_rrir, mc_rrri, mc_rrrr, mc_iiiii, mc_iiiir, mc_iiiri, mc_iiirr, mc_iirii, mc_iirir, mc_iirri, mc_iirrr, mc_iriii, mc_iriir, mc_iriri, mc_irirr, mc_irrii, mc_irrir, mc_irrri, mc_irrrr, mc_riiii, mc_riiir, mc_riiri, mc_riirr, mc_ririi, mc_ririr, mc_rirri, mc_rirrr, mc_rriii, mc_rriir, mc_rriri, mc_rrirr, mc_rrrii, mc_rrrir, mc_rrrri, mc_rrrrr, hc, kO, kO2, kA, lA, kN, rr, y_mN, w, c, wr, mEl_16, ixN (show i < 3 by omega) (by omega), cl (show i < 2 ^ 31 by omega), nI_1]
    rfl
theorem l11b {d : Nat} {b : mM} {Z : Nat} {I : Nat → Nat → Int32} {R : Nat → Nat → Option Nat} {a : Nat} (h0 : 0 < a) (hTo : TT a = (2, 15)) (hTa : TT (a + 2) = (17, 12)) (hTn : ∀ i, i < 12 → TT (a + 6 + i) = (4, 4)) (hR : R a 1 = some (a + 2)) (fr : Fr I R (a + 6)) : ∀ (k i : Nat), i + k = 12 → ev (d + 1) 11 114 [some (.ref a), some (.int (nI i))] [] (yM b (a + 6 + i) (Z + 4 * i) (I) (arR (a + 2) (a + 6) R i)) = ev (d + 1) 11 139 [some (.ref a), some (.int (nI 12))] [] (yM b (a + 6 + 12) (Z + 4 * 12) (I) (arR (a + 2) (a + 6) R 12))
  | 0, i, hk => by
    have e : i = 12 := by omega
    subst e
    have hc : (12 : Int32) ≤ nI 12 := by decide
    rw [e_11_114]
    simp only [e_11_0, e_11_1, e_11_4, e_11_5, e_11_6, e_11_9, e_11_12, e_11_13, e_11_15, e_11_18, e_11_21, e_11_22, e_11_23, e_11_26, e_11_27, e_11_28, e_11_31, e_11_32, e_11_33, e_11_36, e_11_37, e_11_38, e_11_41, e_11_42, e_11_43, e_11_46, e_11_47, e_11_48, e_11_51, e_11_52, e_11_53, e_11_56, e_11_57, e_11_58, e_11_61, e_11_62, e_11_63, e_11_66, e_11_67, e_11_68, e_11_71, e_11_72, e_11_73, e_11_76, e_11_77, e_11_78, e_11_81, e_11_82, e_11_83, e_11_86, e_11_87, e_11_88, e_11_89, e_11_90, e_11_93, e_11_94, e_11_97, e_11_98, e_11_101r, e_11_101i, e_11_102, e_11_105, e_11_106, e_11_109, e_11_112, e_11_113, e_11_115, e_11_117, e_11_120, e_11_121, e_11_124, e_11_125, e_11_128r, e_11_128i, e_11_129, e_11_132, e_11_133, e_11_136, e_11_139, cV_some, tl_some, tl_none, mZO_0, mZO_1, mL1_n, mL1_i, mL1_r, oB_some, List.cons_append, List.nil_append, mK_wI, mL_wI, mN_wI, mR_wI, mJ_wI, mK_wJ, mL_wJ, mI_wJ, mR_wJ, mK_wR, mL_wR, mI_wR, mJ_wR, bI_0, bI_n0, if_true, if_false, Nat.reduceLeDiff, Nat.reduceAdd, ite_not, reduceIte, not_false_eq_true, not_true_eq_false, true_and, and_true, and_self, or_false, false_or, or_true, true_or, Nat.reduceEqDiff, Nat.reduceLT, Nat.zero_le, Nat.add_zero, eq_self, false_and, and_false, mc_, mc_i, mc_r, mc_l, mc_ii, mc_ir, mc_il, mc_ri, mc_rr, mc_rl, mc_li, mc_lr, mc_ll, mc_iii, mc_iir, mc_iil, mc_iri, mc_irr, mc_irl, mc_ili, mc_ilr, mc_ill, mc_rii, mc_rir, mc_ril, mc_rri, mc_rrr, mc_rrl, mc_rli, mc_rlr, mc_rll, mc_lii, mc_lir, mc_lil, mc_lri, mc_lrr, mc_lrl, mc_lli, mc_llr, mc_lll, mc_iiii, mc_iiir, mc_iiri, mc_iirr, mc_irii, mc_irir, mc_irri, mc_irrr, mc_riii, mc_riir, mc_riri, mc_rirr, mc_rrii, mc_rrir, mc_rrri, mc_rrrr, mc_iiiii, mc_iiiir, mc_iiiri, mc_iiirr, mc_iirii, mc_iirir, mc_iirri, mc_iirrr, mc_iriii, mc_iriir, mc_iriri, mc_irirr, mc_irrii, mc_irrir, mc_irrri, mc_irrrr, mc_riiii, mc_riiir, mc_riiri, mc_riirr, mc_ririi, mc_ririr, mc_rirri, mc_rirrr, mc_rriii, mc_rriir, mc_rriri, mc_rrirr, mc_rrrii, mc_rrrir, mc_rrrri, mc_rrrrr, hc]
  | k + 1, i, hk => by
    have hc : ¬ (12 : Int32) ≤ nI i := nI_ge (b := 12) (by omega) (by omega)
    have tn : TT (a + 6 + i) = (4, 4) := hTn i (by omega)
    have fr2 : Fr (I) (arR (a + 2) (a + 6) R i) (a + 6 + i) := fun x hx j => by
      rw [arR_off (by omega)]
      exact fr x (by omega) j
    have w : wN (yM b (a + 6 + i) (Z + 4 * i) (I) (arR (a + 2) (a + 6) R i)) 4 4 = yM b (a + 6 + i + 1) (Z + 4 * i + 4) (I) (arR (a + 2) (a + 6) R i) := y_wN (by omega) tn fr2
    have c := n20 (d := d) (b := b) (N := a + 6 + i + 1) (Z := Z + 4 * i + 4) (a := a + 6 + i) (I := I) (R := arR (a + 2) (a + 6) R i) (by omega) (by omega) tn (fun k => (fr _ (by omega) k).1)
    have kO : ∀ I R, mK (yM b (a + 6 + i + 1) (Z + 4 * i + 4) I R) (a) = 2 := fun I R => by rw [y_mK (by omega) (by omega) (by rw [hTo]; decide), hTo]
    have kO2 : ∀ I R, mK (yM b (a + 6 + i) (Z + 4 * i) I R) (a) = 2 := fun I R => by rw [y_mK (by omega) (by omega) (by rw [hTo]; decide), hTo]
    have kA : ∀ I R, mK (yM b (a + 6 + i + 1) (Z + 4 * i + 4) I R) (a + 2) = 17 := fun I R => by rw [y_mK (by omega) (by omega) (by rw [hTa]; decide), hTa]
    have lA : ∀ I R, mL (yM b (a + 6 + i + 1) (Z + 4 * i + 4) I R) (a + 2) = 12 := fun I R => by rw [y_mL (by omega) (by omega), hTa]
    have kN : ∀ I R, mK (yM b (a + 6 + i + 1) (Z + 4 * i + 4) I R) (a + 6 + i) = 4 := fun I R => by rw [y_mK (by omega) (by omega) (by rw [tn]; decide), tn]
    have rr : mR (yM b (a + 6 + i) (Z + 4 * i) (I) (arR (a + 2) (a + 6) R i)) (a) 1 = some (a + 2) := by rw [y_mR (by omega) (by omega), arR_off (by omega)]; exact hR
    have wr : ∀ I R, wR (yM b (a + 6 + i + 1) (Z + 4 * i + 4) I R) (a + 2) i (some (a + 6 + i)) = yM b (a + 6 + i + 1) (Z + 4 * i + 4) I (r2 R (a + 2) i (some (a + 6 + i))) := fun I R => y_wR (by omega) (by omega)
    have ih := l11b (d := d) (b := b) (Z := Z) h0 hTo hTa hTn hR fr k (i + 1) (by omega)
    rw [show Z + 4 * (i + 1) = Z + 4 * i + 4 by omega] at ih
    refine Eq.trans ?_ ih
    rw [e_11_114]
    simp only [e_11_0, e_11_1, e_11_4, e_11_5, e_11_6, e_11_9, e_11_12, e_11_13, e_11_15, e_11_18, e_11_21, e_11_22, e_11_23, e_11_26, e_11_27, e_11_28, e_11_31, e_11_32, e_11_33, e_11_36, e_11_37, e_11_38, e_11_41, e_11_42, e_11_43, e_11_46, e_11_47, e_11_48, e_11_51, e_11_52, e_11_53, e_11_56, e_11_57, e_11_58, e_11_61, e_11_62, e_11_63, e_11_66, e_11_67, e_11_68, e_11_71, e_11_72, e_11_73, e_11_76, e_11_77, e_11_78, e_11_81, e_11_82, e_11_83, e_11_86, e_11_87, e_11_88, e_11_89, e_11_90, e_11_93, e_11_94, e_11_97, e_11_98, e_11_101r, e_11_101i, e_11_102, e_11_105, e_11_106, e_11_109, e_11_112, e_11_113, e_11_115, e_11_117, e_11_120, e_11_121, e_11_124, e_11_125, e_11_128r, e_11_128i, e_11_129, e_11_132, e_11_133, e_11_136, e_11_139, cV_some, tl_some, tl_none, mZO_0, mZO_1, mL1_n, mL1_i, mL1_r, oB_some, List.cons_append, List.nil_append, mK_wI, mL_wI, mN_wI, mR_wI, mJ_wI, mK_wJ, mL_wJ, mI_wJ, mR_wJ, mK_wR, mL_wR, mI_wR, mJ_wR, bI_0, bI_n0, if_true, if_false, Nat.reduceLeDiff, Nat.reduceAdd, ite_not, reduceIte, not_false_eq_true, not_true_eq_false, true_and, and_true, and_self, or_false, false_or, or_true, true_or, Nat.reduceEqDiff, Nat.reduceLT, Nat.zero_le, Nat.add_zero, eq_self, false_and, and_false, mc_, mc_i, mc_r, mc_l, mc_ii, mc_ir, mc_il, mc_ri, mc_rr, mc_rl, mc_li, mc_lr, mc_ll, mc_iii, mc_iir, mc_iil, mc_iri, mc_irr, mc_irl, mc_ili, mc_ilr, mc_ill, mc_rii, mc_rir, mc_ril, mc_rri, mc_rrr, mc_rrl, mc_rli, mc_rlr, mc_rll, mc_lii, mc_lir, mc_lil, mc_lri, mc_lrr, mc_lrl, mc_lli, mc_llr, mc_lll, mc_iiii, mc_iiir, mc_iiri, mc_iirr, mc_irii, mc_irir, mc_irri, mc_irrr, mc_riii, mc_riir, mc_riri, mc_rirr, mc_rrii, mc_rrir, mc_rrri, mc_rrrr, mc_iiiii, mc_iiiir, mc_iiiri, mc_iiirr, mc_iirii, mc_iirir, mc_iirri, mc_iirrr, mc_iriii, mc_iriir, mc_iriri, mc_irirr, mc_irrii, mc_irrir, mc_irrri, mc_irrrr, mc_riiii, mc_riiir, mc_riiri, mc_riirr, mc_ririi, mc_ririr, mc_rirri, mc_rirrr, mc_rriii, mc_rriir, mc_rriri, mc_rrirr, mc_rrrii, mc_rrrir, mc_rrrri, mc_rrrrr, hc, kO, kO2, kA, lA, kN, rr, y_mN, w, c, wr, mEl_17, ixN (show i < 12 by omega) (by omega), cl (show i < 2 ^ 31 by omega), nI_1]
    rfl
theorem l32a {d : Nat} {b : mM} {Z : Nat} {I : Nat → Nat → Int32} {R : Nat → Nat → Option Nat} (hTo : TT 4 = (8, 7)) (hTa : TT 5 = (13, 4)) (hTn : ∀ i, i < 4 → TT (9 + i) = (3, 4)) (hR : R 4 0 = some 5) (fr : Fr I R 9) : ∀ (k i : Nat), i + k = 4 → ev (d + 1) 32 52 [some (.ref 4), some (.int (nI i))] [] (yM b (9 + i) (Z + 4 * i) (pnI 9 I i) (arR (5) (9) R i)) = ev (d + 1) 32 76 [some (.ref 4), some (.int (nI 4))] [] (yM b (9 + 4) (Z + 4 * 4) (pnI 9 I 4) (arR (5) (9) R 4))
  | 0, i, hk => by
    have e : i = 4 := by omega
    subst e
    have hc : (4 : Int32) ≤ nI 4 := by decide
    rw [e_32_52]
    simp only [e_32_0, e_32_1, e_32_4, e_32_5, e_32_6, e_32_9, e_32_12, e_32_13, e_32_14, e_32_17, e_32_20, e_32_21, e_32_22, e_32_25, e_32_28, e_32_29, e_32_30, e_32_32, e_32_35, e_32_36, e_32_37, e_32_40, e_32_41, e_32_42, e_32_45, e_32_46, e_32_47, e_32_50, e_32_51, e_32_53, e_32_54, e_32_57, e_32_58, e_32_61, e_32_62, e_32_65r, e_32_65i, e_32_66, e_32_69, e_32_70, e_32_73, e_32_76, e_32_77, e_32_78, e_32_79, e_32_80, e_32_83, e_32_84, e_32_87, e_32_88, e_32_91r, e_32_91i, e_32_92, e_32_95, e_32_96, e_32_99, e_32_102, e_32_103, e_32_104, e_32_105, e_32_106, e_32_109, e_32_110, e_32_113, e_32_114, e_32_117r, e_32_117i, e_32_118, e_32_121, e_32_122, e_32_125, e_32_128, cV_some, tl_some, tl_none, mZO_0, mZO_1, mL1_n, mL1_i, mL1_r, oB_some, List.cons_append, List.nil_append, mK_wI, mL_wI, mN_wI, mR_wI, mJ_wI, mK_wJ, mL_wJ, mI_wJ, mR_wJ, mK_wR, mL_wR, mI_wR, mJ_wR, bI_0, bI_n0, if_true, if_false, Nat.reduceLeDiff, Nat.reduceAdd, ite_not, reduceIte, not_false_eq_true, not_true_eq_false, true_and, and_true, and_self, or_false, false_or, or_true, true_or, Nat.reduceEqDiff, Nat.reduceLT, Nat.zero_le, Nat.add_zero, eq_self, false_and, and_false, mc_, mc_i, mc_r, mc_l, mc_ii, mc_ir, mc_il, mc_ri, mc_rr, mc_rl, mc_li, mc_lr, mc_ll, mc_iii, mc_iir, mc_iil, mc_iri, mc_irr, mc_irl, mc_ili, mc_ilr, mc_ill, mc_rii, mc_rir, mc_ril, mc_rri, mc_rrr, mc_rrl, mc_rli, mc_rlr, mc_rll, mc_lii, mc_lir, mc_lil, mc_lri, mc_lrr, mc_lrl, mc_lli, mc_llr, mc_lll, mc_iiii, mc_iiir, mc_iiri, mc_iirr, mc_irii, mc_irir, mc_irri, mc_irrr, mc_riii, mc_riir, mc_riri, mc_rirr, mc_rrii, mc_rrir, mc_rrri, mc_rrrr, mc_iiiii, mc_iiiir, mc_iiiri, mc_iiirr, mc_iirii, mc_iirir, mc_iirri, mc_iirrr, mc_iriii, mc_iriir, mc_iriri, mc_irirr, mc_irrii, mc_irrir, mc_irrri, mc_irrrr, mc_riiii, mc_riiir, mc_riiri, mc_riirr, mc_ririi, mc_ririr, mc_rirri, mc_rirrr, mc_rriii, mc_rriir, mc_rriri, mc_rrirr, mc_rrrii, mc_rrrir, mc_rrrri, mc_rrrrr, hc]
  | k + 1, i, hk => by
    have hc : ¬ (4 : Int32) ≤ nI i := nI_ge (b := 4) (by omega) (by omega)
    have tn : TT (9 + i) = (3, 4) := hTn i (by omega)
    have fr2 : Fr (pnI 9 I i) (arR (5) (9) R i) (9 + i) := fun x hx j => by
      rw [pnI_off i (by omega), arR_off (by omega)]
      exact fr x (by omega) j
    have w : wN (yM b (9 + i) (Z + 4 * i) (pnI 9 I i) (arR (5) (9) R i)) 3 4 = yM b (9 + i + 1) (Z + 4 * i + 4) (pnI 9 I i) (arR (5) (9) R i) := y_wN (by omega) tn fr2
    have c := n15 (d := d) (b := b) (N := 9 + i + 1) (Z := Z + 4 * i + 4) (a := 9 + i) (I := pnI 9 I i) (R := arR (5) (9) R i) (by omega) (by omega) tn (fun k => (fr2 _ (Nat.le_refl _) k).1)
    have kO : ∀ I R, mK (yM b (9 + i + 1) (Z + 4 * i + 4) I R) (4) = 8 := fun I R => by rw [y_mK (by omega) (by omega) (by rw [hTo]; decide), hTo]
    have kO2 : ∀ I R, mK (yM b (9 + i) (Z + 4 * i) I R) (4) = 8 := fun I R => by rw [y_mK (by omega) (by omega) (by rw [hTo]; decide), hTo]
    have kA : ∀ I R, mK (yM b (9 + i + 1) (Z + 4 * i + 4) I R) (5) = 13 := fun I R => by rw [y_mK (by omega) (by omega) (by rw [hTa]; decide), hTa]
    have lA : ∀ I R, mL (yM b (9 + i + 1) (Z + 4 * i + 4) I R) (5) = 4 := fun I R => by rw [y_mL (by omega) (by omega), hTa]
    have kN : ∀ I R, mK (yM b (9 + i + 1) (Z + 4 * i + 4) I R) (9 + i) = 3 := fun I R => by rw [y_mK (by omega) (by omega) (by rw [tn]; decide), tn]
    have rr : mR (yM b (9 + i) (Z + 4 * i) (pnI 9 I i) (arR (5) (9) R i)) (4) 0 = some (5) := by rw [y_mR (by omega) (by omega), arR_off (by omega)]; exact hR
    have wr : ∀ I R, wR (yM b (9 + i + 1) (Z + 4 * i + 4) I R) (5) i (some (9 + i)) = yM b (9 + i + 1) (Z + 4 * i + 4) I (r2 R (5) i (some (9 + i))) := fun I R => y_wR (by omega) (by omega)
    have ih := l32a (d := d) (b := b) (Z := Z) hTo hTa hTn hR fr k (i + 1) (by omega)
    rw [show Z + 4 * (i + 1) = Z + 4 * i + 4 by omega] at ih
    refine Eq.trans ?_ ih
    rw [e_32_52]
    simp only [e_32_0, e_32_1, e_32_4, e_32_5, e_32_6, e_32_9, e_32_12, e_32_13, e_32_14, e_32_17, e_32_20, e_32_21, e_32_22, e_32_25, e_32_28, e_32_29, e_32_30, e_32_32, e_32_35, e_32_36, e_32_37, e_32_40, e_32_41, e_32_42, e_32_45, e_32_46, e_32_47, e_32_50, e_32_51, e_32_53, e_32_54, e_32_57, e_32_58, e_32_61, e_32_62, e_32_65r, e_32_65i, e_32_66, e_32_69, e_32_70, e_32_73, e_32_76, e_32_77, e_32_78, e_32_79, e_32_80, e_32_83, e_32_84, e_32_87, e_32_88, e_32_91r, e_32_91i, e_32_92, e_32_95, e_32_96, e_32_99, e_32_102, e_32_103, e_32_104, e_32_105, e_32_106, e_32_109, e_32_110, e_32_113, e_32_114, e_32_117r, e_32_117i, e_32_118, e_32_121, e_32_122, e_32_125, e_32_128, cV_some, tl_some, tl_none, mZO_0, mZO_1, mL1_n, mL1_i, mL1_r, oB_some, List.cons_append, List.nil_append, mK_wI, mL_wI, mN_wI, mR_wI, mJ_wI, mK_wJ, mL_wJ, mI_wJ, mR_wJ, mK_wR, mL_wR, mI_wR, mJ_wR, bI_0, bI_n0, if_true, if_false, Nat.reduceLeDiff, Nat.reduceAdd, ite_not, reduceIte, not_false_eq_true, not_true_eq_false, true_and, and_true, and_self, or_false, false_or, or_true, true_or, Nat.reduceEqDiff, Nat.reduceLT, Nat.zero_le, Nat.add_zero, eq_self, false_and, and_false, mc_, mc_i, mc_r, mc_l, mc_ii, mc_ir, mc_il, mc_ri, mc_rr, mc_rl, mc_li, mc_lr, mc_ll, mc_iii, mc_iir, mc_iil, mc_iri, mc_irr, mc_irl, mc_ili, mc_ilr, mc_ill, mc_rii, mc_rir, mc_ril, mc_rri, mc_rrr, mc_rrl, mc_rli, mc_rlr, mc_rll, mc_lii, mc_lir, mc_lil, mc_lri, mc_lrr, mc_lrl, mc_lli, mc_llr, mc_lll, mc_iiii, mc_iiir, mc_iiri, mc_iirr, mc_irii, mc_irir, mc_irri, mc_irrr, mc_riii, mc_riir, mc_riri, mc_rirr, mc_rrii, mc_rrir, mc_rrri, mc_rrrr, mc_iiiii, mc_iiiir, mc_iiiri, mc_iiirr, mc_iirii, mc_iirir, mc_iirri, mc_iirrr, mc_iriii, mc_iriir, mc_iriri, mc_irirr, mc_irrii, mc_irrir, mc_irrri, mc_irrrr, mc_riiii, mc_riiir, mc_riiri, mc_riirr, mc_ririi, mc_ririr, mc_rirri, mc_rirrr, mc_rriii, mc_rriir, mc_rriri, mc_rrirr, mc_rrrii, mc_rrrir, mc_rrrri, mc_rrrrr, hc, kO, kO2, kA, lA, kN, rr, y_mN, w, c, wr, mEl_13, ixN (show i < 4 by omega) (by omega), cl (show i < 2 ^ 31 by omega), nI_1]
    rfl
theorem l32b {d : Nat} {b : mM} {Z : Nat} {I : Nat → Nat → Int32} {R : Nat → Nat → Option Nat} (hTo : TT 4 = (8, 7)) (hTa : TT 6 = (14, 4)) (hTn : ∀ i, i < 4 → TT (13 + i) = (0, 3)) (hR : R 4 1 = some 6) (fr : Fr I R 13) : ∀ (k i : Nat), i + k = 4 → ev (d + 1) 32 78 [some (.ref 4), some (.int (nI i))] [] (yM b (13 + i) (Z + 3 * i) (I) (arR (6) (13) R i)) = ev (d + 1) 32 102 [some (.ref 4), some (.int (nI 4))] [] (yM b (13 + 4) (Z + 3 * 4) (I) (arR (6) (13) R 4))
  | 0, i, hk => by
    have e : i = 4 := by omega
    subst e
    have hc : (4 : Int32) ≤ nI 4 := by decide
    rw [e_32_78]
    simp only [e_32_0, e_32_1, e_32_4, e_32_5, e_32_6, e_32_9, e_32_12, e_32_13, e_32_14, e_32_17, e_32_20, e_32_21, e_32_22, e_32_25, e_32_28, e_32_29, e_32_30, e_32_32, e_32_35, e_32_36, e_32_37, e_32_40, e_32_41, e_32_42, e_32_45, e_32_46, e_32_47, e_32_50, e_32_51, e_32_52, e_32_53, e_32_54, e_32_57, e_32_58, e_32_61, e_32_62, e_32_65r, e_32_65i, e_32_66, e_32_69, e_32_70, e_32_73, e_32_76, e_32_77, e_32_79, e_32_80, e_32_83, e_32_84, e_32_87, e_32_88, e_32_91r, e_32_91i, e_32_92, e_32_95, e_32_96, e_32_99, e_32_102, e_32_103, e_32_104, e_32_105, e_32_106, e_32_109, e_32_110, e_32_113, e_32_114, e_32_117r, e_32_117i, e_32_118, e_32_121, e_32_122, e_32_125, e_32_128, cV_some, tl_some, tl_none, mZO_0, mZO_1, mL1_n, mL1_i, mL1_r, oB_some, List.cons_append, List.nil_append, mK_wI, mL_wI, mN_wI, mR_wI, mJ_wI, mK_wJ, mL_wJ, mI_wJ, mR_wJ, mK_wR, mL_wR, mI_wR, mJ_wR, bI_0, bI_n0, if_true, if_false, Nat.reduceLeDiff, Nat.reduceAdd, ite_not, reduceIte, not_false_eq_true, not_true_eq_false, true_and, and_true, and_self, or_false, false_or, or_true, true_or, Nat.reduceEqDiff, Nat.reduceLT, Nat.zero_le, Nat.add_zero, eq_self, false_and, and_false, mc_, mc_i, mc_r, mc_l, mc_ii, mc_ir, mc_il, mc_ri, mc_rr, mc_rl, mc_li, mc_lr, mc_ll, mc_iii, mc_iir, mc_iil, mc_iri, mc_irr, mc_irl, mc_ili, mc_ilr, mc_ill, mc_rii, mc_rir, mc_ril, mc_rri, mc_rrr, mc_rrl, mc_rli, mc_rlr, mc_rll, mc_lii, mc_lir, mc_lil, mc_lri, mc_lrr, mc_lrl, mc_lli, mc_llr, mc_lll, mc_iiii, mc_iiir, mc_iiri, mc_iirr, mc_irii, mc_irir, mc_irri, mc_irrr, mc_riii, mc_riir, mc_riri, mc_rirr, mc_rrii, mc_rrir, mc_rrri, mc_rrrr, mc_iiiii, mc_iiiir, mc_iiiri, mc_iiirr, mc_iirii, mc_iirir, mc_iirri, mc_iirrr, mc_iriii, mc_iriir, mc_iriri, mc_irirr, mc_irrii, mc_irrir, mc_irrri, mc_irrrr, mc_riiii, mc_riiir, mc_riiri, mc_riirr, mc_ririi, mc_ririr, mc_rirri, mc_rirrr, mc_rriii, mc_rriir, mc_rriri, mc_rrirr, mc_rrrii, mc_rrrir, mc_rrrri, mc_rrrrr, hc]
  | k + 1, i, hk => by
    have hc : ¬ (4 : Int32) ≤ nI i := nI_ge (b := 4) (by omega) (by omega)
    have tn : TT (13 + i) = (0, 3) := hTn i (by omega)
    have fr2 : Fr (I) (arR (6) (13) R i) (13 + i) := fun x hx j => by
      rw [arR_off (by omega)]
      exact fr x (by omega) j
    have w : wN (yM b (13 + i) (Z + 3 * i) (I) (arR (6) (13) R i)) 0 3 = yM b (13 + i + 1) (Z + 3 * i + 3) (I) (arR (6) (13) R i) := y_wN (by omega) tn fr2
    have c := n0 (d := d) (b := b) (N := 13 + i + 1) (Z := Z + 3 * i + 3) (a := 13 + i) (I := I) (R := arR (6) (13) R i) (by omega) (by omega) tn (fun k => (fr _ (by omega) k).1)
    have kO : ∀ I R, mK (yM b (13 + i + 1) (Z + 3 * i + 3) I R) (4) = 8 := fun I R => by rw [y_mK (by omega) (by omega) (by rw [hTo]; decide), hTo]
    have kO2 : ∀ I R, mK (yM b (13 + i) (Z + 3 * i) I R) (4) = 8 := fun I R => by rw [y_mK (by omega) (by omega) (by rw [hTo]; decide), hTo]
    have kA : ∀ I R, mK (yM b (13 + i + 1) (Z + 3 * i + 3) I R) (6) = 14 := fun I R => by rw [y_mK (by omega) (by omega) (by rw [hTa]; decide), hTa]
    have lA : ∀ I R, mL (yM b (13 + i + 1) (Z + 3 * i + 3) I R) (6) = 4 := fun I R => by rw [y_mL (by omega) (by omega), hTa]
    have kN : ∀ I R, mK (yM b (13 + i + 1) (Z + 3 * i + 3) I R) (13 + i) = 0 := fun I R => by rw [y_mK (by omega) (by omega) (by rw [tn]; decide), tn]
    have rr : mR (yM b (13 + i) (Z + 3 * i) (I) (arR (6) (13) R i)) (4) 1 = some (6) := by rw [y_mR (by omega) (by omega), arR_off (by omega)]; exact hR
    have wr : ∀ I R, wR (yM b (13 + i + 1) (Z + 3 * i + 3) I R) (6) i (some (13 + i)) = yM b (13 + i + 1) (Z + 3 * i + 3) I (r2 R (6) i (some (13 + i))) := fun I R => y_wR (by omega) (by omega)
    have ih := l32b (d := d) (b := b) (Z := Z) hTo hTa hTn hR fr k (i + 1) (by omega)
    rw [show Z + 3 * (i + 1) = Z + 3 * i + 3 by omega] at ih
    refine Eq.trans ?_ ih
    rw [e_32_78]
    simp only [e_32_0, e_32_1, e_32_4, e_32_5, e_32_6, e_32_9, e_32_12, e_32_13, e_32_14, e_32_17, e_32_20, e_32_21, e_32_22, e_32_25, e_32_28, e_32_29, e_32_30, e_32_32, e_32_35, e_32_36, e_32_37, e_32_40, e_32_41, e_32_42, e_32_45, e_32_46, e_32_47, e_32_50, e_32_51, e_32_52, e_32_53, e_32_54, e_32_57, e_32_58, e_32_61, e_32_62, e_32_65r, e_32_65i, e_32_66, e_32_69, e_32_70, e_32_73, e_32_76, e_32_77, e_32_79, e_32_80, e_32_83, e_32_84, e_32_87, e_32_88, e_32_91r, e_32_91i, e_32_92, e_32_95, e_32_96, e_32_99, e_32_102, e_32_103, e_32_104, e_32_105, e_32_106, e_32_109, e_32_110, e_32_113, e_32_114, e_32_117r, e_32_117i, e_32_118, e_32_121, e_32_122, e_32_125, e_32_128, cV_some, tl_some, tl_none, mZO_0, mZO_1, mL1_n, mL1_i, mL1_r, oB_some, List.cons_append, List.nil_append, mK_wI, mL_wI, mN_wI, mR_wI, mJ_wI, mK_wJ, mL_wJ, mI_wJ, mR_wJ, mK_wR, mL_wR, mI_wR, mJ_wR, bI_0, bI_n0, if_true, if_false, Nat.reduceLeDiff, Nat.reduceAdd, ite_not, reduceIte, not_false_eq_true, not_true_eq_false, true_and, and_true, and_self, or_false, false_or, or_true, true_or, Nat.reduceEqDiff, Nat.reduceLT, Nat.zero_le, Nat.add_zero, eq_self, false_and, and_false, mc_, mc_i, mc_r, mc_l, mc_ii, mc_ir, mc_il, mc_ri, mc_rr, mc_rl, mc_li, mc_lr, mc_ll, mc_iii, mc_iir, mc_iil, mc_iri, mc_irr, mc_irl, mc_ili, mc_ilr, mc_ill, mc_rii, mc_rir, mc_ril, mc_rri, mc_rrr, mc_rrl, mc_rli, mc_rlr, mc_rll, mc_lii, mc_lir, mc_lil, mc_lri, mc_lrr, mc_lrl, mc_lli, mc_llr, mc_lll, mc_iiii, mc_iiir, mc_iiri, mc_iirr, mc_irii, mc_irir, mc_irri, mc_irrr, mc_riii, mc_riir, mc_riri, mc_rirr, mc_rrii, mc_rrir, mc_rrri, mc_rrrr, mc_iiiii, mc_iiiir, mc_iiiri, mc_iiirr, mc_iirii, mc_iirir, mc_iirri, mc_iirrr, mc_iriii, mc_iriir, mc_iriri, mc_irirr, mc_irrii, mc_irrir, mc_irrri, mc_irrrr, mc_riiii, mc_riiir, mc_riiri, mc_riirr, mc_ririi, mc_ririr, mc_rirri, mc_rirrr, mc_rriii, mc_rriir, mc_rriri, mc_rrirr, mc_rrrii, mc_rrrir, mc_rrrri, mc_rrrrr, hc, kO, kO2, kA, lA, kN, rr, y_mN, w, c, wr, mEl_14, ixN (show i < 4 by omega) (by omega), cl (show i < 2 ^ 31 by omega), nI_1]
    rfl
def mlR (a : Nat) (R : Nat → Nat → Option Nat) : Nat → Nat → Option Nat := arR (a + 2) (a + 6) (arR (a + 1) (a + 3) (r2 (r2 R a 0 (some (a + 1))) a 1 (some (a + 2))) 3) 12
theorem mlR_off {a x j : Nat} {R : Nat → Nat → Option Nat} (h : x < a ∨ a + 3 ≤ x) : mlR a R x j = R x j := by
  unfold mlR
  rw [arR_off (by omega), arR_off (by omega), r2_off (by omega), r2_off (by omega)]
theorem n11 {d : Nat} {b : mM} {Z a : Nat} {I : Nat → Nat → Int32} {R : Nat → Nat → Option Nat} (h0 : 0 < a) (t0 : TT a = (2, 15)) (t1 : TT (a + 1) = (16, 3)) (t2 : TT (a + 2) = (17, 12)) (t3 : ∀ i, i < 3 → TT (a + 3 + i) = (6, 5)) (t4 : ∀ i, i < 12 → TT (a + 6 + i) = (4, 4)) (fr : Fr I R a) : ev (d + 1) 11 0 [some (.ref a), none] [] (yM b (a + 1) Z I R) = some (none, yM b (a + 18) (Z + 78) (stI (a + 3) I 3) (mlR a R)) := by
  have k1 : ∀ Z I R, mK (yM b (a + 1) Z I R) a = 2 := fun Z I R => by rw [y_mK h0 (by omega) (by rw [t0]; decide), t0]
  have k2 : ∀ Z I R, mK (yM b (a + 2) Z I R) a = 2 := fun Z I R => by rw [y_mK h0 (by omega) (by rw [t0]; decide), t0]
  have k3 : ∀ Z I R, mK (yM b (a + 3) Z I R) a = 2 := fun Z I R => by rw [y_mK h0 (by omega) (by rw [t0]; decide), t0]
  have w1 : wN (yM b (a + 1) Z I R) 16 3 = yM b (a + 2) (Z + 3) I R := y_wN (by omega) t1 (fr.up (by omega))
  have r1 : wR (yM b (a + 2) (Z + 3) I R) a 0 (some (a + 1)) = yM b (a + 2) (Z + 3) I (r2 R a 0 (some (a + 1))) := y_wR h0 (by omega)
  have w2 : wN (yM b (a + 2) (Z + 3) I (r2 R a 0 (some (a + 1)))) 17 12 = yM b (a + 3) (Z + 3 + 12) I (r2 R a 0 (some (a + 1))) := y_wN (by omega) t2 (Fr.r (fr.up (by omega)) (by omega))
  have rr2 : wR (yM b (a + 3) (Z + 3 + 12) I (r2 R a 0 (some (a + 1)))) a 1 (some (a + 2)) = yM b (a + 3) (Z + 3 + 12) I (r2 (r2 R a 0 (some (a + 1))) a 1 (some (a + 2))) := y_wR h0 (by omega)
  have wz : ∀ j, wI (yM b (a + 3) (Z + 3 + 12) I (r2 (r2 R a 0 (some (a + 1))) a 1 (some (a + 2)))) a j 0 = yM b (a + 3) (Z + 3 + 12) I (r2 (r2 R a 0 (some (a + 1))) a 1 (some (a + 2))) := fun j => y_wI0 h0 (by omega) (fr a (Nat.le_refl _) j).1
  have fr3 : Fr I (r2 (r2 R a 0 (some (a + 1))) a 1 (some (a + 2))) (a + 3) := Fr.r (Fr.r (fr.up (by omega)) (by omega)) (by omega)
  have la := l11a (d := d) (b := b) (Z := Z + 3 + 12) h0 t0 t1 t3 (R := r2 (r2 R a 0 (some (a + 1))) a 1 (some (a + 2))) (by rw [r2_ap, if_neg (by omega), r2_ap, if_pos ⟨rfl, rfl⟩]) fr3 3 0 (by omega)
  have fr6 : Fr (stI (a + 3) I 3) (arR (a + 1) (a + 3) (r2 (r2 R a 0 (some (a + 1))) a 1 (some (a + 2))) 3) (a + 6) := fun x hx j => by
    rw [stI_off 3 (by omega), arR_off (by omega)]
    exact fr3 x (by omega) j
  have lb := l11b (d := d) (b := b) (Z := Z + 3 + 12 + 5 * 3) h0 t0 t2 t4 (I := stI (a + 3) I 3) (R := arR (a + 1) (a + 3) (r2 (r2 R a 0 (some (a + 1))) a 1 (some (a + 2))) 3) (by rw [arR_off (by omega), r2_ap, if_pos ⟨rfl, rfl⟩]) fr6 12 0 (by omega)
  rw [nI_0] at la lb
  have e1 : ev (d + 1) 11 0 [some (.ref a), none] [] (yM b (a + 1) Z I R) = ev (d + 1) 11 88 [some (.ref a), some (.int 0)] [] (yM b (a + 3) (Z + 3 + 12) I (r2 (r2 R a 0 (some (a + 1))) a 1 (some (a + 2)))) := by
    simp only [e_11_0, e_11_1, e_11_4, e_11_5, e_11_6, e_11_9, e_11_12, e_11_13, e_11_15, e_11_18, e_11_21, e_11_22, e_11_23, e_11_26, e_11_27, e_11_28, e_11_31, e_11_32, e_11_33, e_11_36, e_11_37, e_11_38, e_11_41, e_11_42, e_11_43, e_11_46, e_11_47, e_11_48, e_11_51, e_11_52, e_11_53, e_11_56, e_11_57, e_11_58, e_11_61, e_11_62, e_11_63, e_11_66, e_11_67, e_11_68, e_11_71, e_11_72, e_11_73, e_11_76, e_11_77, e_11_78, e_11_81, e_11_82, e_11_83, e_11_86, e_11_87, e_11_89, e_11_90, e_11_93, e_11_94, e_11_97, e_11_98, e_11_101r, e_11_101i, e_11_102, e_11_105, e_11_106, e_11_109, e_11_113, e_11_115, e_11_117, e_11_120, e_11_121, e_11_124, e_11_125, e_11_128r, e_11_128i, e_11_129, e_11_132, e_11_133, e_11_136, e_11_139, cV_some, tl_some, tl_none, mZO_0, mZO_1, mL1_n, mL1_i, mL1_r, oB_some, List.cons_append, List.nil_append, mK_wI, mL_wI, mN_wI, mR_wI, mJ_wI, mK_wJ, mL_wJ, mI_wJ, mR_wJ, mK_wR, mL_wR, mI_wR, mJ_wR, bI_0, bI_n0, if_true, if_false, Nat.reduceLeDiff, Nat.reduceAdd, ite_not, reduceIte, not_false_eq_true, not_true_eq_false, true_and, and_true, and_self, or_false, false_or, or_true, true_or, Nat.reduceEqDiff, Nat.reduceLT, Nat.zero_le, Nat.add_zero, eq_self, false_and, and_false, mc_, mc_i, mc_r, mc_l, mc_ii, mc_ir, mc_il, mc_ri, mc_rr, mc_rl, mc_li, mc_lr, mc_ll, mc_iii, mc_iir, mc_iil, mc_iri, mc_irr, mc_irl, mc_ili, mc_ilr, mc_ill, mc_rii, mc_rir, mc_ril, mc_rri, mc_rrr, mc_rrl, mc_rli, mc_rlr, mc_rll, mc_lii, mc_lir, mc_lil, mc_lri, mc_lrr, mc_lrl, mc_lli, mc_llr, mc_lll, mc_iiii, mc_iiir, mc_iiri, mc_iirr, mc_irii, mc_irir, mc_irri, mc_irrr, mc_riii, mc_riir, mc_riri, mc_rirr, mc_rrii, mc_rrir, mc_rrri, mc_rrrr, mc_iiiii, mc_iiiir, mc_iiiri, mc_iiirr, mc_iirii, mc_iirir, mc_iirri, mc_iirrr, mc_iriii, mc_iriir, mc_iriri, mc_irirr, mc_irrii, mc_irrir, mc_irrri, mc_irrrr, mc_riiii, mc_riiir, mc_riiri, mc_riirr, mc_ririi, mc_ririr, mc_rirri, mc_rirrr, mc_rriii, mc_rriir, mc_rriri, mc_rrirr, mc_rrrii, mc_rrrir, mc_rrrri, mc_rrrrr, zl_3, cz_3, zl_12, cz_12, y_mN, k1, k2, k3, w1, r1, w2, rr2, wz]
  have e2 : ∀ h, ev (d + 1) 11 112 [some (.ref a), some (.int (nI 3))] [] h = ev (d + 1) 11 114 [some (.ref a), some (.int 0)] [] h := fun h => by
    simp only [e_11_0, e_11_1, e_11_4, e_11_5, e_11_6, e_11_9, e_11_12, e_11_13, e_11_15, e_11_18, e_11_21, e_11_22, e_11_23, e_11_26, e_11_27, e_11_28, e_11_31, e_11_32, e_11_33, e_11_36, e_11_37, e_11_38, e_11_41, e_11_42, e_11_43, e_11_46, e_11_47, e_11_48, e_11_51, e_11_52, e_11_53, e_11_56, e_11_57, e_11_58, e_11_61, e_11_62, e_11_63, e_11_66, e_11_67, e_11_68, e_11_71, e_11_72, e_11_73, e_11_76, e_11_77, e_11_78, e_11_81, e_11_82, e_11_83, e_11_86, e_11_87, e_11_89, e_11_90, e_11_93, e_11_94, e_11_97, e_11_98, e_11_101r, e_11_101i, e_11_102, e_11_105, e_11_106, e_11_109, e_11_112, e_11_113, e_11_115, e_11_117, e_11_120, e_11_121, e_11_124, e_11_125, e_11_128r, e_11_128i, e_11_129, e_11_132, e_11_133, e_11_136, e_11_139, cV_some, tl_some, tl_none, mZO_0, mZO_1, mL1_n, mL1_i, mL1_r, oB_some, List.cons_append, List.nil_append, mK_wI, mL_wI, mN_wI, mR_wI, mJ_wI, mK_wJ, mL_wJ, mI_wJ, mR_wJ, mK_wR, mL_wR, mI_wR, mJ_wR, bI_0, bI_n0, if_true, if_false, Nat.reduceLeDiff, Nat.reduceAdd, ite_not, reduceIte, not_false_eq_true, not_true_eq_false, true_and, and_true, and_self, or_false, false_or, or_true, true_or, Nat.reduceEqDiff, Nat.reduceLT, Nat.zero_le, Nat.add_zero, eq_self, false_and, and_false, mc_, mc_i, mc_r, mc_l, mc_ii, mc_ir, mc_il, mc_ri, mc_rr, mc_rl, mc_li, mc_lr, mc_ll, mc_iii, mc_iir, mc_iil, mc_iri, mc_irr, mc_irl, mc_ili, mc_ilr, mc_ill, mc_rii, mc_rir, mc_ril, mc_rri, mc_rrr, mc_rrl, mc_rli, mc_rlr, mc_rll, mc_lii, mc_lir, mc_lil, mc_lri, mc_lrr, mc_lrl, mc_lli, mc_llr, mc_lll, mc_iiii, mc_iiir, mc_iiri, mc_iirr, mc_irii, mc_irir, mc_irri, mc_irrr, mc_riii, mc_riir, mc_riri, mc_rirr, mc_rrii, mc_rrir, mc_rrri, mc_rrrr, mc_iiiii, mc_iiiir, mc_iiiri, mc_iiirr, mc_iirii, mc_iirir, mc_iirri, mc_iirrr, mc_iriii, mc_iriir, mc_iriri, mc_irirr, mc_irrii, mc_irrir, mc_irrri, mc_irrrr, mc_riiii, mc_riiir, mc_riiri, mc_riirr, mc_ririi, mc_ririr, mc_rirri, mc_rirrr, mc_rriii, mc_rriir, mc_rriri, mc_rrirr, mc_rrrii, mc_rrrir, mc_rrrri, mc_rrrrr]
  have e3 : ∀ h, ev (d + 1) 11 139 [some (.ref a), some (.int (nI 12))] [] h = some (none, h) := fun h => by
    simp only [e_11_0, e_11_1, e_11_4, e_11_5, e_11_6, e_11_9, e_11_12, e_11_13, e_11_15, e_11_18, e_11_21, e_11_22, e_11_23, e_11_26, e_11_27, e_11_28, e_11_31, e_11_32, e_11_33, e_11_36, e_11_37, e_11_38, e_11_41, e_11_42, e_11_43, e_11_46, e_11_47, e_11_48, e_11_51, e_11_52, e_11_53, e_11_56, e_11_57, e_11_58, e_11_61, e_11_62, e_11_63, e_11_66, e_11_67, e_11_68, e_11_71, e_11_72, e_11_73, e_11_76, e_11_77, e_11_78, e_11_81, e_11_82, e_11_83, e_11_86, e_11_87, e_11_89, e_11_90, e_11_93, e_11_94, e_11_97, e_11_98, e_11_101r, e_11_101i, e_11_102, e_11_105, e_11_106, e_11_109, e_11_112, e_11_113, e_11_115, e_11_117, e_11_120, e_11_121, e_11_124, e_11_125, e_11_128r, e_11_128i, e_11_129, e_11_132, e_11_133, e_11_136, e_11_139, cV_some, tl_some, tl_none, mZO_0, mZO_1, mL1_n, mL1_i, mL1_r, oB_some, List.cons_append, List.nil_append, mK_wI, mL_wI, mN_wI, mR_wI, mJ_wI, mK_wJ, mL_wJ, mI_wJ, mR_wJ, mK_wR, mL_wR, mI_wR, mJ_wR, bI_0, bI_n0, if_true, if_false, Nat.reduceLeDiff, Nat.reduceAdd, ite_not, reduceIte, not_false_eq_true, not_true_eq_false, true_and, and_true, and_self, or_false, false_or, or_true, true_or, Nat.reduceEqDiff, Nat.reduceLT, Nat.zero_le, Nat.add_zero, eq_self, false_and, and_false, mc_, mc_i, mc_r, mc_l, mc_ii, mc_ir, mc_il, mc_ri, mc_rr, mc_rl, mc_li, mc_lr, mc_ll, mc_iii, mc_iir, mc_iil, mc_iri, mc_irr, mc_irl, mc_ili, mc_ilr, mc_ill, mc_rii, mc_rir, mc_ril, mc_rri, mc_rrr, mc_rrl, mc_rli, mc_rlr, mc_rll, mc_lii, mc_lir, mc_lil, mc_lri, mc_lrr, mc_lrl, mc_lli, mc_llr, mc_lll, mc_iiii, mc_iiir, mc_iiri, mc_iirr, mc_irii, mc_irir, mc_irri, mc_irrr, mc_riii, mc_riir, mc_riri, mc_rirr, mc_rrii, mc_rrir, mc_rrri, mc_rrrr, mc_iiiii, mc_iiiir, mc_iiiri, mc_iiirr, mc_iirii, mc_iirir, mc_iirri, mc_iirrr, mc_iriii, mc_iriir, mc_iriri, mc_irirr, mc_irrii, mc_irrir, mc_irrri, mc_irrrr, mc_riiii, mc_riiir, mc_riiri, mc_riirr, mc_ririi, mc_ririr, mc_rirri, mc_rirrr, mc_rriii, mc_rriir, mc_rriri, mc_rrirr, mc_rrrii, mc_rrrir, mc_rrrri, mc_rrrrr]
  rw [e1]
  refine Eq.trans la ?_
  rw [e2]
  refine Eq.trans lb ?_
  rw [e3]
  rfl
