-- how the cells lie when both objects have been made (gen_geo.py)
theorem mK_wI {h : mM} {a k b : Nat} {v : Int32} : mK (wI h a k v) b = mK h b := rfl
theorem mL_wI {h : mM} {a k b : Nat} {v : Int32} : mL (wI h a k v) b = mL h b := rfl
theorem mN_wI {h : mM} {a k : Nat} {v : Int32} : mN (wI h a k v) = mN h := rfl
theorem mR_wI {h : mM} {a k b j : Nat} {v : Int32} : mR (wI h a k v) b j = mR h b j := rfl
theorem mJ_wI {h : mM} {a k b j : Nat} {v : Int32} : mJ (wI h a k v) b j = mJ h b j := rfl
theorem mK_wJ {h : mM} {a k b : Nat} {v : Int64} : mK (wJ h a k v) b = mK h b := rfl
theorem mL_wJ {h : mM} {a k b : Nat} {v : Int64} : mL (wJ h a k v) b = mL h b := rfl
theorem mI_wJ {h : mM} {a k b j : Nat} {v : Int64} : mI (wJ h a k v) b j = mI h b j := rfl
theorem mR_wJ {h : mM} {a k b j : Nat} {v : Int64} : mR (wJ h a k v) b j = mR h b j := rfl
theorem mK_wR {h : mM} {a k b : Nat} {v : Option Nat} : mK (wR h a k v) b = mK h b := rfl
theorem mL_wR {h : mM} {a k b : Nat} {v : Option Nat} : mL (wR h a k v) b = mL h b := rfl
theorem mI_wR {h : mM} {a k b j : Nat} {v : Option Nat} : mI (wR h a k v) b j = mI h b j := rfl
theorem mJ_wR {h : mM} {a k b j : Nat} {v : Option Nat} : mJ (wR h a k v) b j = mJ h b j := rfl
theorem mK_wC {h : mM} {a b sp dp n c : Nat} : mK (wC h a b sp dp n) c = mK h c := rfl
theorem mL_wC {h : mM} {a b sp dp n c : Nat} : mL (wC h a b sp dp n) c = mL h c := rfl
theorem mR_wC {h : mM} {a b sp dp n c j : Nat} : mR (wC h a b sp dp n) c j = mR h c j := rfl
theorem mJ_wC {h : mM} {a b sp dp n c j : Nat} : mJ (wC h a b sp dp n) c j = mJ h c j := rfl
theorem mc_ : mCat [] ≤ 8 := Nat.le_of_ble_eq_true rfl
theorem mc_i {x0 : Int32} : mCat [.int x0] ≤ 8 := Nat.le_of_ble_eq_true rfl
theorem mc_r {x0 : Nat} : mCat [.ref x0] ≤ 8 := Nat.le_of_ble_eq_true rfl
theorem mc_l {x0 : Int64} : mCat [.long x0] ≤ 8 := Nat.le_of_ble_eq_true rfl
theorem mc_ii {x0 : Int32} {x1 : Int32} : mCat [.int x0, .int x1] ≤ 8 := Nat.le_of_ble_eq_true rfl
theorem mc_ir {x0 : Int32} {x1 : Nat} : mCat [.int x0, .ref x1] ≤ 8 := Nat.le_of_ble_eq_true rfl
theorem mc_il {x0 : Int32} {x1 : Int64} : mCat [.int x0, .long x1] ≤ 8 := Nat.le_of_ble_eq_true rfl
theorem mc_ri {x0 : Nat} {x1 : Int32} : mCat [.ref x0, .int x1] ≤ 8 := Nat.le_of_ble_eq_true rfl
theorem mc_rr {x0 : Nat} {x1 : Nat} : mCat [.ref x0, .ref x1] ≤ 8 := Nat.le_of_ble_eq_true rfl
theorem mc_rl {x0 : Nat} {x1 : Int64} : mCat [.ref x0, .long x1] ≤ 8 := Nat.le_of_ble_eq_true rfl
theorem mc_li {x0 : Int64} {x1 : Int32} : mCat [.long x0, .int x1] ≤ 8 := Nat.le_of_ble_eq_true rfl
theorem mc_lr {x0 : Int64} {x1 : Nat} : mCat [.long x0, .ref x1] ≤ 8 := Nat.le_of_ble_eq_true rfl
theorem mc_ll {x0 : Int64} {x1 : Int64} : mCat [.long x0, .long x1] ≤ 8 := Nat.le_of_ble_eq_true rfl
theorem mc_iii {x0 : Int32} {x1 : Int32} {x2 : Int32} : mCat [.int x0, .int x1, .int x2] ≤ 8 := Nat.le_of_ble_eq_true rfl
theorem mc_iir {x0 : Int32} {x1 : Int32} {x2 : Nat} : mCat [.int x0, .int x1, .ref x2] ≤ 8 := Nat.le_of_ble_eq_true rfl
theorem mc_iil {x0 : Int32} {x1 : Int32} {x2 : Int64} : mCat [.int x0, .int x1, .long x2] ≤ 8 := Nat.le_of_ble_eq_true rfl
theorem mc_iri {x0 : Int32} {x1 : Nat} {x2 : Int32} : mCat [.int x0, .ref x1, .int x2] ≤ 8 := Nat.le_of_ble_eq_true rfl
theorem mc_irr {x0 : Int32} {x1 : Nat} {x2 : Nat} : mCat [.int x0, .ref x1, .ref x2] ≤ 8 := Nat.le_of_ble_eq_true rfl
theorem mc_irl {x0 : Int32} {x1 : Nat} {x2 : Int64} : mCat [.int x0, .ref x1, .long x2] ≤ 8 := Nat.le_of_ble_eq_true rfl
theorem mc_ili {x0 : Int32} {x1 : Int64} {x2 : Int32} : mCat [.int x0, .long x1, .int x2] ≤ 8 := Nat.le_of_ble_eq_true rfl
theorem mc_ilr {x0 : Int32} {x1 : Int64} {x2 : Nat} : mCat [.int x0, .long x1, .ref x2] ≤ 8 := Nat.le_of_ble_eq_true rfl
theorem mc_ill {x0 : Int32} {x1 : Int64} {x2 : Int64} : mCat [.int x0, .long x1, .long x2] ≤ 8 := Nat.le_of_ble_eq_true rfl
theorem mc_rii {x0 : Nat} {x1 : Int32} {x2 : Int32} : mCat [.ref x0, .int x1, .int x2] ≤ 8 := Nat.le_of_ble_eq_true rfl
theorem mc_rir {x0 : Nat} {x1 : Int32} {x2 : Nat} : mCat [.ref x0, .int x1, .ref x2] ≤ 8 := Nat.le_of_ble_eq_true rfl
theorem mc_ril {x0 : Nat} {x1 : Int32} {x2 : Int64} : mCat [.ref x0, .int x1, .long x2] ≤ 8 := Nat.le_of_ble_eq_true rfl
theorem mc_rri {x0 : Nat} {x1 : Nat} {x2 : Int32} : mCat [.ref x0, .ref x1, .int x2] ≤ 8 := Nat.le_of_ble_eq_true rfl
theorem mc_rrr {x0 : Nat} {x1 : Nat} {x2 : Nat} : mCat [.ref x0, .ref x1, .ref x2] ≤ 8 := Nat.le_of_ble_eq_true rfl
theorem mc_rrl {x0 : Nat} {x1 : Nat} {x2 : Int64} : mCat [.ref x0, .ref x1, .long x2] ≤ 8 := Nat.le_of_ble_eq_true rfl
theorem mc_rli {x0 : Nat} {x1 : Int64} {x2 : Int32} : mCat [.ref x0, .long x1, .int x2] ≤ 8 := Nat.le_of_ble_eq_true rfl
theorem mc_rlr {x0 : Nat} {x1 : Int64} {x2 : Nat} : mCat [.ref x0, .long x1, .ref x2] ≤ 8 := Nat.le_of_ble_eq_true rfl
theorem mc_rll {x0 : Nat} {x1 : Int64} {x2 : Int64} : mCat [.ref x0, .long x1, .long x2] ≤ 8 := Nat.le_of_ble_eq_true rfl
theorem mc_lii {x0 : Int64} {x1 : Int32} {x2 : Int32} : mCat [.long x0, .int x1, .int x2] ≤ 8 := Nat.le_of_ble_eq_true rfl
theorem mc_lir {x0 : Int64} {x1 : Int32} {x2 : Nat} : mCat [.long x0, .int x1, .ref x2] ≤ 8 := Nat.le_of_ble_eq_true rfl
theorem mc_lil {x0 : Int64} {x1 : Int32} {x2 : Int64} : mCat [.long x0, .int x1, .long x2] ≤ 8 := Nat.le_of_ble_eq_true rfl
theorem mc_lri {x0 : Int64} {x1 : Nat} {x2 : Int32} : mCat [.long x0, .ref x1, .int x2] ≤ 8 := Nat.le_of_ble_eq_true rfl
theorem mc_lrr {x0 : Int64} {x1 : Nat} {x2 : Nat} : mCat [.long x0, .ref x1, .ref x2] ≤ 8 := Nat.le_of_ble_eq_true rfl
theorem mc_lrl {x0 : Int64} {x1 : Nat} {x2 : Int64} : mCat [.long x0, .ref x1, .long x2] ≤ 8 := Nat.le_of_ble_eq_true rfl
theorem mc_lli {x0 : Int64} {x1 : Int64} {x2 : Int32} : mCat [.long x0, .long x1, .int x2] ≤ 8 := Nat.le_of_ble_eq_true rfl
theorem mc_llr {x0 : Int64} {x1 : Int64} {x2 : Nat} : mCat [.long x0, .long x1, .ref x2] ≤ 8 := Nat.le_of_ble_eq_true rfl
theorem mc_lll {x0 : Int64} {x1 : Int64} {x2 : Int64} : mCat [.long x0, .long x1, .long x2] ≤ 8 := Nat.le_of_ble_eq_true rfl
theorem mc_iiii {x0 : Int32} {x1 : Int32} {x2 : Int32} {x3 : Int32} : mCat [.int x0, .int x1, .int x2, .int x3] ≤ 8 := Nat.le_of_ble_eq_true rfl
theorem mc_iiir {x0 : Int32} {x1 : Int32} {x2 : Int32} {x3 : Nat} : mCat [.int x0, .int x1, .int x2, .ref x3] ≤ 8 := Nat.le_of_ble_eq_true rfl
theorem mc_iiri {x0 : Int32} {x1 : Int32} {x2 : Nat} {x3 : Int32} : mCat [.int x0, .int x1, .ref x2, .int x3] ≤ 8 := Nat.le_of_ble_eq_true rfl
theorem mc_iirr {x0 : Int32} {x1 : Int32} {x2 : Nat} {x3 : Nat} : mCat [.int x0, .int x1, .ref x2, .ref x3] ≤ 8 := Nat.le_of_ble_eq_true rfl
theorem mc_irii {x0 : Int32} {x1 : Nat} {x2 : Int32} {x3 : Int32} : mCat [.int x0, .ref x1, .int x2, .int x3] ≤ 8 := Nat.le_of_ble_eq_true rfl
theorem mc_irir {x0 : Int32} {x1 : Nat} {x2 : Int32} {x3 : Nat} : mCat [.int x0, .ref x1, .int x2, .ref x3] ≤ 8 := Nat.le_of_ble_eq_true rfl
theorem mc_irri {x0 : Int32} {x1 : Nat} {x2 : Nat} {x3 : Int32} : mCat [.int x0, .ref x1, .ref x2, .int x3] ≤ 8 := Nat.le_of_ble_eq_true rfl
theorem mc_irrr {x0 : Int32} {x1 : Nat} {x2 : Nat} {x3 : Nat} : mCat [.int x0, .ref x1, .ref x2, .ref x3] ≤ 8 := Nat.le_of_ble_eq_true rfl
theorem mc_riii {x0 : Nat} {x1 : Int32} {x2 : Int32} {x3 : Int32} : mCat [.ref x0, .int x1, .int x2, .int x3] ≤ 8 := Nat.le_of_ble_eq_true rfl
theorem mc_riir {x0 : Nat} {x1 : Int32} {x2 : Int32} {x3 : Nat} : mCat [.ref x0, .int x1, .int x2, .ref x3] ≤ 8 := Nat.le_of_ble_eq_true rfl
theorem mc_riri {x0 : Nat} {x1 : Int32} {x2 : Nat} {x3 : Int32} : mCat [.ref x0, .int x1, .ref x2, .int x3] ≤ 8 := Nat.le_of_ble_eq_true rfl
theorem mc_rirr {x0 : Nat} {x1 : Int32} {x2 : Nat} {x3 : Nat} : mCat [.ref x0, .int x1, .ref x2, .ref x3] ≤ 8 := Nat.le_of_ble_eq_true rfl
theorem mc_rrii {x0 : Nat} {x1 : Nat} {x2 : Int32} {x3 : Int32} : mCat [.ref x0, .ref x1, .int x2, .int x3] ≤ 8 := Nat.le_of_ble_eq_true rfl
theorem mc_rrir {x0 : Nat} {x1 : Nat} {x2 : Int32} {x3 : Nat} : mCat [.ref x0, .ref x1, .int x2, .ref x3] ≤ 8 := Nat.le_of_ble_eq_true rfl
theorem mc_rrri {x0 : Nat} {x1 : Nat} {x2 : Nat} {x3 : Int32} : mCat [.ref x0, .ref x1, .ref x2, .int x3] ≤ 8 := Nat.le_of_ble_eq_true rfl
theorem mc_rrrr {x0 : Nat} {x1 : Nat} {x2 : Nat} {x3 : Nat} : mCat [.ref x0, .ref x1, .ref x2, .ref x3] ≤ 8 := Nat.le_of_ble_eq_true rfl
theorem mc_iiiii {x0 : Int32} {x1 : Int32} {x2 : Int32} {x3 : Int32} {x4 : Int32} : mCat [.int x0, .int x1, .int x2, .int x3, .int x4] ≤ 8 := Nat.le_of_ble_eq_true rfl
theorem mc_iiiir {x0 : Int32} {x1 : Int32} {x2 : Int32} {x3 : Int32} {x4 : Nat} : mCat [.int x0, .int x1, .int x2, .int x3, .ref x4] ≤ 8 := Nat.le_of_ble_eq_true rfl
theorem mc_iiiri {x0 : Int32} {x1 : Int32} {x2 : Int32} {x3 : Nat} {x4 : Int32} : mCat [.int x0, .int x1, .int x2, .ref x3, .int x4] ≤ 8 := Nat.le_of_ble_eq_true rfl
theorem mc_iiirr {x0 : Int32} {x1 : Int32} {x2 : Int32} {x3 : Nat} {x4 : Nat} : mCat [.int x0, .int x1, .int x2, .ref x3, .ref x4] ≤ 8 := Nat.le_of_ble_eq_true rfl
theorem mc_iirii {x0 : Int32} {x1 : Int32} {x2 : Nat} {x3 : Int32} {x4 : Int32} : mCat [.int x0, .int x1, .ref x2, .int x3, .int x4] ≤ 8 := Nat.le_of_ble_eq_true rfl
theorem mc_iirir {x0 : Int32} {x1 : Int32} {x2 : Nat} {x3 : Int32} {x4 : Nat} : mCat [.int x0, .int x1, .ref x2, .int x3, .ref x4] ≤ 8 := Nat.le_of_ble_eq_true rfl
theorem mc_iirri {x0 : Int32} {x1 : Int32} {x2 : Nat} {x3 : Nat} {x4 : Int32} : mCat [.int x0, .int x1, .ref x2, .ref x3, .int x4] ≤ 8 := Nat.le_of_ble_eq_true rfl
theorem mc_iirrr {x0 : Int32} {x1 : Int32} {x2 : Nat} {x3 : Nat} {x4 : Nat} : mCat [.int x0, .int x1, .ref x2, .ref x3, .ref x4] ≤ 8 := Nat.le_of_ble_eq_true rfl
theorem mc_iriii {x0 : Int32} {x1 : Nat} {x2 : Int32} {x3 : Int32} {x4 : Int32} : mCat [.int x0, .ref x1, .int x2, .int x3, .int x4] ≤ 8 := Nat.le_of_ble_eq_true rfl
theorem mc_iriir {x0 : Int32} {x1 : Nat} {x2 : Int32} {x3 : Int32} {x4 : Nat} : mCat [.int x0, .ref x1, .int x2, .int x3, .ref x4] ≤ 8 := Nat.le_of_ble_eq_true rfl
theorem mc_iriri {x0 : Int32} {x1 : Nat} {x2 : Int32} {x3 : Nat} {x4 : Int32} : mCat [.int x0, .ref x1, .int x2, .ref x3, .int x4] ≤ 8 := Nat.le_of_ble_eq_true rfl
theorem mc_irirr {x0 : Int32} {x1 : Nat} {x2 : Int32} {x3 : Nat} {x4 : Nat} : mCat [.int x0, .ref x1, .int x2, .ref x3, .ref x4] ≤ 8 := Nat.le_of_ble_eq_true rfl
theorem mc_irrii {x0 : Int32} {x1 : Nat} {x2 : Nat} {x3 : Int32} {x4 : Int32} : mCat [.int x0, .ref x1, .ref x2, .int x3, .int x4] ≤ 8 := Nat.le_of_ble_eq_true rfl
theorem mc_irrir {x0 : Int32} {x1 : Nat} {x2 : Nat} {x3 : Int32} {x4 : Nat} : mCat [.int x0, .ref x1, .ref x2, .int x3, .ref x4] ≤ 8 := Nat.le_of_ble_eq_true rfl
theorem mc_irrri {x0 : Int32} {x1 : Nat} {x2 : Nat} {x3 : Nat} {x4 : Int32} : mCat [.int x0, .ref x1, .ref x2, .ref x3, .int x4] ≤ 8 := Nat.le_of_ble_eq_true rfl
theorem mc_irrrr {x0 : Int32} {x1 : Nat} {x2 : Nat} {x3 : Nat} {x4 : Nat} : mCat [.int x0, .ref x1, .ref x2, .ref x3, .ref x4] ≤ 8 := Nat.le_of_ble_eq_true rfl
theorem mc_riiii {x0 : Nat} {x1 : Int32} {x2 : Int32} {x3 : Int32} {x4 : Int32} : mCat [.ref x0, .int x1, .int x2, .int x3, .int x4] ≤ 8 := Nat.le_of_ble_eq_true rfl
theorem mc_riiir {x0 : Nat} {x1 : Int32} {x2 : Int32} {x3 : Int32} {x4 : Nat} : mCat [.ref x0, .int x1, .int x2, .int x3, .ref x4] ≤ 8 := Nat.le_of_ble_eq_true rfl
theorem mc_riiri {x0 : Nat} {x1 : Int32} {x2 : Int32} {x3 : Nat} {x4 : Int32} : mCat [.ref x0, .int x1, .int x2, .ref x3, .int x4] ≤ 8 := Nat.le_of_ble_eq_true rfl
theorem mc_riirr {x0 : Nat} {x1 : Int32} {x2 : Int32} {x3 : Nat} {x4 : Nat} : mCat [.ref x0, .int x1, .int x2, .ref x3, .ref x4] ≤ 8 := Nat.le_of_ble_eq_true rfl
theorem mc_ririi {x0 : Nat} {x1 : Int32} {x2 : Nat} {x3 : Int32} {x4 : Int32} : mCat [.ref x0, .int x1, .ref x2, .int x3, .int x4] ≤ 8 := Nat.le_of_ble_eq_true rfl
theorem mc_ririr {x0 : Nat} {x1 : Int32} {x2 : Nat} {x3 : Int32} {x4 : Nat} : mCat [.ref x0, .int x1, .ref x2, .int x3, .ref x4] ≤ 8 := Nat.le_of_ble_eq_true rfl
theorem mc_rirri {x0 : Nat} {x1 : Int32} {x2 : Nat} {x3 : Nat} {x4 : Int32} : mCat [.ref x0, .int x1, .ref x2, .ref x3, .int x4] ≤ 8 := Nat.le_of_ble_eq_true rfl
theorem mc_rirrr {x0 : Nat} {x1 : Int32} {x2 : Nat} {x3 : Nat} {x4 : Nat} : mCat [.ref x0, .int x1, .ref x2, .ref x3, .ref x4] ≤ 8 := Nat.le_of_ble_eq_true rfl
theorem mc_rriii {x0 : Nat} {x1 : Nat} {x2 : Int32} {x3 : Int32} {x4 : Int32} : mCat [.ref x0, .ref x1, .int x2, .int x3, .int x4] ≤ 8 := Nat.le_of_ble_eq_true rfl
theorem mc_rriir {x0 : Nat} {x1 : Nat} {x2 : Int32} {x3 : Int32} {x4 : Nat} : mCat [.ref x0, .ref x1, .int x2, .int x3, .ref x4] ≤ 8 := Nat.le_of_ble_eq_true rfl
theorem mc_rriri {x0 : Nat} {x1 : Nat} {x2 : Int32} {x3 : Nat} {x4 : Int32} : mCat [.ref x0, .ref x1, .int x2, .ref x3, .int x4] ≤ 8 := Nat.le_of_ble_eq_true rfl
theorem mc_rrirr {x0 : Nat} {x1 : Nat} {x2 : Int32} {x3 : Nat} {x4 : Nat} : mCat [.ref x0, .ref x1, .int x2, .ref x3, .ref x4] ≤ 8 := Nat.le_of_ble_eq_true rfl
theorem mc_rrrii {x0 : Nat} {x1 : Nat} {x2 : Nat} {x3 : Int32} {x4 : Int32} : mCat [.ref x0, .ref x1, .ref x2, .int x3, .int x4] ≤ 8 := Nat.le_of_ble_eq_true rfl
theorem mc_rrrir {x0 : Nat} {x1 : Nat} {x2 : Nat} {x3 : Int32} {x4 : Nat} : mCat [.ref x0, .ref x1, .ref x2, .int x3, .ref x4] ≤ 8 := Nat.le_of_ble_eq_true rfl
theorem mc_rrrri {x0 : Nat} {x1 : Nat} {x2 : Nat} {x3 : Nat} {x4 : Int32} : mCat [.ref x0, .ref x1, .ref x2, .ref x3, .int x4] ≤ 8 := Nat.le_of_ble_eq_true rfl
theorem mc_rrrrr {x0 : Nat} {x1 : Nat} {x2 : Nat} {x3 : Nat} {x4 : Nat} : mCat [.ref x0, .ref x1, .ref x2, .ref x3, .ref x4] ≤ 8 := Nat.le_of_ble_eq_true rfl
def bI (P : Prop) [Decidable P] : Int32 := if P then 1 else 0
theorem bI_0 {P : Prop} [Decidable P] : (bI P = 0) = ¬ P := by
  unfold bI
  by_cases h : P <;> simp [h]
theorem bI_n0 {P : Prop} [Decidable P] : (¬ bI P = 0) = P := by
  unfold bI
  by_cases h : P <;> simp [h]
theorem bI_zo {P : Prop} [Decidable P] : mZO (bI P) = true := by
  unfold bI
  by_cases h : P <;> simp [h, mZO]
theorem bI_t {P : Prop} [Decidable P] (h : P) : bI P = 1 := if_pos h
theorem bI_f {P : Prop} [Decidable P] (h : ¬ P) : bI P = 0 := if_neg h
theorem mL1_i {x : Int32} : (mLong (some (.int x)) = false) = True := eq_self false
theorem mL1_r {x : Nat} : (mLong (some (.ref x)) = false) = True := eq_self false
theorem mL1_n : (mLong none = false) = True := eq_self false
def kT : List Nat := [19, 9, 7, 11, 8, 13, 14, 15, 11, 3, 3, 3, 3, 0, 0, 0, 0, 2, 16, 17, 6, 6, 6, 4, 4, 4, 4, 4, 4, 4, 4, 4, 4, 4, 4, 2, 16, 17, 6, 6, 6, 4, 4, 4, 4, 4, 4, 4, 4, 4, 4, 4, 4, 2, 16, 17, 6, 6, 6, 4, 4, 4, 4, 4, 4, 4, 4, 4, 4, 4, 4, 2, 16, 17, 6, 6, 6, 4, 4, 4, 4, 4, 4, 4, 4, 4, 4, 4, 4, 1, 11, 5, 18, 11, 11, 11, 11, 11, 11, 11, 11, 11, 1, 11, 11, 11, 11, 11, 11, 10, 11, 11, 11, 11, 11, 11, 11, 11, 11, 11, 11, 11, 11, 11, 11, 11, 11, 11, 11, 11, 11, 12, 12, 12, 11, 12, 11, 12]
def lT : List Nat := [0, 0, 0, 24, 0, 4, 4, 4, 4, 0, 0, 0, 0, 0, 0, 0, 0, 0, 3, 12, 0, 0, 0, 0, 0, 0, 0, 0, 0, 0, 0, 0, 0, 0, 0, 0, 3, 12, 0, 0, 0, 0, 0, 0, 0, 0, 0, 0, 0, 0, 0, 0, 0, 0, 3, 12, 0, 0, 0, 0, 0, 0, 0, 0, 0, 0, 0, 0, 0, 0, 0, 0, 3, 12, 0, 0, 0, 0, 0, 0, 0, 0, 0, 0, 0, 0, 0, 0, 0, 0, 12, 0, 9, 4, 4, 4, 4, 4, 4, 4, 4, 4, 0, 12, 4, 10, 24, 6, 4, 0, 24, 4, 4, 4, 4, 4, 4, 4, 4, 4, 4, 4, 4, 4, 4, 12, 12, 12, 12, 4, 192, 24, 10, 5, 24, 6, 4, 4]
def rT : List (Nat × Nat × Nat) := [(1, 0, 2), (1, 1, 4), (1, 2, 89), (1, 3, 91), (1, 4, 104), (1, 5, 105), (1, 6, 106), (1, 7, 107), (1, 8, 108), (2, 0, 3), (4, 0, 5), (4, 1, 6), (4, 2, 7), (4, 3, 8), (5, 0, 9), (5, 1, 10), (5, 2, 11), (5, 3, 12), (6, 0, 13), (6, 1, 14), (6, 2, 15), (6, 3, 16), (7, 0, 17), (17, 0, 18), (17, 1, 19), (18, 0, 20), (18, 1, 21), (18, 2, 22), (7, 1, 35), (35, 0, 36), (35, 1, 37), (36, 0, 38), (36, 1, 39), (36, 2, 40), (7, 2, 53), (53, 0, 54), (53, 1, 55), (54, 0, 56), (54, 1, 57), (54, 2, 58), (7, 3, 71), (71, 0, 72), (71, 1, 73), (72, 0, 74), (72, 1, 75), (72, 2, 76), (89, 0, 4), (89, 1, 90), (92, 0, 93), (92, 1, 94), (92, 2, 95), (92, 3, 96), (92, 4, 97), (92, 5, 98), (92, 6, 99), (92, 7, 100), (92, 8, 101), (102, 0, 4), (102, 1, 103), (91, 0, 102), (91, 1, 2), (91, 2, 92), (109, 2, 110), (109, 4, 111), (109, 5, 112), (109, 6, 113), (109, 7, 114), (109, 8, 115), (109, 10, 116), (109, 11, 117), (109, 12, 118), (109, 14, 119), (109, 15, 120), (109, 16, 121), (109, 17, 122), (109, 18, 123), (109, 19, 124), (109, 20, 125), (109, 21, 126), (109, 22, 127), (109, 23, 128), (109, 25, 129), (109, 26, 130), (109, 27, 131), (109, 28, 132), (109, 29, 133), (109, 31, 134), (109, 32, 135), (109, 33, 136), (109, 35, 137)]
def G (h : mM) : Prop := mN h = 138 ∧ (∀ a, 0 < a → a < 138 → mK h a = kT.getD a 0 ∧ (10 < kT.getD a 0 → mL h a = lT.getD a 0)) ∧ (∀ q ∈ rT, mR h q.1 q.2.1 = some q.2.2)
theorem gK_1 {h : mM} (g : G h) : mK h 1 = 9 := (g.2.1 1 (by decide) (by decide)).1
theorem gK_2 {h : mM} (g : G h) : mK h 2 = 7 := (g.2.1 2 (by decide) (by decide)).1
theorem gK_3 {h : mM} (g : G h) : mK h 3 = 11 := (g.2.1 3 (by decide) (by decide)).1
theorem gK_4 {h : mM} (g : G h) : mK h 4 = 8 := (g.2.1 4 (by decide) (by decide)).1
theorem gK_5 {h : mM} (g : G h) : mK h 5 = 13 := (g.2.1 5 (by decide) (by decide)).1
theorem gK_6 {h : mM} (g : G h) : mK h 6 = 14 := (g.2.1 6 (by decide) (by decide)).1
theorem gK_7 {h : mM} (g : G h) : mK h 7 = 15 := (g.2.1 7 (by decide) (by decide)).1
theorem gK_8 {h : mM} (g : G h) : mK h 8 = 11 := (g.2.1 8 (by decide) (by decide)).1
theorem gK_9 {h : mM} (g : G h) : mK h 9 = 3 := (g.2.1 9 (by decide) (by decide)).1
theorem gK_10 {h : mM} (g : G h) : mK h 10 = 3 := (g.2.1 10 (by decide) (by decide)).1
theorem gK_11 {h : mM} (g : G h) : mK h 11 = 3 := (g.2.1 11 (by decide) (by decide)).1
theorem gK_12 {h : mM} (g : G h) : mK h 12 = 3 := (g.2.1 12 (by decide) (by decide)).1
theorem gK_13 {h : mM} (g : G h) : mK h 13 = 0 := (g.2.1 13 (by decide) (by decide)).1
theorem gK_14 {h : mM} (g : G h) : mK h 14 = 0 := (g.2.1 14 (by decide) (by decide)).1
theorem gK_15 {h : mM} (g : G h) : mK h 15 = 0 := (g.2.1 15 (by decide) (by decide)).1
theorem gK_16 {h : mM} (g : G h) : mK h 16 = 0 := (g.2.1 16 (by decide) (by decide)).1
theorem gK_17 {h : mM} (g : G h) : mK h 17 = 2 := (g.2.1 17 (by decide) (by decide)).1
theorem gK_18 {h : mM} (g : G h) : mK h 18 = 16 := (g.2.1 18 (by decide) (by decide)).1
theorem gK_19 {h : mM} (g : G h) : mK h 19 = 17 := (g.2.1 19 (by decide) (by decide)).1
theorem gK_20 {h : mM} (g : G h) : mK h 20 = 6 := (g.2.1 20 (by decide) (by decide)).1
theorem gK_21 {h : mM} (g : G h) : mK h 21 = 6 := (g.2.1 21 (by decide) (by decide)).1
theorem gK_22 {h : mM} (g : G h) : mK h 22 = 6 := (g.2.1 22 (by decide) (by decide)).1
theorem gK_23 {h : mM} (g : G h) : mK h 23 = 4 := (g.2.1 23 (by decide) (by decide)).1
theorem gK_24 {h : mM} (g : G h) : mK h 24 = 4 := (g.2.1 24 (by decide) (by decide)).1
theorem gK_25 {h : mM} (g : G h) : mK h 25 = 4 := (g.2.1 25 (by decide) (by decide)).1
theorem gK_26 {h : mM} (g : G h) : mK h 26 = 4 := (g.2.1 26 (by decide) (by decide)).1
theorem gK_27 {h : mM} (g : G h) : mK h 27 = 4 := (g.2.1 27 (by decide) (by decide)).1
theorem gK_28 {h : mM} (g : G h) : mK h 28 = 4 := (g.2.1 28 (by decide) (by decide)).1
theorem gK_29 {h : mM} (g : G h) : mK h 29 = 4 := (g.2.1 29 (by decide) (by decide)).1
theorem gK_30 {h : mM} (g : G h) : mK h 30 = 4 := (g.2.1 30 (by decide) (by decide)).1
theorem gK_31 {h : mM} (g : G h) : mK h 31 = 4 := (g.2.1 31 (by decide) (by decide)).1
theorem gK_32 {h : mM} (g : G h) : mK h 32 = 4 := (g.2.1 32 (by decide) (by decide)).1
theorem gK_33 {h : mM} (g : G h) : mK h 33 = 4 := (g.2.1 33 (by decide) (by decide)).1
theorem gK_34 {h : mM} (g : G h) : mK h 34 = 4 := (g.2.1 34 (by decide) (by decide)).1
theorem gK_35 {h : mM} (g : G h) : mK h 35 = 2 := (g.2.1 35 (by decide) (by decide)).1
theorem gK_36 {h : mM} (g : G h) : mK h 36 = 16 := (g.2.1 36 (by decide) (by decide)).1
theorem gK_37 {h : mM} (g : G h) : mK h 37 = 17 := (g.2.1 37 (by decide) (by decide)).1
theorem gK_38 {h : mM} (g : G h) : mK h 38 = 6 := (g.2.1 38 (by decide) (by decide)).1
theorem gK_39 {h : mM} (g : G h) : mK h 39 = 6 := (g.2.1 39 (by decide) (by decide)).1
theorem gK_40 {h : mM} (g : G h) : mK h 40 = 6 := (g.2.1 40 (by decide) (by decide)).1
theorem gK_41 {h : mM} (g : G h) : mK h 41 = 4 := (g.2.1 41 (by decide) (by decide)).1
theorem gK_42 {h : mM} (g : G h) : mK h 42 = 4 := (g.2.1 42 (by decide) (by decide)).1
theorem gK_43 {h : mM} (g : G h) : mK h 43 = 4 := (g.2.1 43 (by decide) (by decide)).1
theorem gK_44 {h : mM} (g : G h) : mK h 44 = 4 := (g.2.1 44 (by decide) (by decide)).1
theorem gK_45 {h : mM} (g : G h) : mK h 45 = 4 := (g.2.1 45 (by decide) (by decide)).1
theorem gK_46 {h : mM} (g : G h) : mK h 46 = 4 := (g.2.1 46 (by decide) (by decide)).1
theorem gK_47 {h : mM} (g : G h) : mK h 47 = 4 := (g.2.1 47 (by decide) (by decide)).1
theorem gK_48 {h : mM} (g : G h) : mK h 48 = 4 := (g.2.1 48 (by decide) (by decide)).1
theorem gK_49 {h : mM} (g : G h) : mK h 49 = 4 := (g.2.1 49 (by decide) (by decide)).1
theorem gK_50 {h : mM} (g : G h) : mK h 50 = 4 := (g.2.1 50 (by decide) (by decide)).1
theorem gK_51 {h : mM} (g : G h) : mK h 51 = 4 := (g.2.1 51 (by decide) (by decide)).1
theorem gK_52 {h : mM} (g : G h) : mK h 52 = 4 := (g.2.1 52 (by decide) (by decide)).1
theorem gK_53 {h : mM} (g : G h) : mK h 53 = 2 := (g.2.1 53 (by decide) (by decide)).1
theorem gK_54 {h : mM} (g : G h) : mK h 54 = 16 := (g.2.1 54 (by decide) (by decide)).1
theorem gK_55 {h : mM} (g : G h) : mK h 55 = 17 := (g.2.1 55 (by decide) (by decide)).1
theorem gK_56 {h : mM} (g : G h) : mK h 56 = 6 := (g.2.1 56 (by decide) (by decide)).1
theorem gK_57 {h : mM} (g : G h) : mK h 57 = 6 := (g.2.1 57 (by decide) (by decide)).1
theorem gK_58 {h : mM} (g : G h) : mK h 58 = 6 := (g.2.1 58 (by decide) (by decide)).1
theorem gK_59 {h : mM} (g : G h) : mK h 59 = 4 := (g.2.1 59 (by decide) (by decide)).1
theorem gK_60 {h : mM} (g : G h) : mK h 60 = 4 := (g.2.1 60 (by decide) (by decide)).1
theorem gK_61 {h : mM} (g : G h) : mK h 61 = 4 := (g.2.1 61 (by decide) (by decide)).1
theorem gK_62 {h : mM} (g : G h) : mK h 62 = 4 := (g.2.1 62 (by decide) (by decide)).1
theorem gK_63 {h : mM} (g : G h) : mK h 63 = 4 := (g.2.1 63 (by decide) (by decide)).1
theorem gK_64 {h : mM} (g : G h) : mK h 64 = 4 := (g.2.1 64 (by decide) (by decide)).1
theorem gK_65 {h : mM} (g : G h) : mK h 65 = 4 := (g.2.1 65 (by decide) (by decide)).1
theorem gK_66 {h : mM} (g : G h) : mK h 66 = 4 := (g.2.1 66 (by decide) (by decide)).1
theorem gK_67 {h : mM} (g : G h) : mK h 67 = 4 := (g.2.1 67 (by decide) (by decide)).1
theorem gK_68 {h : mM} (g : G h) : mK h 68 = 4 := (g.2.1 68 (by decide) (by decide)).1
theorem gK_69 {h : mM} (g : G h) : mK h 69 = 4 := (g.2.1 69 (by decide) (by decide)).1
theorem gK_70 {h : mM} (g : G h) : mK h 70 = 4 := (g.2.1 70 (by decide) (by decide)).1
theorem gK_71 {h : mM} (g : G h) : mK h 71 = 2 := (g.2.1 71 (by decide) (by decide)).1
theorem gK_72 {h : mM} (g : G h) : mK h 72 = 16 := (g.2.1 72 (by decide) (by decide)).1
theorem gK_73 {h : mM} (g : G h) : mK h 73 = 17 := (g.2.1 73 (by decide) (by decide)).1
theorem gK_74 {h : mM} (g : G h) : mK h 74 = 6 := (g.2.1 74 (by decide) (by decide)).1
theorem gK_75 {h : mM} (g : G h) : mK h 75 = 6 := (g.2.1 75 (by decide) (by decide)).1
theorem gK_76 {h : mM} (g : G h) : mK h 76 = 6 := (g.2.1 76 (by decide) (by decide)).1
theorem gK_77 {h : mM} (g : G h) : mK h 77 = 4 := (g.2.1 77 (by decide) (by decide)).1
theorem gK_78 {h : mM} (g : G h) : mK h 78 = 4 := (g.2.1 78 (by decide) (by decide)).1
theorem gK_79 {h : mM} (g : G h) : mK h 79 = 4 := (g.2.1 79 (by decide) (by decide)).1
theorem gK_80 {h : mM} (g : G h) : mK h 80 = 4 := (g.2.1 80 (by decide) (by decide)).1
theorem gK_81 {h : mM} (g : G h) : mK h 81 = 4 := (g.2.1 81 (by decide) (by decide)).1
theorem gK_82 {h : mM} (g : G h) : mK h 82 = 4 := (g.2.1 82 (by decide) (by decide)).1
theorem gK_83 {h : mM} (g : G h) : mK h 83 = 4 := (g.2.1 83 (by decide) (by decide)).1
theorem gK_84 {h : mM} (g : G h) : mK h 84 = 4 := (g.2.1 84 (by decide) (by decide)).1
theorem gK_85 {h : mM} (g : G h) : mK h 85 = 4 := (g.2.1 85 (by decide) (by decide)).1
theorem gK_86 {h : mM} (g : G h) : mK h 86 = 4 := (g.2.1 86 (by decide) (by decide)).1
theorem gK_87 {h : mM} (g : G h) : mK h 87 = 4 := (g.2.1 87 (by decide) (by decide)).1
theorem gK_88 {h : mM} (g : G h) : mK h 88 = 4 := (g.2.1 88 (by decide) (by decide)).1
theorem gK_89 {h : mM} (g : G h) : mK h 89 = 1 := (g.2.1 89 (by decide) (by decide)).1
theorem gK_90 {h : mM} (g : G h) : mK h 90 = 11 := (g.2.1 90 (by decide) (by decide)).1
theorem gK_91 {h : mM} (g : G h) : mK h 91 = 5 := (g.2.1 91 (by decide) (by decide)).1
theorem gK_92 {h : mM} (g : G h) : mK h 92 = 18 := (g.2.1 92 (by decide) (by decide)).1
theorem gK_93 {h : mM} (g : G h) : mK h 93 = 11 := (g.2.1 93 (by decide) (by decide)).1
theorem gK_94 {h : mM} (g : G h) : mK h 94 = 11 := (g.2.1 94 (by decide) (by decide)).1
theorem gK_95 {h : mM} (g : G h) : mK h 95 = 11 := (g.2.1 95 (by decide) (by decide)).1
theorem gK_96 {h : mM} (g : G h) : mK h 96 = 11 := (g.2.1 96 (by decide) (by decide)).1
theorem gK_97 {h : mM} (g : G h) : mK h 97 = 11 := (g.2.1 97 (by decide) (by decide)).1
theorem gK_98 {h : mM} (g : G h) : mK h 98 = 11 := (g.2.1 98 (by decide) (by decide)).1
theorem gK_99 {h : mM} (g : G h) : mK h 99 = 11 := (g.2.1 99 (by decide) (by decide)).1
theorem gK_100 {h : mM} (g : G h) : mK h 100 = 11 := (g.2.1 100 (by decide) (by decide)).1
theorem gK_101 {h : mM} (g : G h) : mK h 101 = 11 := (g.2.1 101 (by decide) (by decide)).1
theorem gK_102 {h : mM} (g : G h) : mK h 102 = 1 := (g.2.1 102 (by decide) (by decide)).1
theorem gK_103 {h : mM} (g : G h) : mK h 103 = 11 := (g.2.1 103 (by decide) (by decide)).1
theorem gK_104 {h : mM} (g : G h) : mK h 104 = 11 := (g.2.1 104 (by decide) (by decide)).1
theorem gK_105 {h : mM} (g : G h) : mK h 105 = 11 := (g.2.1 105 (by decide) (by decide)).1
theorem gK_106 {h : mM} (g : G h) : mK h 106 = 11 := (g.2.1 106 (by decide) (by decide)).1
theorem gK_107 {h : mM} (g : G h) : mK h 107 = 11 := (g.2.1 107 (by decide) (by decide)).1
theorem gK_108 {h : mM} (g : G h) : mK h 108 = 11 := (g.2.1 108 (by decide) (by decide)).1
theorem gK_109 {h : mM} (g : G h) : mK h 109 = 10 := (g.2.1 109 (by decide) (by decide)).1
theorem gK_110 {h : mM} (g : G h) : mK h 110 = 11 := (g.2.1 110 (by decide) (by decide)).1
theorem gK_111 {h : mM} (g : G h) : mK h 111 = 11 := (g.2.1 111 (by decide) (by decide)).1
theorem gK_112 {h : mM} (g : G h) : mK h 112 = 11 := (g.2.1 112 (by decide) (by decide)).1
theorem gK_113 {h : mM} (g : G h) : mK h 113 = 11 := (g.2.1 113 (by decide) (by decide)).1
theorem gK_114 {h : mM} (g : G h) : mK h 114 = 11 := (g.2.1 114 (by decide) (by decide)).1
theorem gK_115 {h : mM} (g : G h) : mK h 115 = 11 := (g.2.1 115 (by decide) (by decide)).1
theorem gK_116 {h : mM} (g : G h) : mK h 116 = 11 := (g.2.1 116 (by decide) (by decide)).1
theorem gK_117 {h : mM} (g : G h) : mK h 117 = 11 := (g.2.1 117 (by decide) (by decide)).1
theorem gK_118 {h : mM} (g : G h) : mK h 118 = 11 := (g.2.1 118 (by decide) (by decide)).1
theorem gK_119 {h : mM} (g : G h) : mK h 119 = 11 := (g.2.1 119 (by decide) (by decide)).1
theorem gK_120 {h : mM} (g : G h) : mK h 120 = 11 := (g.2.1 120 (by decide) (by decide)).1
theorem gK_121 {h : mM} (g : G h) : mK h 121 = 11 := (g.2.1 121 (by decide) (by decide)).1
theorem gK_122 {h : mM} (g : G h) : mK h 122 = 11 := (g.2.1 122 (by decide) (by decide)).1
theorem gK_123 {h : mM} (g : G h) : mK h 123 = 11 := (g.2.1 123 (by decide) (by decide)).1
theorem gK_124 {h : mM} (g : G h) : mK h 124 = 11 := (g.2.1 124 (by decide) (by decide)).1
theorem gK_125 {h : mM} (g : G h) : mK h 125 = 11 := (g.2.1 125 (by decide) (by decide)).1
theorem gK_126 {h : mM} (g : G h) : mK h 126 = 11 := (g.2.1 126 (by decide) (by decide)).1
theorem gK_127 {h : mM} (g : G h) : mK h 127 = 11 := (g.2.1 127 (by decide) (by decide)).1
theorem gK_128 {h : mM} (g : G h) : mK h 128 = 11 := (g.2.1 128 (by decide) (by decide)).1
theorem gK_129 {h : mM} (g : G h) : mK h 129 = 11 := (g.2.1 129 (by decide) (by decide)).1
theorem gK_130 {h : mM} (g : G h) : mK h 130 = 11 := (g.2.1 130 (by decide) (by decide)).1
theorem gK_131 {h : mM} (g : G h) : mK h 131 = 12 := (g.2.1 131 (by decide) (by decide)).1
theorem gK_132 {h : mM} (g : G h) : mK h 132 = 12 := (g.2.1 132 (by decide) (by decide)).1
theorem gK_133 {h : mM} (g : G h) : mK h 133 = 12 := (g.2.1 133 (by decide) (by decide)).1
theorem gK_134 {h : mM} (g : G h) : mK h 134 = 11 := (g.2.1 134 (by decide) (by decide)).1
theorem gK_135 {h : mM} (g : G h) : mK h 135 = 12 := (g.2.1 135 (by decide) (by decide)).1
theorem gK_136 {h : mM} (g : G h) : mK h 136 = 11 := (g.2.1 136 (by decide) (by decide)).1
theorem gK_137 {h : mM} (g : G h) : mK h 137 = 12 := (g.2.1 137 (by decide) (by decide)).1
theorem gL_3 {h : mM} (g : G h) : mL h 3 = 24 := (g.2.1 3 (by decide) (by decide)).2 (by decide)
theorem gL_5 {h : mM} (g : G h) : mL h 5 = 4 := (g.2.1 5 (by decide) (by decide)).2 (by decide)
theorem gL_6 {h : mM} (g : G h) : mL h 6 = 4 := (g.2.1 6 (by decide) (by decide)).2 (by decide)
theorem gL_7 {h : mM} (g : G h) : mL h 7 = 4 := (g.2.1 7 (by decide) (by decide)).2 (by decide)
theorem gL_8 {h : mM} (g : G h) : mL h 8 = 4 := (g.2.1 8 (by decide) (by decide)).2 (by decide)
theorem gL_18 {h : mM} (g : G h) : mL h 18 = 3 := (g.2.1 18 (by decide) (by decide)).2 (by decide)
theorem gL_19 {h : mM} (g : G h) : mL h 19 = 12 := (g.2.1 19 (by decide) (by decide)).2 (by decide)
theorem gL_36 {h : mM} (g : G h) : mL h 36 = 3 := (g.2.1 36 (by decide) (by decide)).2 (by decide)
theorem gL_37 {h : mM} (g : G h) : mL h 37 = 12 := (g.2.1 37 (by decide) (by decide)).2 (by decide)
theorem gL_54 {h : mM} (g : G h) : mL h 54 = 3 := (g.2.1 54 (by decide) (by decide)).2 (by decide)
theorem gL_55 {h : mM} (g : G h) : mL h 55 = 12 := (g.2.1 55 (by decide) (by decide)).2 (by decide)
theorem gL_72 {h : mM} (g : G h) : mL h 72 = 3 := (g.2.1 72 (by decide) (by decide)).2 (by decide)
theorem gL_73 {h : mM} (g : G h) : mL h 73 = 12 := (g.2.1 73 (by decide) (by decide)).2 (by decide)
theorem gL_90 {h : mM} (g : G h) : mL h 90 = 12 := (g.2.1 90 (by decide) (by decide)).2 (by decide)
theorem gL_92 {h : mM} (g : G h) : mL h 92 = 9 := (g.2.1 92 (by decide) (by decide)).2 (by decide)
theorem gL_93 {h : mM} (g : G h) : mL h 93 = 4 := (g.2.1 93 (by decide) (by decide)).2 (by decide)
theorem gL_94 {h : mM} (g : G h) : mL h 94 = 4 := (g.2.1 94 (by decide) (by decide)).2 (by decide)
theorem gL_95 {h : mM} (g : G h) : mL h 95 = 4 := (g.2.1 95 (by decide) (by decide)).2 (by decide)
theorem gL_96 {h : mM} (g : G h) : mL h 96 = 4 := (g.2.1 96 (by decide) (by decide)).2 (by decide)
theorem gL_97 {h : mM} (g : G h) : mL h 97 = 4 := (g.2.1 97 (by decide) (by decide)).2 (by decide)
theorem gL_98 {h : mM} (g : G h) : mL h 98 = 4 := (g.2.1 98 (by decide) (by decide)).2 (by decide)
theorem gL_99 {h : mM} (g : G h) : mL h 99 = 4 := (g.2.1 99 (by decide) (by decide)).2 (by decide)
theorem gL_100 {h : mM} (g : G h) : mL h 100 = 4 := (g.2.1 100 (by decide) (by decide)).2 (by decide)
theorem gL_101 {h : mM} (g : G h) : mL h 101 = 4 := (g.2.1 101 (by decide) (by decide)).2 (by decide)
theorem gL_103 {h : mM} (g : G h) : mL h 103 = 12 := (g.2.1 103 (by decide) (by decide)).2 (by decide)
theorem gL_104 {h : mM} (g : G h) : mL h 104 = 4 := (g.2.1 104 (by decide) (by decide)).2 (by decide)
theorem gL_105 {h : mM} (g : G h) : mL h 105 = 10 := (g.2.1 105 (by decide) (by decide)).2 (by decide)
theorem gL_106 {h : mM} (g : G h) : mL h 106 = 24 := (g.2.1 106 (by decide) (by decide)).2 (by decide)
theorem gL_107 {h : mM} (g : G h) : mL h 107 = 6 := (g.2.1 107 (by decide) (by decide)).2 (by decide)
theorem gL_108 {h : mM} (g : G h) : mL h 108 = 4 := (g.2.1 108 (by decide) (by decide)).2 (by decide)
theorem gL_110 {h : mM} (g : G h) : mL h 110 = 24 := (g.2.1 110 (by decide) (by decide)).2 (by decide)
theorem gL_111 {h : mM} (g : G h) : mL h 111 = 4 := (g.2.1 111 (by decide) (by decide)).2 (by decide)
theorem gL_112 {h : mM} (g : G h) : mL h 112 = 4 := (g.2.1 112 (by decide) (by decide)).2 (by decide)
theorem gL_113 {h : mM} (g : G h) : mL h 113 = 4 := (g.2.1 113 (by decide) (by decide)).2 (by decide)
theorem gL_114 {h : mM} (g : G h) : mL h 114 = 4 := (g.2.1 114 (by decide) (by decide)).2 (by decide)
theorem gL_115 {h : mM} (g : G h) : mL h 115 = 4 := (g.2.1 115 (by decide) (by decide)).2 (by decide)
theorem gL_116 {h : mM} (g : G h) : mL h 116 = 4 := (g.2.1 116 (by decide) (by decide)).2 (by decide)
theorem gL_117 {h : mM} (g : G h) : mL h 117 = 4 := (g.2.1 117 (by decide) (by decide)).2 (by decide)
theorem gL_118 {h : mM} (g : G h) : mL h 118 = 4 := (g.2.1 118 (by decide) (by decide)).2 (by decide)
theorem gL_119 {h : mM} (g : G h) : mL h 119 = 4 := (g.2.1 119 (by decide) (by decide)).2 (by decide)
theorem gL_120 {h : mM} (g : G h) : mL h 120 = 4 := (g.2.1 120 (by decide) (by decide)).2 (by decide)
theorem gL_121 {h : mM} (g : G h) : mL h 121 = 4 := (g.2.1 121 (by decide) (by decide)).2 (by decide)
theorem gL_122 {h : mM} (g : G h) : mL h 122 = 4 := (g.2.1 122 (by decide) (by decide)).2 (by decide)
theorem gL_123 {h : mM} (g : G h) : mL h 123 = 4 := (g.2.1 123 (by decide) (by decide)).2 (by decide)
theorem gL_124 {h : mM} (g : G h) : mL h 124 = 4 := (g.2.1 124 (by decide) (by decide)).2 (by decide)
theorem gL_125 {h : mM} (g : G h) : mL h 125 = 12 := (g.2.1 125 (by decide) (by decide)).2 (by decide)
theorem gL_126 {h : mM} (g : G h) : mL h 126 = 12 := (g.2.1 126 (by decide) (by decide)).2 (by decide)
theorem gL_127 {h : mM} (g : G h) : mL h 127 = 12 := (g.2.1 127 (by decide) (by decide)).2 (by decide)
theorem gL_128 {h : mM} (g : G h) : mL h 128 = 12 := (g.2.1 128 (by decide) (by decide)).2 (by decide)
theorem gL_129 {h : mM} (g : G h) : mL h 129 = 4 := (g.2.1 129 (by decide) (by decide)).2 (by decide)
theorem gL_130 {h : mM} (g : G h) : mL h 130 = 192 := (g.2.1 130 (by decide) (by decide)).2 (by decide)
theorem gL_131 {h : mM} (g : G h) : mL h 131 = 24 := (g.2.1 131 (by decide) (by decide)).2 (by decide)
theorem gL_132 {h : mM} (g : G h) : mL h 132 = 10 := (g.2.1 132 (by decide) (by decide)).2 (by decide)
theorem gL_133 {h : mM} (g : G h) : mL h 133 = 5 := (g.2.1 133 (by decide) (by decide)).2 (by decide)
theorem gL_134 {h : mM} (g : G h) : mL h 134 = 24 := (g.2.1 134 (by decide) (by decide)).2 (by decide)
theorem gL_135 {h : mM} (g : G h) : mL h 135 = 6 := (g.2.1 135 (by decide) (by decide)).2 (by decide)
theorem gL_136 {h : mM} (g : G h) : mL h 136 = 4 := (g.2.1 136 (by decide) (by decide)).2 (by decide)
theorem gL_137 {h : mM} (g : G h) : mL h 137 = 4 := (g.2.1 137 (by decide) (by decide)).2 (by decide)
theorem gR_1_0 {h : mM} (g : G h) : mR h 1 0 = some 2 := g.2.2 (1, 0, 2) (by decide)
theorem gR_1_1 {h : mM} (g : G h) : mR h 1 1 = some 4 := g.2.2 (1, 1, 4) (by decide)
theorem gR_1_2 {h : mM} (g : G h) : mR h 1 2 = some 89 := g.2.2 (1, 2, 89) (by decide)
theorem gR_1_3 {h : mM} (g : G h) : mR h 1 3 = some 91 := g.2.2 (1, 3, 91) (by decide)
theorem gR_1_4 {h : mM} (g : G h) : mR h 1 4 = some 104 := g.2.2 (1, 4, 104) (by decide)
theorem gR_1_5 {h : mM} (g : G h) : mR h 1 5 = some 105 := g.2.2 (1, 5, 105) (by decide)
theorem gR_1_6 {h : mM} (g : G h) : mR h 1 6 = some 106 := g.2.2 (1, 6, 106) (by decide)
theorem gR_1_7 {h : mM} (g : G h) : mR h 1 7 = some 107 := g.2.2 (1, 7, 107) (by decide)
theorem gR_1_8 {h : mM} (g : G h) : mR h 1 8 = some 108 := g.2.2 (1, 8, 108) (by decide)
theorem gR_2_0 {h : mM} (g : G h) : mR h 2 0 = some 3 := g.2.2 (2, 0, 3) (by decide)
theorem gR_4_0 {h : mM} (g : G h) : mR h 4 0 = some 5 := g.2.2 (4, 0, 5) (by decide)
theorem gR_4_1 {h : mM} (g : G h) : mR h 4 1 = some 6 := g.2.2 (4, 1, 6) (by decide)
theorem gR_4_2 {h : mM} (g : G h) : mR h 4 2 = some 7 := g.2.2 (4, 2, 7) (by decide)
theorem gR_4_3 {h : mM} (g : G h) : mR h 4 3 = some 8 := g.2.2 (4, 3, 8) (by decide)
theorem gR_5_0 {h : mM} (g : G h) : mR h 5 0 = some 9 := g.2.2 (5, 0, 9) (by decide)
theorem gR_5_1 {h : mM} (g : G h) : mR h 5 1 = some 10 := g.2.2 (5, 1, 10) (by decide)
theorem gR_5_2 {h : mM} (g : G h) : mR h 5 2 = some 11 := g.2.2 (5, 2, 11) (by decide)
theorem gR_5_3 {h : mM} (g : G h) : mR h 5 3 = some 12 := g.2.2 (5, 3, 12) (by decide)
theorem gR_6_0 {h : mM} (g : G h) : mR h 6 0 = some 13 := g.2.2 (6, 0, 13) (by decide)
theorem gR_6_1 {h : mM} (g : G h) : mR h 6 1 = some 14 := g.2.2 (6, 1, 14) (by decide)
theorem gR_6_2 {h : mM} (g : G h) : mR h 6 2 = some 15 := g.2.2 (6, 2, 15) (by decide)
theorem gR_6_3 {h : mM} (g : G h) : mR h 6 3 = some 16 := g.2.2 (6, 3, 16) (by decide)
theorem gR_7_0 {h : mM} (g : G h) : mR h 7 0 = some 17 := g.2.2 (7, 0, 17) (by decide)
theorem gR_17_0 {h : mM} (g : G h) : mR h 17 0 = some 18 := g.2.2 (17, 0, 18) (by decide)
theorem gR_17_1 {h : mM} (g : G h) : mR h 17 1 = some 19 := g.2.2 (17, 1, 19) (by decide)
theorem gR_18_0 {h : mM} (g : G h) : mR h 18 0 = some 20 := g.2.2 (18, 0, 20) (by decide)
theorem gR_18_1 {h : mM} (g : G h) : mR h 18 1 = some 21 := g.2.2 (18, 1, 21) (by decide)
theorem gR_18_2 {h : mM} (g : G h) : mR h 18 2 = some 22 := g.2.2 (18, 2, 22) (by decide)
theorem gR_7_1 {h : mM} (g : G h) : mR h 7 1 = some 35 := g.2.2 (7, 1, 35) (by decide)
theorem gR_35_0 {h : mM} (g : G h) : mR h 35 0 = some 36 := g.2.2 (35, 0, 36) (by decide)
theorem gR_35_1 {h : mM} (g : G h) : mR h 35 1 = some 37 := g.2.2 (35, 1, 37) (by decide)
theorem gR_36_0 {h : mM} (g : G h) : mR h 36 0 = some 38 := g.2.2 (36, 0, 38) (by decide)
theorem gR_36_1 {h : mM} (g : G h) : mR h 36 1 = some 39 := g.2.2 (36, 1, 39) (by decide)
theorem gR_36_2 {h : mM} (g : G h) : mR h 36 2 = some 40 := g.2.2 (36, 2, 40) (by decide)
theorem gR_7_2 {h : mM} (g : G h) : mR h 7 2 = some 53 := g.2.2 (7, 2, 53) (by decide)
theorem gR_53_0 {h : mM} (g : G h) : mR h 53 0 = some 54 := g.2.2 (53, 0, 54) (by decide)
theorem gR_53_1 {h : mM} (g : G h) : mR h 53 1 = some 55 := g.2.2 (53, 1, 55) (by decide)
theorem gR_54_0 {h : mM} (g : G h) : mR h 54 0 = some 56 := g.2.2 (54, 0, 56) (by decide)
theorem gR_54_1 {h : mM} (g : G h) : mR h 54 1 = some 57 := g.2.2 (54, 1, 57) (by decide)
theorem gR_54_2 {h : mM} (g : G h) : mR h 54 2 = some 58 := g.2.2 (54, 2, 58) (by decide)
theorem gR_7_3 {h : mM} (g : G h) : mR h 7 3 = some 71 := g.2.2 (7, 3, 71) (by decide)
theorem gR_71_0 {h : mM} (g : G h) : mR h 71 0 = some 72 := g.2.2 (71, 0, 72) (by decide)
theorem gR_71_1 {h : mM} (g : G h) : mR h 71 1 = some 73 := g.2.2 (71, 1, 73) (by decide)
theorem gR_72_0 {h : mM} (g : G h) : mR h 72 0 = some 74 := g.2.2 (72, 0, 74) (by decide)
theorem gR_72_1 {h : mM} (g : G h) : mR h 72 1 = some 75 := g.2.2 (72, 1, 75) (by decide)
theorem gR_72_2 {h : mM} (g : G h) : mR h 72 2 = some 76 := g.2.2 (72, 2, 76) (by decide)
theorem gR_89_0 {h : mM} (g : G h) : mR h 89 0 = some 4 := g.2.2 (89, 0, 4) (by decide)
theorem gR_89_1 {h : mM} (g : G h) : mR h 89 1 = some 90 := g.2.2 (89, 1, 90) (by decide)
theorem gR_92_0 {h : mM} (g : G h) : mR h 92 0 = some 93 := g.2.2 (92, 0, 93) (by decide)
theorem gR_92_1 {h : mM} (g : G h) : mR h 92 1 = some 94 := g.2.2 (92, 1, 94) (by decide)
theorem gR_92_2 {h : mM} (g : G h) : mR h 92 2 = some 95 := g.2.2 (92, 2, 95) (by decide)
theorem gR_92_3 {h : mM} (g : G h) : mR h 92 3 = some 96 := g.2.2 (92, 3, 96) (by decide)
theorem gR_92_4 {h : mM} (g : G h) : mR h 92 4 = some 97 := g.2.2 (92, 4, 97) (by decide)
theorem gR_92_5 {h : mM} (g : G h) : mR h 92 5 = some 98 := g.2.2 (92, 5, 98) (by decide)
theorem gR_92_6 {h : mM} (g : G h) : mR h 92 6 = some 99 := g.2.2 (92, 6, 99) (by decide)
theorem gR_92_7 {h : mM} (g : G h) : mR h 92 7 = some 100 := g.2.2 (92, 7, 100) (by decide)
theorem gR_92_8 {h : mM} (g : G h) : mR h 92 8 = some 101 := g.2.2 (92, 8, 101) (by decide)
theorem gR_102_0 {h : mM} (g : G h) : mR h 102 0 = some 4 := g.2.2 (102, 0, 4) (by decide)
theorem gR_102_1 {h : mM} (g : G h) : mR h 102 1 = some 103 := g.2.2 (102, 1, 103) (by decide)
theorem gR_91_0 {h : mM} (g : G h) : mR h 91 0 = some 102 := g.2.2 (91, 0, 102) (by decide)
theorem gR_91_1 {h : mM} (g : G h) : mR h 91 1 = some 2 := g.2.2 (91, 1, 2) (by decide)
theorem gR_91_2 {h : mM} (g : G h) : mR h 91 2 = some 92 := g.2.2 (91, 2, 92) (by decide)
theorem gR_109_2 {h : mM} (g : G h) : mR h 109 2 = some 110 := g.2.2 (109, 2, 110) (by decide)
theorem gR_109_4 {h : mM} (g : G h) : mR h 109 4 = some 111 := g.2.2 (109, 4, 111) (by decide)
theorem gR_109_5 {h : mM} (g : G h) : mR h 109 5 = some 112 := g.2.2 (109, 5, 112) (by decide)
theorem gR_109_6 {h : mM} (g : G h) : mR h 109 6 = some 113 := g.2.2 (109, 6, 113) (by decide)
theorem gR_109_7 {h : mM} (g : G h) : mR h 109 7 = some 114 := g.2.2 (109, 7, 114) (by decide)
theorem gR_109_8 {h : mM} (g : G h) : mR h 109 8 = some 115 := g.2.2 (109, 8, 115) (by decide)
theorem gR_109_10 {h : mM} (g : G h) : mR h 109 10 = some 116 := g.2.2 (109, 10, 116) (by decide)
theorem gR_109_11 {h : mM} (g : G h) : mR h 109 11 = some 117 := g.2.2 (109, 11, 117) (by decide)
theorem gR_109_12 {h : mM} (g : G h) : mR h 109 12 = some 118 := g.2.2 (109, 12, 118) (by decide)
theorem gR_109_14 {h : mM} (g : G h) : mR h 109 14 = some 119 := g.2.2 (109, 14, 119) (by decide)
theorem gR_109_15 {h : mM} (g : G h) : mR h 109 15 = some 120 := g.2.2 (109, 15, 120) (by decide)
theorem gR_109_16 {h : mM} (g : G h) : mR h 109 16 = some 121 := g.2.2 (109, 16, 121) (by decide)
theorem gR_109_17 {h : mM} (g : G h) : mR h 109 17 = some 122 := g.2.2 (109, 17, 122) (by decide)
theorem gR_109_18 {h : mM} (g : G h) : mR h 109 18 = some 123 := g.2.2 (109, 18, 123) (by decide)
theorem gR_109_19 {h : mM} (g : G h) : mR h 109 19 = some 124 := g.2.2 (109, 19, 124) (by decide)
theorem gR_109_20 {h : mM} (g : G h) : mR h 109 20 = some 125 := g.2.2 (109, 20, 125) (by decide)
theorem gR_109_21 {h : mM} (g : G h) : mR h 109 21 = some 126 := g.2.2 (109, 21, 126) (by decide)
theorem gR_109_22 {h : mM} (g : G h) : mR h 109 22 = some 127 := g.2.2 (109, 22, 127) (by decide)
theorem gR_109_23 {h : mM} (g : G h) : mR h 109 23 = some 128 := g.2.2 (109, 23, 128) (by decide)
theorem gR_109_25 {h : mM} (g : G h) : mR h 109 25 = some 129 := g.2.2 (109, 25, 129) (by decide)
theorem gR_109_26 {h : mM} (g : G h) : mR h 109 26 = some 130 := g.2.2 (109, 26, 130) (by decide)
theorem gR_109_27 {h : mM} (g : G h) : mR h 109 27 = some 131 := g.2.2 (109, 27, 131) (by decide)
theorem gR_109_28 {h : mM} (g : G h) : mR h 109 28 = some 132 := g.2.2 (109, 28, 132) (by decide)
theorem gR_109_29 {h : mM} (g : G h) : mR h 109 29 = some 133 := g.2.2 (109, 29, 133) (by decide)
theorem gR_109_31 {h : mM} (g : G h) : mR h 109 31 = some 134 := g.2.2 (109, 31, 134) (by decide)
theorem gR_109_32 {h : mM} (g : G h) : mR h 109 32 = some 135 := g.2.2 (109, 32, 135) (by decide)
theorem gR_109_33 {h : mM} (g : G h) : mR h 109 33 = some 136 := g.2.2 (109, 33, 136) (by decide)
theorem gR_109_35 {h : mM} (g : G h) : mR h 109 35 = some 137 := g.2.2 (109, 35, 137) (by decide)
theorem gK_pond {h : mM} (g : G h) {p : Nat} (hp : p < 4) : mK h (9 + p) = 3 := by
  rcases (show p = 0 ∨ p = 1 ∨ p = 2 ∨ p = 3 by omega) with e | e | e | e <;> subst e
  · exact gK_9 g
  · exact gK_10 g
  · exact gK_11 g
  · exact gK_12 g
theorem gK_chan {h : mM} (g : G h) {p : Nat} (hp : p < 4) : mK h (13 + p) = 0 := by
  rcases (show p = 0 ∨ p = 1 ∨ p = 2 ∨ p = 3 by omega) with e | e | e | e <;> subst e
  · exact gK_13 g
  · exact gK_14 g
  · exact gK_15 g
  · exact gK_16 g
theorem gK_mill {h : mM} (g : G h) {p : Nat} (hp : p < 4) : mK h (17 + 18 * p) = 2 := by
  rcases (show p = 0 ∨ p = 1 ∨ p = 2 ∨ p = 3 by omega) with e | e | e | e <;> subst e
  · exact gK_17 g
  · exact gK_35 g
  · exact gK_53 g
  · exact gK_71 g
theorem gK_sto {h : mM} (g : G h) {p : Nat} (hp : p < 4) : mK h (18 + 18 * p) = 16 := by
  rcases (show p = 0 ∨ p = 1 ∨ p = 2 ∨ p = 3 by omega) with e | e | e | e <;> subst e
  · exact gK_18 g
  · exact gK_36 g
  · exact gK_54 g
  · exact gK_72 g
theorem gK_sac {h : mM} (g : G h) {p : Nat} (hp : p < 4) : mK h (19 + 18 * p) = 17 := by
  rcases (show p = 0 ∨ p = 1 ∨ p = 2 ∨ p = 3 by omega) with e | e | e | e <;> subst e
  · exact gK_19 g
  · exact gK_37 g
  · exact gK_55 g
  · exact gK_73 g
theorem gL_sto {h : mM} (g : G h) {p : Nat} (hp : p < 4) : mL h (18 + 18 * p) = 3 := by
  rcases (show p = 0 ∨ p = 1 ∨ p = 2 ∨ p = 3 by omega) with e | e | e | e <;> subst e
  · exact gL_18 g
  · exact gL_36 g
  · exact gL_54 g
  · exact gL_72 g
theorem gL_sac {h : mM} (g : G h) {p : Nat} (hp : p < 4) : mL h (19 + 18 * p) = 12 := by
  rcases (show p = 0 ∨ p = 1 ∨ p = 2 ∨ p = 3 by omega) with e | e | e | e <;> subst e
  · exact gL_19 g
  · exact gL_37 g
  · exact gL_55 g
  · exact gL_73 g
theorem gR_pond {h : mM} (g : G h) {p : Nat} (hp : p < 4) : mR h 5 p = some (9 + p) := by
  rcases (show p = 0 ∨ p = 1 ∨ p = 2 ∨ p = 3 by omega) with e | e | e | e <;> subst e
  · exact gR_5_0 g
  · exact gR_5_1 g
  · exact gR_5_2 g
  · exact gR_5_3 g
theorem gR_chan {h : mM} (g : G h) {p : Nat} (hp : p < 4) : mR h 6 p = some (13 + p) := by
  rcases (show p = 0 ∨ p = 1 ∨ p = 2 ∨ p = 3 by omega) with e | e | e | e <;> subst e
  · exact gR_6_0 g
  · exact gR_6_1 g
  · exact gR_6_2 g
  · exact gR_6_3 g
theorem gR_mill {h : mM} (g : G h) {p : Nat} (hp : p < 4) : mR h 7 p = some (17 + 18 * p) := by
  rcases (show p = 0 ∨ p = 1 ∨ p = 2 ∨ p = 3 by omega) with e | e | e | e <;> subst e
  · exact gR_7_0 g
  · exact gR_7_1 g
  · exact gR_7_2 g
  · exact gR_7_3 g
theorem gR_grid {h : mM} (g : G h) {p : Nat} (hp : p < 9) : mR h 92 p = some (93 + p) := by
  rcases (show p = 0 ∨ p = 1 ∨ p = 2 ∨ p = 3 ∨ p = 4 ∨ p = 5 ∨ p = 6 ∨ p = 7 ∨ p = 8 by omega) with e | e | e | e | e | e | e | e | e <;> subst e
  · exact gR_92_0 g
  · exact gR_92_1 g
  · exact gR_92_2 g
  · exact gR_92_3 g
  · exact gR_92_4 g
  · exact gR_92_5 g
  · exact gR_92_6 g
  · exact gR_92_7 g
  · exact gR_92_8 g
theorem gR_sto {h : mM} (g : G h) {p : Nat} (hp : p < 4) : mR h (17 + 18 * p) 0 = some (18 + 18 * p) := by
  rcases (show p = 0 ∨ p = 1 ∨ p = 2 ∨ p = 3 by omega) with e | e | e | e <;> subst e
  · exact gR_17_0 g
  · exact gR_35_0 g
  · exact gR_53_0 g
  · exact gR_71_0 g
theorem gR_sac {h : mM} (g : G h) {p : Nat} (hp : p < 4) : mR h (17 + 18 * p) 1 = some (19 + 18 * p) := by
  rcases (show p = 0 ∨ p = 1 ∨ p = 2 ∨ p = 3 by omega) with e | e | e | e <;> subst e
  · exact gR_17_1 g
  · exact gR_35_1 g
  · exact gR_53_1 g
  · exact gR_71_1 g
theorem gR_stone {h : mM} (g : G h) {p s : Nat} (hp : p < 4) (hs : s < 3) : mR h (18 + 18 * p) s = some (20 + 18 * p + s) := by
  rcases (show p = 0 ∨ p = 1 ∨ p = 2 ∨ p = 3 by omega) with e | e | e | e <;> subst e <;> rcases (show s = 0 ∨ s = 1 ∨ s = 2 by omega) with e | e | e <;> subst e
  · exact gR_18_0 g
  · exact gR_18_1 g
  · exact gR_18_2 g
  · exact gR_36_0 g
  · exact gR_36_1 g
  · exact gR_36_2 g
  · exact gR_54_0 g
  · exact gR_54_1 g
  · exact gR_54_2 g
  · exact gR_72_0 g
  · exact gR_72_1 g
  · exact gR_72_2 g
theorem gK_stone {h : mM} (g : G h) {p s : Nat} (hp : p < 4) (hs : s < 3) : mK h (20 + 18 * p + s) = 6 := by
  rcases (show p = 0 ∨ p = 1 ∨ p = 2 ∨ p = 3 by omega) with e | e | e | e <;> subst e <;> rcases (show s = 0 ∨ s = 1 ∨ s = 2 by omega) with e | e | e <;> subst e
  · exact gK_20 g
  · exact gK_21 g
  · exact gK_22 g
  · exact gK_38 g
  · exact gK_39 g
  · exact gK_40 g
  · exact gK_56 g
  · exact gK_57 g
  · exact gK_58 g
  · exact gK_74 g
  · exact gK_75 g
  · exact gK_76 g
theorem gK_grid {h : mM} (g : G h) {p : Nat} (hp : p < 9) : mK h (93 + p) = 11 := by
  rcases (show p = 0 ∨ p = 1 ∨ p = 2 ∨ p = 3 ∨ p = 4 ∨ p = 5 ∨ p = 6 ∨ p = 7 ∨ p = 8 by omega) with e | e | e | e | e | e | e | e | e <;> subst e
  · exact gK_93 g
  · exact gK_94 g
  · exact gK_95 g
  · exact gK_96 g
  · exact gK_97 g
  · exact gK_98 g
  · exact gK_99 g
  · exact gK_100 g
  · exact gK_101 g
theorem gL_grid {h : mM} (g : G h) {p : Nat} (hp : p < 9) : mL h (93 + p) = 4 := by
  rcases (show p = 0 ∨ p = 1 ∨ p = 2 ∨ p = 3 ∨ p = 4 ∨ p = 5 ∨ p = 6 ∨ p = 7 ∨ p = 8 by omega) with e | e | e | e | e | e | e | e | e <;> subst e
  · exact gL_93 g
  · exact gL_94 g
  · exact gL_95 g
  · exact gL_96 g
  · exact gL_97 g
  · exact gL_98 g
  · exact gL_99 g
  · exact gL_100 g
  · exact gL_101 g
theorem gK_sack {h : mM} (g : G h) {p s : Nat} (hp : p < 4) (hs : s < 12) : mK h (23 + 18 * p + s) = 4 := by
  rcases (show p = 0 ∨ p = 1 ∨ p = 2 ∨ p = 3 by omega) with e | e | e | e <;> subst e <;> rcases (show s = 0 ∨ s = 1 ∨ s = 2 ∨ s = 3 ∨ s = 4 ∨ s = 5 ∨ s = 6 ∨ s = 7 ∨ s = 8 ∨ s = 9 ∨ s = 10 ∨ s = 11 by omega) with e | e | e | e | e | e | e | e | e | e | e | e <;> subst e
  · exact gK_23 g
  · exact gK_24 g
  · exact gK_25 g
  · exact gK_26 g
  · exact gK_27 g
  · exact gK_28 g
  · exact gK_29 g
  · exact gK_30 g
  · exact gK_31 g
  · exact gK_32 g
  · exact gK_33 g
  · exact gK_34 g
  · exact gK_41 g
  · exact gK_42 g
  · exact gK_43 g
  · exact gK_44 g
  · exact gK_45 g
  · exact gK_46 g
  · exact gK_47 g
  · exact gK_48 g
  · exact gK_49 g
  · exact gK_50 g
  · exact gK_51 g
  · exact gK_52 g
  · exact gK_59 g
  · exact gK_60 g
  · exact gK_61 g
  · exact gK_62 g
  · exact gK_63 g
  · exact gK_64 g
  · exact gK_65 g
  · exact gK_66 g
  · exact gK_67 g
  · exact gK_68 g
  · exact gK_69 g
  · exact gK_70 g
  · exact gK_77 g
  · exact gK_78 g
  · exact gK_79 g
  · exact gK_80 g
  · exact gK_81 g
  · exact gK_82 g
  · exact gK_83 g
  · exact gK_84 g
  · exact gK_85 g
  · exact gK_86 g
  · exact gK_87 g
  · exact gK_88 g
theorem G.wI {h : mM} {a k : Nat} {v : Int32} (g : G h) : G (wI h a k v) := g
theorem G.wJ {h : mM} {a k : Nat} {v : Int64} (g : G h) : G (wJ h a k v) := g
theorem G.wC {h : mM} {a b sp dp n : Nat} (g : G h) : G (wC h a b sp dp n) := g
