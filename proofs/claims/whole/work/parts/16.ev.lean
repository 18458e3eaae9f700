-- decode rows and equations, by gen_ev.py
-- 78: Model.<init>
theorem cd_78 : cd 78 = prog_12_method_1_code := rfl
theorem d_78_0 : decode (cd 78) 0 = .ok (.aload_n 0, 1) := by rw [cd_78]; decide +kernel
theorem e_78_0 {d : Nat} {h : mM} {T : mLs} {x : Nat} {st : List Value} : ev d 78 0 ( some (.ref x) :: T) st h = ev d 78 1 ( some (.ref x) :: T) (.ref x :: st) h := ev_of d_78_0 rfl
theorem d_78_1 : decode (cd 78) 1 = .ok (.invokespecial 3, 3) := by rw [cd_78]; decide +kernel
theorem e_78_1 {d : Nat} {h : mM} {L : mLs} {st : List Value} {a : Nat} (hc : mCat st ≤ 8) : ev d 78 1 L (.ref a :: st) h = ev d 78 4 L st h := ev_obj (mj := 0) d_78_1 (by decide +kernel) hc
theorem d_78_4 : decode (cd 78) 4 = .ok (.aload_n 0, 1) := by rw [cd_78]; decide +kernel
theorem e_78_4 {d : Nat} {h : mM} {T : mLs} {x : Nat} {st : List Value} : ev d 78 4 ( some (.ref x) :: T) st h = ev d 78 5 ( some (.ref x) :: T) (.ref x :: st) h := ev_of d_78_4 rfl
theorem d_78_5 : decode (cd 78) 5 = .ok (.bipush 12, 2) := by rw [cd_78]; decide +kernel
theorem e_78_5 {d : Nat} {h : mM} {L : mLs} {st : List Value} : ev d 78 5 L st h = ev d 78 7 L (.int 12 :: st) h := ev_of d_78_5 rfl
theorem d_78_7 : decode (cd 78) 7 = .ok (.putfield 9, 3) := by rw [cd_78]; decide +kernel
theorem e_78_7 {d : Nat} {h : mM} {L : mLs} {st : List Value} {a : Nat} {v : Int32} : ev d 78 7 L (.int v :: .ref a :: st) h = if mK h a = 10 then ev d 78 10 L st (wI h a 1 v) else none := ev_pI d_78_7 (by decide +kernel) (by decide +kernel) (by decide +kernel)
theorem d_78_10 : decode (cd 78) 10 = .ok (.aload_n 0, 1) := by rw [cd_78]; decide +kernel
theorem e_78_10 {d : Nat} {h : mM} {T : mLs} {x : Nat} {st : List Value} : ev d 78 10 ( some (.ref x) :: T) st h = ev d 78 11 ( some (.ref x) :: T) (.ref x :: st) h := ev_of d_78_10 rfl
theorem d_78_11 : decode (cd 78) 11 = .ok (.bipush 24, 2) := by rw [cd_78]; decide +kernel
theorem e_78_11 {d : Nat} {h : mM} {L : mLs} {st : List Value} : ev d 78 11 L st h = ev d 78 13 L (.int 24 :: st) h := ev_of d_78_11 rfl
theorem d_78_13 : decode (cd 78) 13 = .ok (.newarray .int, 2) := by rw [cd_78]; decide +kernel
theorem e_78_13 {d : Nat} {h : mM} {L : mLs} {st : List Value} {n : Int32} (hn : ¬ n < 0) (h1 : n.toNatClampNeg ≤ 1000) : ev d 78 13 L (.int n :: st) h = ev d 78 15 L (.ref (mN h) :: st) (wN h 11 n.toNatClampNeg) := ev_na d_78_13 (by decide) hn h1
theorem d_78_15 : decode (cd 78) 15 = .ok (.putfield 13, 3) := by rw [cd_78]; decide +kernel
theorem e_78_15 {d : Nat} {h : mM} {L : mLs} {st : List Value} {a b : Nat} : ev d 78 15 L (.ref b :: .ref a :: st) h = if mK h a = 10 then ev d 78 18 L st (wR h a 2 (some b)) else none := ev_pR d_78_15 (by decide +kernel) (by decide +kernel) (by decide +kernel)
theorem d_78_18 : decode (cd 78) 18 = .ok (.aload_n 0, 1) := by rw [cd_78]; decide +kernel
theorem e_78_18 {d : Nat} {h : mM} {T : mLs} {x : Nat} {st : List Value} : ev d 78 18 ( some (.ref x) :: T) st h = ev d 78 19 ( some (.ref x) :: T) (.ref x :: st) h := ev_of d_78_18 rfl
theorem d_78_19 : decode (cd 78) 19 = .ok (.iconst 4, 1) := by rw [cd_78]; decide +kernel
theorem e_78_19 {d : Nat} {h : mM} {L : mLs} {st : List Value} : ev d 78 19 L st h = ev d 78 20 L (.int 4 :: st) h := ev_of d_78_19 rfl
theorem d_78_20 : decode (cd 78) 20 = .ok (.newarray .int, 2) := by rw [cd_78]; decide +kernel
theorem e_78_20 {d : Nat} {h : mM} {L : mLs} {st : List Value} {n : Int32} (hn : ¬ n < 0) (h1 : n.toNatClampNeg ≤ 1000) : ev d 78 20 L (.int n :: st) h = ev d 78 22 L (.ref (mN h) :: st) (wN h 11 n.toNatClampNeg) := ev_na d_78_20 (by decide) hn h1
theorem d_78_22 : decode (cd 78) 22 = .ok (.putfield 17, 3) := by rw [cd_78]; decide +kernel
theorem e_78_22 {d : Nat} {h : mM} {L : mLs} {st : List Value} {a b : Nat} : ev d 78 22 L (.ref b :: .ref a :: st) h = if mK h a = 10 then ev d 78 25 L st (wR h a 4 (some b)) else none := ev_pR d_78_22 (by decide +kernel) (by decide +kernel) (by decide +kernel)
theorem d_78_25 : decode (cd 78) 25 = .ok (.aload_n 0, 1) := by rw [cd_78]; decide +kernel
theorem e_78_25 {d : Nat} {h : mM} {T : mLs} {x : Nat} {st : List Value} : ev d 78 25 ( some (.ref x) :: T) st h = ev d 78 26 ( some (.ref x) :: T) (.ref x :: st) h := ev_of d_78_25 rfl
theorem d_78_26 : decode (cd 78) 26 = .ok (.iconst 4, 1) := by rw [cd_78]; decide +kernel
theorem e_78_26 {d : Nat} {h : mM} {L : mLs} {st : List Value} : ev d 78 26 L st h = ev d 78 27 L (.int 4 :: st) h := ev_of d_78_26 rfl
theorem d_78_27 : decode (cd 78) 27 = .ok (.newarray .int, 2) := by rw [cd_78]; decide +kernel
theorem e_78_27 {d : Nat} {h : mM} {L : mLs} {st : List Value} {n : Int32} (hn : ¬ n < 0) (h1 : n.toNatClampNeg ≤ 1000) : ev d 78 27 L (.int n :: st) h = ev d 78 29 L (.ref (mN h) :: st) (wN h 11 n.toNatClampNeg) := ev_na d_78_27 (by decide) hn h1
theorem d_78_29 : decode (cd 78) 29 = .ok (.putfield 20, 3) := by rw [cd_78]; decide +kernel
theorem e_78_29 {d : Nat} {h : mM} {L : mLs} {st : List Value} {a b : Nat} : ev d 78 29 L (.ref b :: .ref a :: st) h = if mK h a = 10 then ev d 78 32 L st (wR h a 5 (some b)) else none := ev_pR d_78_29 (by decide +kernel) (by decide +kernel) (by decide +kernel)
theorem d_78_32 : decode (cd 78) 32 = .ok (.aload_n 0, 1) := by rw [cd_78]; decide +kernel
theorem e_78_32 {d : Nat} {h : mM} {T : mLs} {x : Nat} {st : List Value} : ev d 78 32 ( some (.ref x) :: T) st h = ev d 78 33 ( some (.ref x) :: T) (.ref x :: st) h := ev_of d_78_32 rfl
theorem d_78_33 : decode (cd 78) 33 = .ok (.iconst 4, 1) := by rw [cd_78]; decide +kernel
theorem e_78_33 {d : Nat} {h : mM} {L : mLs} {st : List Value} : ev d 78 33 L st h = ev d 78 34 L (.int 4 :: st) h := ev_of d_78_33 rfl
theorem d_78_34 : decode (cd 78) 34 = .ok (.newarray .int, 2) := by rw [cd_78]; decide +kernel
theorem e_78_34 {d : Nat} {h : mM} {L : mLs} {st : List Value} {n : Int32} (hn : ¬ n < 0) (h1 : n.toNatClampNeg ≤ 1000) : ev d 78 34 L (.int n :: st) h = ev d 78 36 L (.ref (mN h) :: st) (wN h 11 n.toNatClampNeg) := ev_na d_78_34 (by decide) hn h1
theorem d_78_36 : decode (cd 78) 36 = .ok (.putfield 23, 3) := by rw [cd_78]; decide +kernel
theorem e_78_36 {d : Nat} {h : mM} {L : mLs} {st : List Value} {a b : Nat} : ev d 78 36 L (.ref b :: .ref a :: st) h = if mK h a = 10 then ev d 78 39 L st (wR h a 6 (some b)) else none := ev_pR d_78_36 (by decide +kernel) (by decide +kernel) (by decide +kernel)
theorem d_78_39 : decode (cd 78) 39 = .ok (.aload_n 0, 1) := by rw [cd_78]; decide +kernel
theorem e_78_39 {d : Nat} {h : mM} {T : mLs} {x : Nat} {st : List Value} : ev d 78 39 ( some (.ref x) :: T) st h = ev d 78 40 ( some (.ref x) :: T) (.ref x :: st) h := ev_of d_78_39 rfl
theorem d_78_40 : decode (cd 78) 40 = .ok (.iconst 4, 1) := by rw [cd_78]; decide +kernel
theorem e_78_40 {d : Nat} {h : mM} {L : mLs} {st : List Value} : ev d 78 40 L st h = ev d 78 41 L (.int 4 :: st) h := ev_of d_78_40 rfl
theorem d_78_41 : decode (cd 78) 41 = .ok (.newarray .int, 2) := by rw [cd_78]; decide +kernel
theorem e_78_41 {d : Nat} {h : mM} {L : mLs} {st : List Value} {n : Int32} (hn : ¬ n < 0) (h1 : n.toNatClampNeg ≤ 1000) : ev d 78 41 L (.int n :: st) h = ev d 78 43 L (.ref (mN h) :: st) (wN h 11 n.toNatClampNeg) := ev_na d_78_41 (by decide) hn h1
theorem d_78_43 : decode (cd 78) 43 = .ok (.putfield 26, 3) := by rw [cd_78]; decide +kernel
theorem e_78_43 {d : Nat} {h : mM} {L : mLs} {st : List Value} {a b : Nat} : ev d 78 43 L (.ref b :: .ref a :: st) h = if mK h a = 10 then ev d 78 46 L st (wR h a 7 (some b)) else none := ev_pR d_78_43 (by decide +kernel) (by decide +kernel) (by decide +kernel)
theorem d_78_46 : decode (cd 78) 46 = .ok (.aload_n 0, 1) := by rw [cd_78]; decide +kernel
theorem e_78_46 {d : Nat} {h : mM} {T : mLs} {x : Nat} {st : List Value} : ev d 78 46 ( some (.ref x) :: T) st h = ev d 78 47 ( some (.ref x) :: T) (.ref x :: st) h := ev_of d_78_46 rfl
theorem d_78_47 : decode (cd 78) 47 = .ok (.iconst 4, 1) := by rw [cd_78]; decide +kernel
theorem e_78_47 {d : Nat} {h : mM} {L : mLs} {st : List Value} : ev d 78 47 L st h = ev d 78 48 L (.int 4 :: st) h := ev_of d_78_47 rfl
theorem d_78_48 : decode (cd 78) 48 = .ok (.newarray .int, 2) := by rw [cd_78]; decide +kernel
theorem e_78_48 {d : Nat} {h : mM} {L : mLs} {st : List Value} {n : Int32} (hn : ¬ n < 0) (h1 : n.toNatClampNeg ≤ 1000) : ev d 78 48 L (.int n :: st) h = ev d 78 50 L (.ref (mN h) :: st) (wN h 11 n.toNatClampNeg) := ev_na d_78_48 (by decide) hn h1
theorem d_78_50 : decode (cd 78) 50 = .ok (.putfield 29, 3) := by rw [cd_78]; decide +kernel
theorem e_78_50 {d : Nat} {h : mM} {L : mLs} {st : List Value} {a b : Nat} : ev d 78 50 L (.ref b :: .ref a :: st) h = if mK h a = 10 then ev d 78 53 L st (wR h a 8 (some b)) else none := ev_pR d_78_50 (by decide +kernel) (by decide +kernel) (by decide +kernel)
theorem d_78_53 : decode (cd 78) 53 = .ok (.aload_n 0, 1) := by rw [cd_78]; decide +kernel
theorem e_78_53 {d : Nat} {h : mM} {T : mLs} {x : Nat} {st : List Value} : ev d 78 53 ( some (.ref x) :: T) st h = ev d 78 54 ( some (.ref x) :: T) (.ref x :: st) h := ev_of d_78_53 rfl
theorem d_78_54 : decode (cd 78) 54 = .ok (.iconst 4, 1) := by rw [cd_78]; decide +kernel
theorem e_78_54 {d : Nat} {h : mM} {L : mLs} {st : List Value} : ev d 78 54 L st h = ev d 78 55 L (.int 4 :: st) h := ev_of d_78_54 rfl
theorem d_78_55 : decode (cd 78) 55 = .ok (.newarray .int, 2) := by rw [cd_78]; decide +kernel
theorem e_78_55 {d : Nat} {h : mM} {L : mLs} {st : List Value} {n : Int32} (hn : ¬ n < 0) (h1 : n.toNatClampNeg ≤ 1000) : ev d 78 55 L (.int n :: st) h = ev d 78 57 L (.ref (mN h) :: st) (wN h 11 n.toNatClampNeg) := ev_na d_78_55 (by decide) hn h1
theorem d_78_57 : decode (cd 78) 57 = .ok (.putfield 32, 3) := by rw [cd_78]; decide +kernel
theorem e_78_57 {d : Nat} {h : mM} {L : mLs} {st : List Value} {a b : Nat} : ev d 78 57 L (.ref b :: .ref a :: st) h = if mK h a = 10 then ev d 78 60 L st (wR h a 10 (some b)) else none := ev_pR d_78_57 (by decide +kernel) (by decide +kernel) (by decide +kernel)
theorem d_78_60 : decode (cd 78) 60 = .ok (.aload_n 0, 1) := by rw [cd_78]; decide +kernel
theorem e_78_60 {d : Nat} {h : mM} {T : mLs} {x : Nat} {st : List Value} : ev d 78 60 ( some (.ref x) :: T) st h = ev d 78 61 ( some (.ref x) :: T) (.ref x :: st) h := ev_of d_78_60 rfl
theorem d_78_61 : decode (cd 78) 61 = .ok (.iconst 4, 1) := by rw [cd_78]; decide +kernel
theorem e_78_61 {d : Nat} {h : mM} {L : mLs} {st : List Value} : ev d 78 61 L st h = ev d 78 62 L (.int 4 :: st) h := ev_of d_78_61 rfl
theorem d_78_62 : decode (cd 78) 62 = .ok (.newarray .int, 2) := by rw [cd_78]; decide +kernel
theorem e_78_62 {d : Nat} {h : mM} {L : mLs} {st : List Value} {n : Int32} (hn : ¬ n < 0) (h1 : n.toNatClampNeg ≤ 1000) : ev d 78 62 L (.int n :: st) h = ev d 78 64 L (.ref (mN h) :: st) (wN h 11 n.toNatClampNeg) := ev_na d_78_62 (by decide) hn h1
theorem d_78_64 : decode (cd 78) 64 = .ok (.putfield 35, 3) := by rw [cd_78]; decide +kernel
theorem e_78_64 {d : Nat} {h : mM} {L : mLs} {st : List Value} {a b : Nat} : ev d 78 64 L (.ref b :: .ref a :: st) h = if mK h a = 10 then ev d 78 67 L st (wR h a 11 (some b)) else none := ev_pR d_78_64 (by decide +kernel) (by decide +kernel) (by decide +kernel)
theorem d_78_67 : decode (cd 78) 67 = .ok (.aload_n 0, 1) := by rw [cd_78]; decide +kernel
theorem e_78_67 {d : Nat} {h : mM} {T : mLs} {x : Nat} {st : List Value} : ev d 78 67 ( some (.ref x) :: T) st h = ev d 78 68 ( some (.ref x) :: T) (.ref x :: st) h := ev_of d_78_67 rfl
theorem d_78_68 : decode (cd 78) 68 = .ok (.iconst 4, 1) := by rw [cd_78]; decide +kernel
theorem e_78_68 {d : Nat} {h : mM} {L : mLs} {st : List Value} : ev d 78 68 L st h = ev d 78 69 L (.int 4 :: st) h := ev_of d_78_68 rfl
theorem d_78_69 : decode (cd 78) 69 = .ok (.newarray .int, 2) := by rw [cd_78]; decide +kernel
theorem e_78_69 {d : Nat} {h : mM} {L : mLs} {st : List Value} {n : Int32} (hn : ¬ n < 0) (h1 : n.toNatClampNeg ≤ 1000) : ev d 78 69 L (.int n :: st) h = ev d 78 71 L (.ref (mN h) :: st) (wN h 11 n.toNatClampNeg) := ev_na d_78_69 (by decide) hn h1
theorem d_78_71 : decode (cd 78) 71 = .ok (.putfield 38, 3) := by rw [cd_78]; decide +kernel
theorem e_78_71 {d : Nat} {h : mM} {L : mLs} {st : List Value} {a b : Nat} : ev d 78 71 L (.ref b :: .ref a :: st) h = if mK h a = 10 then ev d 78 74 L st (wR h a 12 (some b)) else none := ev_pR d_78_71 (by decide +kernel) (by decide +kernel) (by decide +kernel)
theorem d_78_74 : decode (cd 78) 74 = .ok (.aload_n 0, 1) := by rw [cd_78]; decide +kernel
theorem e_78_74 {d : Nat} {h : mM} {T : mLs} {x : Nat} {st : List Value} : ev d 78 74 ( some (.ref x) :: T) st h = ev d 78 75 ( some (.ref x) :: T) (.ref x :: st) h := ev_of d_78_74 rfl
theorem d_78_75 : decode (cd 78) 75 = .ok (.iconst 4, 1) := by rw [cd_78]; decide +kernel
theorem e_78_75 {d : Nat} {h : mM} {L : mLs} {st : List Value} : ev d 78 75 L st h = ev d 78 76 L (.int 4 :: st) h := ev_of d_78_75 rfl
theorem d_78_76 : decode (cd 78) 76 = .ok (.newarray .int, 2) := by rw [cd_78]; decide +kernel
theorem e_78_76 {d : Nat} {h : mM} {L : mLs} {st : List Value} {n : Int32} (hn : ¬ n < 0) (h1 : n.toNatClampNeg ≤ 1000) : ev d 78 76 L (.int n :: st) h = ev d 78 78 L (.ref (mN h) :: st) (wN h 11 n.toNatClampNeg) := ev_na d_78_76 (by decide) hn h1
theorem d_78_78 : decode (cd 78) 78 = .ok (.putfield 41, 3) := by rw [cd_78]; decide +kernel
theorem e_78_78 {d : Nat} {h : mM} {L : mLs} {st : List Value} {a b : Nat} : ev d 78 78 L (.ref b :: .ref a :: st) h = if mK h a = 10 then ev d 78 81 L st (wR h a 14 (some b)) else none := ev_pR d_78_78 (by decide +kernel) (by decide +kernel) (by decide +kernel)
theorem d_78_81 : decode (cd 78) 81 = .ok (.aload_n 0, 1) := by rw [cd_78]; decide +kernel
theorem e_78_81 {d : Nat} {h : mM} {T : mLs} {x : Nat} {st : List Value} : ev d 78 81 ( some (.ref x) :: T) st h = ev d 78 82 ( some (.ref x) :: T) (.ref x :: st) h := ev_of d_78_81 rfl
theorem d_78_82 : decode (cd 78) 82 = .ok (.iconst 4, 1) := by rw [cd_78]; decide +kernel
theorem e_78_82 {d : Nat} {h : mM} {L : mLs} {st : List Value} : ev d 78 82 L st h = ev d 78 83 L (.int 4 :: st) h := ev_of d_78_82 rfl
theorem d_78_83 : decode (cd 78) 83 = .ok (.newarray .int, 2) := by rw [cd_78]; decide +kernel
theorem e_78_83 {d : Nat} {h : mM} {L : mLs} {st : List Value} {n : Int32} (hn : ¬ n < 0) (h1 : n.toNatClampNeg ≤ 1000) : ev d 78 83 L (.int n :: st) h = ev d 78 85 L (.ref (mN h) :: st) (wN h 11 n.toNatClampNeg) := ev_na d_78_83 (by decide) hn h1
theorem d_78_85 : decode (cd 78) 85 = .ok (.putfield 44, 3) := by rw [cd_78]; decide +kernel
theorem e_78_85 {d : Nat} {h : mM} {L : mLs} {st : List Value} {a b : Nat} : ev d 78 85 L (.ref b :: .ref a :: st) h = if mK h a = 10 then ev d 78 88 L st (wR h a 15 (some b)) else none := ev_pR d_78_85 (by decide +kernel) (by decide +kernel) (by decide +kernel)
theorem d_78_88 : decode (cd 78) 88 = .ok (.aload_n 0, 1) := by rw [cd_78]; decide +kernel
theorem e_78_88 {d : Nat} {h : mM} {T : mLs} {x : Nat} {st : List Value} : ev d 78 88 ( some (.ref x) :: T) st h = ev d 78 89 ( some (.ref x) :: T) (.ref x :: st) h := ev_of d_78_88 rfl
theorem d_78_89 : decode (cd 78) 89 = .ok (.iconst 4, 1) := by rw [cd_78]; decide +kernel
theorem e_78_89 {d : Nat} {h : mM} {L : mLs} {st : List Value} : ev d 78 89 L st h = ev d 78 90 L (.int 4 :: st) h := ev_of d_78_89 rfl
theorem d_78_90 : decode (cd 78) 90 = .ok (.newarray .int, 2) := by rw [cd_78]; decide +kernel
theorem e_78_90 {d : Nat} {h : mM} {L : mLs} {st : List Value} {n : Int32} (hn : ¬ n < 0) (h1 : n.toNatClampNeg ≤ 1000) : ev d 78 90 L (.int n :: st) h = ev d 78 92 L (.ref (mN h) :: st) (wN h 11 n.toNatClampNeg) := ev_na d_78_90 (by decide) hn h1
theorem d_78_92 : decode (cd 78) 92 = .ok (.putfield 47, 3) := by rw [cd_78]; decide +kernel
theorem e_78_92 {d : Nat} {h : mM} {L : mLs} {st : List Value} {a b : Nat} : ev d 78 92 L (.ref b :: .ref a :: st) h = if mK h a = 10 then ev d 78 95 L st (wR h a 16 (some b)) else none := ev_pR d_78_92 (by decide +kernel) (by decide +kernel) (by decide +kernel)
theorem d_78_95 : decode (cd 78) 95 = .ok (.aload_n 0, 1) := by rw [cd_78]; decide +kernel
theorem e_78_95 {d : Nat} {h : mM} {T : mLs} {x : Nat} {st : List Value} : ev d 78 95 ( some (.ref x) :: T) st h = ev d 78 96 ( some (.ref x) :: T) (.ref x :: st) h := ev_of d_78_95 rfl
theorem d_78_96 : decode (cd 78) 96 = .ok (.iconst 4, 1) := by rw [cd_78]; decide +kernel
theorem e_78_96 {d : Nat} {h : mM} {L : mLs} {st : List Value} : ev d 78 96 L st h = ev d 78 97 L (.int 4 :: st) h := ev_of d_78_96 rfl
theorem d_78_97 : decode (cd 78) 97 = .ok (.newarray .int, 2) := by rw [cd_78]; decide +kernel
theorem e_78_97 {d : Nat} {h : mM} {L : mLs} {st : List Value} {n : Int32} (hn : ¬ n < 0) (h1 : n.toNatClampNeg ≤ 1000) : ev d 78 97 L (.int n :: st) h = ev d 78 99 L (.ref (mN h) :: st) (wN h 11 n.toNatClampNeg) := ev_na d_78_97 (by decide) hn h1
theorem d_78_99 : decode (cd 78) 99 = .ok (.putfield 50, 3) := by rw [cd_78]; decide +kernel
theorem e_78_99 {d : Nat} {h : mM} {L : mLs} {st : List Value} {a b : Nat} : ev d 78 99 L (.ref b :: .ref a :: st) h = if mK h a = 10 then ev d 78 102 L st (wR h a 17 (some b)) else none := ev_pR d_78_99 (by decide +kernel) (by decide +kernel) (by decide +kernel)
theorem d_78_102 : decode (cd 78) 102 = .ok (.aload_n 0, 1) := by rw [cd_78]; decide +kernel
theorem e_78_102 {d : Nat} {h : mM} {T : mLs} {x : Nat} {st : List Value} : ev d 78 102 ( some (.ref x) :: T) st h = ev d 78 103 ( some (.ref x) :: T) (.ref x :: st) h := ev_of d_78_102 rfl
theorem d_78_103 : decode (cd 78) 103 = .ok (.iconst 4, 1) := by rw [cd_78]; decide +kernel
theorem e_78_103 {d : Nat} {h : mM} {L : mLs} {st : List Value} : ev d 78 103 L st h = ev d 78 104 L (.int 4 :: st) h := ev_of d_78_103 rfl
theorem d_78_104 : decode (cd 78) 104 = .ok (.newarray .int, 2) := by rw [cd_78]; decide +kernel
theorem e_78_104 {d : Nat} {h : mM} {L : mLs} {st : List Value} {n : Int32} (hn : ¬ n < 0) (h1 : n.toNatClampNeg ≤ 1000) : ev d 78 104 L (.int n :: st) h = ev d 78 106 L (.ref (mN h) :: st) (wN h 11 n.toNatClampNeg) := ev_na d_78_104 (by decide) hn h1
theorem d_78_106 : decode (cd 78) 106 = .ok (.putfield 53, 3) := by rw [cd_78]; decide +kernel
theorem e_78_106 {d : Nat} {h : mM} {L : mLs} {st : List Value} {a b : Nat} : ev d 78 106 L (.ref b :: .ref a :: st) h = if mK h a = 10 then ev d 78 109 L st (wR h a 18 (some b)) else none := ev_pR d_78_106 (by decide +kernel) (by decide +kernel) (by decide +kernel)
theorem d_78_109 : decode (cd 78) 109 = .ok (.aload_n 0, 1) := by rw [cd_78]; decide +kernel
theorem e_78_109 {d : Nat} {h : mM} {T : mLs} {x : Nat} {st : List Value} : ev d 78 109 ( some (.ref x) :: T) st h = ev d 78 110 ( some (.ref x) :: T) (.ref x :: st) h := ev_of d_78_109 rfl
theorem d_78_110 : decode (cd 78) 110 = .ok (.iconst 4, 1) := by rw [cd_78]; decide +kernel
theorem e_78_110 {d : Nat} {h : mM} {L : mLs} {st : List Value} : ev d 78 110 L st h = ev d 78 111 L (.int 4 :: st) h := ev_of d_78_110 rfl
theorem d_78_111 : decode (cd 78) 111 = .ok (.newarray .int, 2) := by rw [cd_78]; decide +kernel
theorem e_78_111 {d : Nat} {h : mM} {L : mLs} {st : List Value} {n : Int32} (hn : ¬ n < 0) (h1 : n.toNatClampNeg ≤ 1000) : ev d 78 111 L (.int n :: st) h = ev d 78 113 L (.ref (mN h) :: st) (wN h 11 n.toNatClampNeg) := ev_na d_78_111 (by decide) hn h1
theorem d_78_113 : decode (cd 78) 113 = .ok (.putfield 56, 3) := by rw [cd_78]; decide +kernel
theorem e_78_113 {d : Nat} {h : mM} {L : mLs} {st : List Value} {a b : Nat} : ev d 78 113 L (.ref b :: .ref a :: st) h = if mK h a = 10 then ev d 78 116 L st (wR h a 19 (some b)) else none := ev_pR d_78_113 (by decide +kernel) (by decide +kernel) (by decide +kernel)
theorem d_78_116 : decode (cd 78) 116 = .ok (.aload_n 0, 1) := by rw [cd_78]; decide +kernel
theorem e_78_116 {d : Nat} {h : mM} {T : mLs} {x : Nat} {st : List Value} : ev d 78 116 ( some (.ref x) :: T) st h = ev d 78 117 ( some (.ref x) :: T) (.ref x :: st) h := ev_of d_78_116 rfl
theorem d_78_117 : decode (cd 78) 117 = .ok (.bipush 12, 2) := by rw [cd_78]; decide +kernel
theorem e_78_117 {d : Nat} {h : mM} {L : mLs} {st : List Value} : ev d 78 117 L st h = ev d 78 119 L (.int 12 :: st) h := ev_of d_78_117 rfl
theorem d_78_119 : decode (cd 78) 119 = .ok (.newarray .int, 2) := by rw [cd_78]; decide +kernel
theorem e_78_119 {d : Nat} {h : mM} {L : mLs} {st : List Value} {n : Int32} (hn : ¬ n < 0) (h1 : n.toNatClampNeg ≤ 1000) : ev d 78 119 L (.int n :: st) h = ev d 78 121 L (.ref (mN h) :: st) (wN h 11 n.toNatClampNeg) := ev_na d_78_119 (by decide) hn h1
theorem d_78_121 : decode (cd 78) 121 = .ok (.putfield 59, 3) := by rw [cd_78]; decide +kernel
theorem e_78_121 {d : Nat} {h : mM} {L : mLs} {st : List Value} {a b : Nat} : ev d 78 121 L (.ref b :: .ref a :: st) h = if mK h a = 10 then ev d 78 124 L st (wR h a 20 (some b)) else none := ev_pR d_78_121 (by decide +kernel) (by decide +kernel) (by decide +kernel)
theorem d_78_124 : decode (cd 78) 124 = .ok (.aload_n 0, 1) := by rw [cd_78]; decide +kernel
theorem e_78_124 {d : Nat} {h : mM} {T : mLs} {x : Nat} {st : List Value} : ev d 78 124 ( some (.ref x) :: T) st h = ev d 78 125 ( some (.ref x) :: T) (.ref x :: st) h := ev_of d_78_124 rfl
theorem d_78_125 : decode (cd 78) 125 = .ok (.bipush 12, 2) := by rw [cd_78]; decide +kernel
theorem e_78_125 {d : Nat} {h : mM} {L : mLs} {st : List Value} : ev d 78 125 L st h = ev d 78 127 L (.int 12 :: st) h := ev_of d_78_125 rfl
theorem d_78_127 : decode (cd 78) 127 = .ok (.newarray .int, 2) := by rw [cd_78]; decide +kernel
theorem e_78_127 {d : Nat} {h : mM} {L : mLs} {st : List Value} {n : Int32} (hn : ¬ n < 0) (h1 : n.toNatClampNeg ≤ 1000) : ev d 78 127 L (.int n :: st) h = ev d 78 129 L (.ref (mN h) :: st) (wN h 11 n.toNatClampNeg) := ev_na d_78_127 (by decide) hn h1
theorem d_78_129 : decode (cd 78) 129 = .ok (.putfield 62, 3) := by rw [cd_78]; decide +kernel
theorem e_78_129 {d : Nat} {h : mM} {L : mLs} {st : List Value} {a b : Nat} : ev d 78 129 L (.ref b :: .ref a :: st) h = if mK h a = 10 then ev d 78 132 L st (wR h a 21 (some b)) else none := ev_pR d_78_129 (by decide +kernel) (by decide +kernel) (by decide +kernel)
theorem d_78_132 : decode (cd 78) 132 = .ok (.aload_n 0, 1) := by rw [cd_78]; decide +kernel
theorem e_78_132 {d : Nat} {h : mM} {T : mLs} {x : Nat} {st : List Value} : ev d 78 132 ( some (.ref x) :: T) st h = ev d 78 133 ( some (.ref x) :: T) (.ref x :: st) h := ev_of d_78_132 rfl
theorem d_78_133 : decode (cd 78) 133 = .ok (.bipush 12, 2) := by rw [cd_78]; decide +kernel
theorem e_78_133 {d : Nat} {h : mM} {L : mLs} {st : List Value} : ev d 78 133 L st h = ev d 78 135 L (.int 12 :: st) h := ev_of d_78_133 rfl
theorem d_78_135 : decode (cd 78) 135 = .ok (.newarray .int, 2) := by rw [cd_78]; decide +kernel
theorem e_78_135 {d : Nat} {h : mM} {L : mLs} {st : List Value} {n : Int32} (hn : ¬ n < 0) (h1 : n.toNatClampNeg ≤ 1000) : ev d 78 135 L (.int n :: st) h = ev d 78 137 L (.ref (mN h) :: st) (wN h 11 n.toNatClampNeg) := ev_na d_78_135 (by decide) hn h1
theorem d_78_137 : decode (cd 78) 137 = .ok (.putfield 65, 3) := by rw [cd_78]; decide +kernel
theorem e_78_137 {d : Nat} {h : mM} {L : mLs} {st : List Value} {a b : Nat} : ev d 78 137 L (.ref b :: .ref a :: st) h = if mK h a = 10 then ev d 78 140 L st (wR h a 22 (some b)) else none := ev_pR d_78_137 (by decide +kernel) (by decide +kernel) (by decide +kernel)
theorem d_78_140 : decode (cd 78) 140 = .ok (.aload_n 0, 1) := by rw [cd_78]; decide +kernel
theorem e_78_140 {d : Nat} {h : mM} {T : mLs} {x : Nat} {st : List Value} : ev d 78 140 ( some (.ref x) :: T) st h = ev d 78 141 ( some (.ref x) :: T) (.ref x :: st) h := ev_of d_78_140 rfl
theorem d_78_141 : decode (cd 78) 141 = .ok (.bipush 12, 2) := by rw [cd_78]; decide +kernel
theorem e_78_141 {d : Nat} {h : mM} {L : mLs} {st : List Value} : ev d 78 141 L st h = ev d 78 143 L (.int 12 :: st) h := ev_of d_78_141 rfl
theorem d_78_143 : decode (cd 78) 143 = .ok (.newarray .int, 2) := by rw [cd_78]; decide +kernel
theorem e_78_143 {d : Nat} {h : mM} {L : mLs} {st : List Value} {n : Int32} (hn : ¬ n < 0) (h1 : n.toNatClampNeg ≤ 1000) : ev d 78 143 L (.int n :: st) h = ev d 78 145 L (.ref (mN h) :: st) (wN h 11 n.toNatClampNeg) := ev_na d_78_143 (by decide) hn h1
theorem d_78_145 : decode (cd 78) 145 = .ok (.putfield 68, 3) := by rw [cd_78]; decide +kernel
theorem e_78_145 {d : Nat} {h : mM} {L : mLs} {st : List Value} {a b : Nat} : ev d 78 145 L (.ref b :: .ref a :: st) h = if mK h a = 10 then ev d 78 148 L st (wR h a 23 (some b)) else none := ev_pR d_78_145 (by decide +kernel) (by decide +kernel) (by decide +kernel)
theorem d_78_148 : decode (cd 78) 148 = .ok (.aload_n 0, 1) := by rw [cd_78]; decide +kernel
theorem e_78_148 {d : Nat} {h : mM} {T : mLs} {x : Nat} {st : List Value} : ev d 78 148 ( some (.ref x) :: T) st h = ev d 78 149 ( some (.ref x) :: T) (.ref x :: st) h := ev_of d_78_148 rfl
theorem d_78_149 : decode (cd 78) 149 = .ok (.iconst 4, 1) := by rw [cd_78]; decide +kernel
theorem e_78_149 {d : Nat} {h : mM} {L : mLs} {st : List Value} : ev d 78 149 L st h = ev d 78 150 L (.int 4 :: st) h := ev_of d_78_149 rfl
theorem d_78_150 : decode (cd 78) 150 = .ok (.newarray .int, 2) := by rw [cd_78]; decide +kernel
theorem e_78_150 {d : Nat} {h : mM} {L : mLs} {st : List Value} {n : Int32} (hn : ¬ n < 0) (h1 : n.toNatClampNeg ≤ 1000) : ev d 78 150 L (.int n :: st) h = ev d 78 152 L (.ref (mN h) :: st) (wN h 11 n.toNatClampNeg) := ev_na d_78_150 (by decide) hn h1
theorem d_78_152 : decode (cd 78) 152 = .ok (.putfield 71, 3) := by rw [cd_78]; decide +kernel
theorem e_78_152 {d : Nat} {h : mM} {L : mLs} {st : List Value} {a b : Nat} : ev d 78 152 L (.ref b :: .ref a :: st) h = if mK h a = 10 then ev d 78 155 L st (wR h a 25 (some b)) else none := ev_pR d_78_152 (by decide +kernel) (by decide +kernel) (by decide +kernel)
theorem d_78_155 : decode (cd 78) 155 = .ok (.aload_n 0, 1) := by rw [cd_78]; decide +kernel
theorem e_78_155 {d : Nat} {h : mM} {T : mLs} {x : Nat} {st : List Value} : ev d 78 155 ( some (.ref x) :: T) st h = ev d 78 156 ( some (.ref x) :: T) (.ref x :: st) h := ev_of d_78_155 rfl
theorem d_78_156 : decode (cd 78) 156 = .ok (.sipush 192, 3) := by rw [cd_78]; decide +kernel
theorem e_78_156 {d : Nat} {h : mM} {L : mLs} {st : List Value} : ev d 78 156 L st h = ev d 78 159 L (.int 192 :: st) h := ev_of d_78_156 rfl
theorem d_78_159 : decode (cd 78) 159 = .ok (.newarray .int, 2) := by rw [cd_78]; decide +kernel
theorem e_78_159 {d : Nat} {h : mM} {L : mLs} {st : List Value} {n : Int32} (hn : ¬ n < 0) (h1 : n.toNatClampNeg ≤ 1000) : ev d 78 159 L (.int n :: st) h = ev d 78 161 L (.ref (mN h) :: st) (wN h 11 n.toNatClampNeg) := ev_na d_78_159 (by decide) hn h1
theorem d_78_161 : decode (cd 78) 161 = .ok (.putfield 74, 3) := by rw [cd_78]; decide +kernel
theorem e_78_161 {d : Nat} {h : mM} {L : mLs} {st : List Value} {a b : Nat} : ev d 78 161 L (.ref b :: .ref a :: st) h = if mK h a = 10 then ev d 78 164 L st (wR h a 26 (some b)) else none := ev_pR d_78_161 (by decide +kernel) (by decide +kernel) (by decide +kernel)
theorem d_78_164 : decode (cd 78) 164 = .ok (.aload_n 0, 1) := by rw [cd_78]; decide +kernel
theorem e_78_164 {d : Nat} {h : mM} {T : mLs} {x : Nat} {st : List Value} : ev d 78 164 ( some (.ref x) :: T) st h = ev d 78 165 ( some (.ref x) :: T) (.ref x :: st) h := ev_of d_78_164 rfl
theorem d_78_165 : decode (cd 78) 165 = .ok (.bipush 24, 2) := by rw [cd_78]; decide +kernel
theorem e_78_165 {d : Nat} {h : mM} {L : mLs} {st : List Value} : ev d 78 165 L st h = ev d 78 167 L (.int 24 :: st) h := ev_of d_78_165 rfl
theorem d_78_167 : decode (cd 78) 167 = .ok (.newarray .long, 2) := by rw [cd_78]; decide +kernel
theorem e_78_167 {d : Nat} {h : mM} {L : mLs} {st : List Value} {n : Int32} (hn : ¬ n < 0) (h1 : n.toNatClampNeg ≤ 1000) : ev d 78 167 L (.int n :: st) h = ev d 78 169 L (.ref (mN h) :: st) (wN h 12 n.toNatClampNeg) := ev_na d_78_167 (by decide) hn h1
theorem d_78_169 : decode (cd 78) 169 = .ok (.putfield 77, 3) := by rw [cd_78]; decide +kernel
theorem e_78_169 {d : Nat} {h : mM} {L : mLs} {st : List Value} {a b : Nat} : ev d 78 169 L (.ref b :: .ref a :: st) h = if mK h a = 10 then ev d 78 172 L st (wR h a 27 (some b)) else none := ev_pR d_78_169 (by decide +kernel) (by decide +kernel) (by decide +kernel)
theorem d_78_172 : decode (cd 78) 172 = .ok (.aload_n 0, 1) := by rw [cd_78]; decide +kernel
theorem e_78_172 {d : Nat} {h : mM} {T : mLs} {x : Nat} {st : List Value} : ev d 78 172 ( some (.ref x) :: T) st h = ev d 78 173 ( some (.ref x) :: T) (.ref x :: st) h := ev_of d_78_172 rfl
theorem d_78_173 : decode (cd 78) 173 = .ok (.bipush 10, 2) := by rw [cd_78]; decide +kernel
theorem e_78_173 {d : Nat} {h : mM} {L : mLs} {st : List Value} : ev d 78 173 L st h = ev d 78 175 L (.int 10 :: st) h := ev_of d_78_173 rfl
theorem d_78_175 : decode (cd 78) 175 = .ok (.newarray .long, 2) := by rw [cd_78]; decide +kernel
theorem e_78_175 {d : Nat} {h : mM} {L : mLs} {st : List Value} {n : Int32} (hn : ¬ n < 0) (h1 : n.toNatClampNeg ≤ 1000) : ev d 78 175 L (.int n :: st) h = ev d 78 177 L (.ref (mN h) :: st) (wN h 12 n.toNatClampNeg) := ev_na d_78_175 (by decide) hn h1
theorem d_78_177 : decode (cd 78) 177 = .ok (.putfield 81, 3) := by rw [cd_78]; decide +kernel
theorem e_78_177 {d : Nat} {h : mM} {L : mLs} {st : List Value} {a b : Nat} : ev d 78 177 L (.ref b :: .ref a :: st) h = if mK h a = 10 then ev d 78 180 L st (wR h a 28 (some b)) else none := ev_pR d_78_177 (by decide +kernel) (by decide +kernel) (by decide +kernel)
theorem d_78_180 : decode (cd 78) 180 = .ok (.aload_n 0, 1) := by rw [cd_78]; decide +kernel
theorem e_78_180 {d : Nat} {h : mM} {T : mLs} {x : Nat} {st : List Value} : ev d 78 180 ( some (.ref x) :: T) st h = ev d 78 181 ( some (.ref x) :: T) (.ref x :: st) h := ev_of d_78_180 rfl
theorem d_78_181 : decode (cd 78) 181 = .ok (.iconst 5, 1) := by rw [cd_78]; decide +kernel
theorem e_78_181 {d : Nat} {h : mM} {L : mLs} {st : List Value} : ev d 78 181 L st h = ev d 78 182 L (.int 5 :: st) h := ev_of d_78_181 rfl
theorem d_78_182 : decode (cd 78) 182 = .ok (.newarray .long, 2) := by rw [cd_78]; decide +kernel
theorem e_78_182 {d : Nat} {h : mM} {L : mLs} {st : List Value} {n : Int32} (hn : ¬ n < 0) (h1 : n.toNatClampNeg ≤ 1000) : ev d 78 182 L (.int n :: st) h = ev d 78 184 L (.ref (mN h) :: st) (wN h 12 n.toNatClampNeg) := ev_na d_78_182 (by decide) hn h1
theorem d_78_184 : decode (cd 78) 184 = .ok (.putfield 84, 3) := by rw [cd_78]; decide +kernel
theorem e_78_184 {d : Nat} {h : mM} {L : mLs} {st : List Value} {a b : Nat} : ev d 78 184 L (.ref b :: .ref a :: st) h = if mK h a = 10 then ev d 78 187 L st (wR h a 29 (some b)) else none := ev_pR d_78_184 (by decide +kernel) (by decide +kernel) (by decide +kernel)
theorem d_78_187 : decode (cd 78) 187 = .ok (.aload_n 0, 1) := by rw [cd_78]; decide +kernel
theorem e_78_187 {d : Nat} {h : mM} {T : mLs} {x : Nat} {st : List Value} : ev d 78 187 ( some (.ref x) :: T) st h = ev d 78 188 ( some (.ref x) :: T) (.ref x :: st) h := ev_of d_78_187 rfl
theorem d_78_188 : decode (cd 78) 188 = .ok (.bipush 24, 2) := by rw [cd_78]; decide +kernel
theorem e_78_188 {d : Nat} {h : mM} {L : mLs} {st : List Value} : ev d 78 188 L st h = ev d 78 190 L (.int 24 :: st) h := ev_of d_78_188 rfl
theorem d_78_190 : decode (cd 78) 190 = .ok (.newarray .int, 2) := by rw [cd_78]; decide +kernel
theorem e_78_190 {d : Nat} {h : mM} {L : mLs} {st : List Value} {n : Int32} (hn : ¬ n < 0) (h1 : n.toNatClampNeg ≤ 1000) : ev d 78 190 L (.int n :: st) h = ev d 78 192 L (.ref (mN h) :: st) (wN h 11 n.toNatClampNeg) := ev_na d_78_190 (by decide) hn h1
theorem d_78_192 : decode (cd 78) 192 = .ok (.putfield 87, 3) := by rw [cd_78]; decide +kernel
theorem e_78_192 {d : Nat} {h : mM} {L : mLs} {st : List Value} {a b : Nat} : ev d 78 192 L (.ref b :: .ref a :: st) h = if mK h a = 10 then ev d 78 195 L st (wR h a 31 (some b)) else none := ev_pR d_78_192 (by decide +kernel) (by decide +kernel) (by decide +kernel)
theorem d_78_195 : decode (cd 78) 195 = .ok (.aload_n 0, 1) := by rw [cd_78]; decide +kernel
theorem e_78_195 {d : Nat} {h : mM} {T : mLs} {x : Nat} {st : List Value} : ev d 78 195 ( some (.ref x) :: T) st h = ev d 78 196 ( some (.ref x) :: T) (.ref x :: st) h := ev_of d_78_195 rfl
theorem d_78_196 : decode (cd 78) 196 = .ok (.bipush 6, 2) := by rw [cd_78]; decide +kernel
theorem e_78_196 {d : Nat} {h : mM} {L : mLs} {st : List Value} : ev d 78 196 L st h = ev d 78 198 L (.int 6 :: st) h := ev_of d_78_196 rfl
theorem d_78_198 : decode (cd 78) 198 = .ok (.newarray .long, 2) := by rw [cd_78]; decide +kernel
theorem e_78_198 {d : Nat} {h : mM} {L : mLs} {st : List Value} {n : Int32} (hn : ¬ n < 0) (h1 : n.toNatClampNeg ≤ 1000) : ev d 78 198 L (.int n :: st) h = ev d 78 200 L (.ref (mN h) :: st) (wN h 12 n.toNatClampNeg) := ev_na d_78_198 (by decide) hn h1
theorem d_78_200 : decode (cd 78) 200 = .ok (.putfield 90, 3) := by rw [cd_78]; decide +kernel
theorem e_78_200 {d : Nat} {h : mM} {L : mLs} {st : List Value} {a b : Nat} : ev d 78 200 L (.ref b :: .ref a :: st) h = if mK h a = 10 then ev d 78 203 L st (wR h a 32 (some b)) else none := ev_pR d_78_200 (by decide +kernel) (by decide +kernel) (by decide +kernel)
theorem d_78_203 : decode (cd 78) 203 = .ok (.aload_n 0, 1) := by rw [cd_78]; decide +kernel
theorem e_78_203 {d : Nat} {h : mM} {T : mLs} {x : Nat} {st : List Value} : ev d 78 203 ( some (.ref x) :: T) st h = ev d 78 204 ( some (.ref x) :: T) (.ref x :: st) h := ev_of d_78_203 rfl
theorem d_78_204 : decode (cd 78) 204 = .ok (.iconst 4, 1) := by rw [cd_78]; decide +kernel
theorem e_78_204 {d : Nat} {h : mM} {L : mLs} {st : List Value} : ev d 78 204 L st h = ev d 78 205 L (.int 4 :: st) h := ev_of d_78_204 rfl
theorem d_78_205 : decode (cd 78) 205 = .ok (.newarray .int, 2) := by rw [cd_78]; decide +kernel
theorem e_78_205 {d : Nat} {h : mM} {L : mLs} {st : List Value} {n : Int32} (hn : ¬ n < 0) (h1 : n.toNatClampNeg ≤ 1000) : ev d 78 205 L (.int n :: st) h = ev d 78 207 L (.ref (mN h) :: st) (wN h 11 n.toNatClampNeg) := ev_na d_78_205 (by decide) hn h1
theorem d_78_207 : decode (cd 78) 207 = .ok (.putfield 93, 3) := by rw [cd_78]; decide +kernel
theorem e_78_207 {d : Nat} {h : mM} {L : mLs} {st : List Value} {a b : Nat} : ev d 78 207 L (.ref b :: .ref a :: st) h = if mK h a = 10 then ev d 78 210 L st (wR h a 33 (some b)) else none := ev_pR d_78_207 (by decide +kernel) (by decide +kernel) (by decide +kernel)
theorem d_78_210 : decode (cd 78) 210 = .ok (.aload_n 0, 1) := by rw [cd_78]; decide +kernel
theorem e_78_210 {d : Nat} {h : mM} {T : mLs} {x : Nat} {st : List Value} : ev d 78 210 ( some (.ref x) :: T) st h = ev d 78 211 ( some (.ref x) :: T) (.ref x :: st) h := ev_of d_78_210 rfl
theorem d_78_211 : decode (cd 78) 211 = .ok (.iconst 4, 1) := by rw [cd_78]; decide +kernel
theorem e_78_211 {d : Nat} {h : mM} {L : mLs} {st : List Value} : ev d 78 211 L st h = ev d 78 212 L (.int 4 :: st) h := ev_of d_78_211 rfl
theorem d_78_212 : decode (cd 78) 212 = .ok (.newarray .long, 2) := by rw [cd_78]; decide +kernel
theorem e_78_212 {d : Nat} {h : mM} {L : mLs} {st : List Value} {n : Int32} (hn : ¬ n < 0) (h1 : n.toNatClampNeg ≤ 1000) : ev d 78 212 L (.int n :: st) h = ev d 78 214 L (.ref (mN h) :: st) (wN h 12 n.toNatClampNeg) := ev_na d_78_212 (by decide) hn h1
theorem d_78_214 : decode (cd 78) 214 = .ok (.putfield 96, 3) := by rw [cd_78]; decide +kernel
theorem e_78_214 {d : Nat} {h : mM} {L : mLs} {st : List Value} {a b : Nat} : ev d 78 214 L (.ref b :: .ref a :: st) h = if mK h a = 10 then ev d 78 217 L st (wR h a 35 (some b)) else none := ev_pR d_78_214 (by decide +kernel) (by decide +kernel) (by decide +kernel)
theorem d_78_217 : decode (cd 78) 217 = .ok (.iconst 0, 1) := by rw [cd_78]; decide +kernel
theorem e_78_217 {d : Nat} {h : mM} {L : mLs} {st : List Value} : ev d 78 217 L st h = ev d 78 218 L (.int 0 :: st) h := ev_of d_78_217 rfl
theorem d_78_218 : decode (cd 78) 218 = .ok (.istore_n 1, 1) := by rw [cd_78]; decide +kernel
theorem e_78_218 {d : Nat} {h : mM} {o0 o1 : Option Value} {T : mLs} {x : Int32} {st : List Value} (hl : mLong o0 = false) : ev d 78 218 (o0 :: o1 :: T) (.int x :: st) h = ev d 78 219 (o0 :: some (.int x) :: T) st h := ev_st_in d_78_218 (by decide +kernel) (mS1_s (j := 0) hl)
theorem d_78_219 : decode (cd 78) 219 = .ok (.iload_n 1, 1) := by rw [cd_78]; decide +kernel
theorem e_78_219 {d : Nat} {h : mM} {o0 : Option Value} {T : mLs} {x : Int32} {st : List Value} : ev d 78 219 (o0 :: some (.int x) :: T) st h = ev d 78 220 (o0 :: some (.int x) :: T) (.int x :: st) h := ev_of d_78_219 rfl
theorem d_78_220 : decode (cd 78) 220 = .ok (.bipush 24, 2) := by rw [cd_78]; decide +kernel
theorem e_78_220 {d : Nat} {h : mM} {L : mLs} {st : List Value} : ev d 78 220 L st h = ev d 78 222 L (.int 24 :: st) h := ev_of d_78_220 rfl
theorem d_78_222 : decode (cd 78) 222 = .ok (.if_icmp .ge 32, 3) := by rw [cd_78]; decide +kernel
theorem e_78_222 {d : Nat} {h : mM} {L : mLs} {st : List Value} {x y : Int32} : ev d 78 222 L (.int y :: .int x :: st) h = if y ≤ x then ev d 78 254 L st h else ev d 78 225 L st h := ev_ic (y ≤ x) inferInstance rfl d_78_222 (by decide)
theorem d_78_225 : decode (cd 78) 225 = .ok (.aload_n 0, 1) := by rw [cd_78]; decide +kernel
theorem e_78_225 {d : Nat} {h : mM} {T : mLs} {x : Nat} {st : List Value} : ev d 78 225 ( some (.ref x) :: T) st h = ev d 78 226 ( some (.ref x) :: T) (.ref x :: st) h := ev_of d_78_225 rfl
theorem d_78_226 : decode (cd 78) 226 = .ok (.getfield 13, 3) := by rw [cd_78]; decide +kernel
theorem e_78_226 {d : Nat} {h : mM} {L : mLs} {st : List Value} {a : Nat} : ev d 78 226 L (.ref a :: st) h = if mK h a = 10 then oB (mR h a 2) (fun b => ev d 78 229 L (.ref b :: st) h) else none := ev_gR d_78_226 (by decide +kernel) (by decide +kernel)
theorem d_78_229 : decode (cd 78) 229 = .ok (.iload_n 1, 1) := by rw [cd_78]; decide +kernel
theorem e_78_229 {d : Nat} {h : mM} {o0 : Option Value} {T : mLs} {x : Int32} {st : List Value} : ev d 78 229 (o0 :: some (.int x) :: T) st h = ev d 78 230 (o0 :: some (.int x) :: T) (.int x :: st) h := ev_of d_78_229 rfl
theorem d_78_230 : decode (cd 78) 230 = .ok (.iconst 0, 1) := by rw [cd_78]; decide +kernel
theorem e_78_230 {d : Nat} {h : mM} {L : mLs} {st : List Value} : ev d 78 230 L st h = ev d 78 231 L (.int 0 :: st) h := ev_of d_78_230 rfl
theorem d_78_231 : decode (cd 78) 231 = .ok (.bipush 100, 2) := by rw [cd_78]; decide +kernel
theorem e_78_231 {d : Nat} {h : mM} {L : mLs} {st : List Value} : ev d 78 231 L st h = ev d 78 233 L (.int 100 :: st) h := ev_of d_78_231 rfl
theorem d_78_233 : decode (cd 78) 233 = .ok (.bipush 10, 2) := by rw [cd_78]; decide +kernel
theorem e_78_233 {d : Nat} {h : mM} {L : mLs} {st : List Value} : ev d 78 233 L st h = ev d 78 235 L (.int 10 :: st) h := ev_of d_78_233 rfl
theorem d_78_235 : decode (cd 78) 235 = .ok (.iload_n 1, 1) := by rw [cd_78]; decide +kernel
theorem e_78_235 {d : Nat} {h : mM} {o0 : Option Value} {T : mLs} {x : Int32} {st : List Value} : ev d 78 235 (o0 :: some (.int x) :: T) st h = ev d 78 236 (o0 :: some (.int x) :: T) (.int x :: st) h := ev_of d_78_235 rfl
theorem d_78_236 : decode (cd 78) 236 = .ok (.bipush 6, 2) := by rw [cd_78]; decide +kernel
theorem e_78_236 {d : Nat} {h : mM} {L : mLs} {st : List Value} : ev d 78 236 L st h = ev d 78 238 L (.int 6 :: st) h := ev_of d_78_236 rfl
theorem d_78_238 : decode (cd 78) 238 = .ok (.isub, 1) := by rw [cd_78]; decide +kernel
theorem e_78_238 {d : Nat} {h : mM} {L : mLs} {st : List Value} {x y : Int32} : ev d 78 238 L (.int y :: .int x :: st) h = ev d 78 239 L (.int (x - y) :: st) h := ev_of d_78_238 rfl
theorem d_78_239 : decode (cd 78) 239 = .ok (.invokestatic 99, 3) := by rw [cd_78]; decide +kernel
theorem e_78_239 {d : Nat} {h : mM} {L : mLs} {st : List Value} {x : Int32} (hc : mCat st ≤ 8) : ev d 78 239 L (.int x :: st) h = ev d 78 242 L (.int (if 0 ≤ x then x else 0 - x) :: st) h := ev_abs (mj := 0) d_78_239 (by decide +kernel) hc
theorem d_78_242 : decode (cd 78) 242 = .ok (.imul, 1) := by rw [cd_78]; decide +kernel
theorem e_78_242 {d : Nat} {h : mM} {L : mLs} {st : List Value} {x y : Int32} : ev d 78 242 L (.int y :: .int x :: st) h = ev d 78 243 L (.int (x * y) :: st) h := ev_of d_78_242 rfl
theorem d_78_243 : decode (cd 78) 243 = .ok (.isub, 1) := by rw [cd_78]; decide +kernel
theorem e_78_243 {d : Nat} {h : mM} {L : mLs} {st : List Value} {x y : Int32} : ev d 78 243 L (.int y :: .int x :: st) h = ev d 78 244 L (.int (x - y) :: st) h := ev_of d_78_243 rfl
theorem d_78_244 : decode (cd 78) 244 = .ok (.invokestatic 105, 3) := by rw [cd_78]; decide +kernel
theorem e_78_244 {d : Nat} {h : mM} {L : mLs} {st : List Value} {x y : Int32} (hc : mCat st ≤ 8) : ev d 78 244 L (.int y :: .int x :: st) h = ev d 78 247 L (.int (if x < y then y else x) :: st) h := ev_max (mj := 0) d_78_244 (by decide +kernel) hc
theorem d_78_247 : decode (cd 78) 247 = .ok (.iastore, 1) := by rw [cd_78]; decide +kernel
theorem e_78_247 {d : Nat} {h : mM} {L : mLs} {st : List Value} {a : Nat} {i v : Int32} : ev d 78 247 L (.int v :: .int i :: .ref a :: st) h = if mK h a = 11 ∧ ixOK i (mL h a) = true then ev d 78 248 L st (wI h a i.toNatClampNeg v) else none := ev_is d_78_247
theorem d_78_248 : decode (cd 78) 248 = .ok (.iinc 1 1, 3) := by rw [cd_78]; decide +kernel
theorem e_78_248 {d : Nat} {h : mM} {o0 : Option Value} {T : mLs} {x : Int32} {st : List Value} (hl : mLong o0 = false) : ev d 78 248 (o0 :: some (.int x) :: T) st h = ev d 78 251 (o0 :: some (.int (x + 1)) :: T) st h := ev_inc d_78_248 (by decide +kernel) rfl rfl (mS1_s (j := 0) hl)
theorem d_78_251 : decode (cd 78) 251 = .ok (.goto (-32), 3) := by rw [cd_78]; decide +kernel
theorem e_78_251 {d : Nat} {h : mM} {L : mLs} {st : List Value} : ev d 78 251 L st h = ev d 78 219 L st h := ev_go d_78_251 (by decide)
theorem d_78_254 : decode (cd 78) 254 = .ok (.return_, 1) := by rw [cd_78]; decide +kernel
theorem e_78_254 {d : Nat} {h : mM} {L : mLs} : ev d 78 254 L [] h = some (none, h) := ev_rv d_78_254 (by decide +kernel)
-- 79: Model.finding
theorem cd_79 : cd 79 = prog_12_method_2_code := rfl
theorem d_79_0 : decode (cd 79) 0 = .ok (.aload_n 0, 1) := by rw [cd_79]; decide +kernel
theorem e_79_0 {d : Nat} {h : mM} {T : mLs} {x : Nat} {st : List Value} : ev d 79 0 ( some (.ref x) :: T) st h = ev d 79 1 ( some (.ref x) :: T) (.ref x :: st) h := ev_of d_79_0 rfl
theorem d_79_1 : decode (cd 79) 1 = .ok (.getfield 90, 3) := by rw [cd_79]; decide +kernel
theorem e_79_1 {d : Nat} {h : mM} {L : mLs} {st : List Value} {a : Nat} : ev d 79 1 L (.ref a :: st) h = if mK h a = 10 then oB (mR h a 32) (fun b => ev d 79 4 L (.ref b :: st) h) else none := ev_gR d_79_1 (by decide +kernel) (by decide +kernel)
theorem d_79_4 : decode (cd 79) 4 = .ok (.ldc2_w 109, 3) := by rw [cd_79]; decide +kernel
theorem e_79_4 {d : Nat} {h : mM} {L : mLs} {st : List Value} : ev d 79 4 L st h = ev d 79 7 L (.long (-1000000000) :: st) h := ev_of d_79_4 rfl
theorem d_79_7 : decode (cd 79) 7 = .ok (.lload_n 1, 1) := by rw [cd_79]; decide +kernel
theorem e_79_7 {d : Nat} {h : mM} {o0 : Option Value} {T : mLs} {x : Int64} {st : List Value} : ev d 79 7 (o0 :: some (.long x) :: T) st h = ev d 79 8 (o0 :: some (.long x) :: T) (.long x :: st) h := ev_of d_79_7 rfl
theorem d_79_8 : decode (cd 79) 8 = .ok (.lsub, 1) := by rw [cd_79]; decide +kernel
theorem e_79_8 {d : Nat} {h : mM} {L : mLs} {st : List Value} {x y : Int64} : ev d 79 8 L (.long y :: .long x :: st) h = ev d 79 9 L (.long (x - y) :: st) h := ev_of d_79_8 rfl
theorem d_79_9 : decode (cd 79) 9 = .ok (.l2i, 1) := by rw [cd_79]; decide +kernel
theorem e_79_9 {d : Nat} {h : mM} {L : mLs} {st : List Value} {x : Int64} : ev d 79 9 L (.long x :: st) h = ev d 79 10 L (.int x.toInt32 :: st) h := ev_of d_79_9 rfl
theorem d_79_10 : decode (cd 79) 10 = .ok (.dup2, 1) := by rw [cd_79]; decide +kernel
theorem e_79_10 {d : Nat} {h : mM} {L : mLs} {st : List Value} {a : Nat} {i : Int32} : ev d 79 10 L (.int i :: .ref a :: st) h = ev d 79 11 L (.int i :: .ref a :: .int i :: .ref a :: st) h := ev_of d_79_10 rfl
theorem d_79_11 : decode (cd 79) 11 = .ok (.laload, 1) := by rw [cd_79]; decide +kernel
theorem e_79_11 {d : Nat} {h : mM} {L : mLs} {st : List Value} {a : Nat} {i : Int32} : ev d 79 11 L (.int i :: .ref a :: st) h = if mK h a = 12 ∧ ixOK i (mL h a) = true then ev d 79 12 L (.long (mJ h a i.toNatClampNeg) :: st) h else none := ev_la d_79_11
theorem d_79_12 : decode (cd 79) 12 = .ok (.lconst 1, 1) := by rw [cd_79]; decide +kernel
theorem e_79_12 {d : Nat} {h : mM} {L : mLs} {st : List Value} : ev d 79 12 L st h = ev d 79 13 L (.long 1 :: st) h := ev_of d_79_12 rfl
theorem d_79_13 : decode (cd 79) 13 = .ok (.ladd, 1) := by rw [cd_79]; decide +kernel
theorem e_79_13 {d : Nat} {h : mM} {L : mLs} {st : List Value} {x y : Int64} : ev d 79 13 L (.long y :: .long x :: st) h = ev d 79 14 L (.long (x + y) :: st) h := ev_of d_79_13 rfl
theorem d_79_14 : decode (cd 79) 14 = .ok (.lastore, 1) := by rw [cd_79]; decide +kernel
theorem e_79_14 {d : Nat} {h : mM} {L : mLs} {st : List Value} {a : Nat} {i : Int32} {v : Int64} : ev d 79 14 L (.long v :: .int i :: .ref a :: st) h = if mK h a = 12 ∧ ixOK i (mL h a) = true then ev d 79 15 L st (wJ h a i.toNatClampNeg v) else none := ev_ls d_79_14
theorem d_79_15 : decode (cd 79) 15 = .ok (.lload_n 1, 1) := by rw [cd_79]; decide +kernel
theorem e_79_15 {d : Nat} {h : mM} {o0 : Option Value} {T : mLs} {x : Int64} {st : List Value} : ev d 79 15 (o0 :: some (.long x) :: T) st h = ev d 79 16 (o0 :: some (.long x) :: T) (.long x :: st) h := ev_of d_79_15 rfl
theorem d_79_16 : decode (cd 79) 16 = .ok (.lreturn, 1) := by rw [cd_79]; decide +kernel
theorem e_79_16 {d : Nat} {h : mM} {L : mLs} {v : Int64} : ev d 79 16 L [.long v] h = some (some (.long v), h) := ev_rl d_79_16 (by decide +kernel)
-- 80: Model.within
theorem cd_80 : cd 80 = prog_12_method_3_code := rfl
theorem d_80_0 : decode (cd 80) 0 = .ok (.iload_n 0, 1) := by rw [cd_80]; decide +kernel
theorem e_80_0 {d : Nat} {h : mM} {T : mLs} {x : Int32} {st : List Value} : ev d 80 0 ( some (.int x) :: T) st h = ev d 80 1 ( some (.int x) :: T) (.int x :: st) h := ev_of d_80_0 rfl
theorem d_80_1 : decode (cd 80) 1 = .ok (.iload_n 1, 1) := by rw [cd_80]; decide +kernel
theorem e_80_1 {d : Nat} {h : mM} {o0 : Option Value} {T : mLs} {x : Int32} {st : List Value} : ev d 80 1 (o0 :: some (.int x) :: T) st h = ev d 80 2 (o0 :: some (.int x) :: T) (.int x :: st) h := ev_of d_80_1 rfl
theorem d_80_2 : decode (cd 80) 2 = .ok (.if_icmp .lt 12, 3) := by rw [cd_80]; decide +kernel
theorem e_80_2 {d : Nat} {h : mM} {L : mLs} {st : List Value} {x y : Int32} : ev d 80 2 L (.int y :: .int x :: st) h = if x < y then ev d 80 14 L st h else ev d 80 5 L st h := ev_ic (x < y) inferInstance rfl d_80_2 (by decide)
theorem d_80_5 : decode (cd 80) 5 = .ok (.iload_n 0, 1) := by rw [cd_80]; decide +kernel
theorem e_80_5 {d : Nat} {h : mM} {T : mLs} {x : Int32} {st : List Value} : ev d 80 5 ( some (.int x) :: T) st h = ev d 80 6 ( some (.int x) :: T) (.int x :: st) h := ev_of d_80_5 rfl
theorem d_80_6 : decode (cd 80) 6 = .ok (.iload_n 2, 1) := by rw [cd_80]; decide +kernel
theorem e_80_6 {d : Nat} {h : mM} {o0 o1 : Option Value} {T : mLs} {x : Int32} {st : List Value} : ev d 80 6 (o0 :: o1 :: some (.int x) :: T) st h = ev d 80 7 (o0 :: o1 :: some (.int x) :: T) (.int x :: st) h := ev_of d_80_6 rfl
theorem d_80_7 : decode (cd 80) 7 = .ok (.if_icmp .gt 7, 3) := by rw [cd_80]; decide +kernel
theorem e_80_7 {d : Nat} {h : mM} {L : mLs} {st : List Value} {x y : Int32} : ev d 80 7 L (.int y :: .int x :: st) h = if y < x then ev d 80 14 L st h else ev d 80 10 L st h := ev_ic (y < x) inferInstance rfl d_80_7 (by decide)
theorem d_80_10 : decode (cd 80) 10 = .ok (.iconst 1, 1) := by rw [cd_80]; decide +kernel
theorem e_80_10 {d : Nat} {h : mM} {L : mLs} {st : List Value} : ev d 80 10 L st h = ev d 80 11 L (.int 1 :: st) h := ev_of d_80_10 rfl
theorem d_80_11 : decode (cd 80) 11 = .ok (.goto 4, 3) := by rw [cd_80]; decide +kernel
theorem e_80_11 {d : Nat} {h : mM} {L : mLs} {st : List Value} : ev d 80 11 L st h = ev d 80 15 L st h := ev_go d_80_11 (by decide)
theorem d_80_14 : decode (cd 80) 14 = .ok (.iconst 0, 1) := by rw [cd_80]; decide +kernel
theorem e_80_14 {d : Nat} {h : mM} {L : mLs} {st : List Value} : ev d 80 14 L st h = ev d 80 15 L (.int 0 :: st) h := ev_of d_80_14 rfl
theorem d_80_15 : decode (cd 80) 15 = .ok (.ireturn, 1) := by rw [cd_80]; decide +kernel
theorem e_80_15 {d : Nat} {h : mM} {L : mLs} {v : Int32} : ev d 80 15 L [.int v] h = if mZO v = true then some (some (.int v), h) else none := ev_rz d_80_15 (by decide +kernel)
-- 81: Model.isPond
theorem cd_81 : cd 81 = prog_12_method_4_code := rfl
theorem d_81_0 : decode (cd 81) 0 = .ok (.iload_n 1, 1) := by rw [cd_81]; decide +kernel
theorem e_81_0 {d : Nat} {h : mM} {o0 : Option Value} {T : mLs} {x : Int32} {st : List Value} : ev d 81 0 (o0 :: some (.int x) :: T) st h = ev d 81 1 (o0 :: some (.int x) :: T) (.int x :: st) h := ev_of d_81_0 rfl
theorem d_81_1 : decode (cd 81) 1 = .ok (.iconst 0, 1) := by rw [cd_81]; decide +kernel
theorem e_81_1 {d : Nat} {h : mM} {L : mLs} {st : List Value} : ev d 81 1 L st h = ev d 81 2 L (.int 0 :: st) h := ev_of d_81_1 rfl
theorem d_81_2 : decode (cd 81) 2 = .ok (.aload_n 0, 1) := by rw [cd_81]; decide +kernel
theorem e_81_2 {d : Nat} {h : mM} {T : mLs} {x : Nat} {st : List Value} : ev d 81 2 ( some (.ref x) :: T) st h = ev d 81 3 ( some (.ref x) :: T) (.ref x :: st) h := ev_of d_81_2 rfl
theorem d_81_3 : decode (cd 81) 3 = .ok (.getfield 111, 3) := by rw [cd_81]; decide +kernel
theorem e_81_3 {d : Nat} {h : mM} {L : mLs} {st : List Value} {a : Nat} : ev d 81 3 L (.ref a :: st) h = if mK h a = 10 then ev d 81 6 L (.int (mI h a 3) :: st) h else none := ev_gI d_81_3 (by decide +kernel) (by decide +kernel)
theorem d_81_6 : decode (cd 81) 6 = .ok (.iconst 1, 1) := by rw [cd_81]; decide +kernel
theorem e_81_6 {d : Nat} {h : mM} {L : mLs} {st : List Value} : ev d 81 6 L st h = ev d 81 7 L (.int 1 :: st) h := ev_of d_81_6 rfl
theorem d_81_7 : decode (cd 81) 7 = .ok (.isub, 1) := by rw [cd_81]; decide +kernel
theorem e_81_7 {d : Nat} {h : mM} {L : mLs} {st : List Value} {x y : Int32} : ev d 81 7 L (.int y :: .int x :: st) h = ev d 81 8 L (.int (x - y) :: st) h := ev_of d_81_7 rfl
theorem d_81_8 : decode (cd 81) 8 = .ok (.invokestatic 114, 3) := by rw [cd_81]; decide +kernel
theorem e_81_8 {d : Nat} {h : mM} {L : mLs} {st : List Value} {x0 : Int32} {x1 : Int32} {x2 : Int32} (hc : mCat st ≤ 8) : ev (d + 1) 81 8 L (.int x2 :: .int x1 :: .int x0 :: st) h = cV (ev d 80 0 [some (.int x0), some (.int x1), some (.int x2)] [] h) (fun v h1 => ev (d + 1) 81 11 L (v ++ st) h1) := ev_cs (kd := 1) (mj := 80) (as := [.int x0, .int x1, .int x2]) (rest := st) d_81_8 (by decide +kernel) (by decide) rfl rfl (by show _ ≤ List.length _; simp only [List.length_cons]; have : na 80 = 3 := rfl; omega) rfl (Nat.le_of_ble_eq_true rfl) hc
theorem d_81_11 : decode (cd 81) 11 = .ok (.ireturn, 1) := by rw [cd_81]; decide +kernel
theorem e_81_11 {d : Nat} {h : mM} {L : mLs} {v : Int32} : ev d 81 11 L [.int v] h = if mZO v = true then some (some (.int v), h) else none := ev_rz d_81_11 (by decide +kernel)
-- 82: Model.isMill
theorem cd_82 : cd 82 = prog_12_method_5_code := rfl
theorem d_82_0 : decode (cd 82) 0 = .ok (.iload_n 1, 1) := by rw [cd_82]; decide +kernel
theorem e_82_0 {d : Nat} {h : mM} {o0 : Option Value} {T : mLs} {x : Int32} {st : List Value} : ev d 82 0 (o0 :: some (.int x) :: T) st h = ev d 82 1 (o0 :: some (.int x) :: T) (.int x :: st) h := ev_of d_82_0 rfl
theorem d_82_1 : decode (cd 82) 1 = .ok (.iconst 0, 1) := by rw [cd_82]; decide +kernel
theorem e_82_1 {d : Nat} {h : mM} {L : mLs} {st : List Value} : ev d 82 1 L st h = ev d 82 2 L (.int 0 :: st) h := ev_of d_82_1 rfl
theorem d_82_2 : decode (cd 82) 2 = .ok (.aload_n 0, 1) := by rw [cd_82]; decide +kernel
theorem e_82_2 {d : Nat} {h : mM} {T : mLs} {x : Nat} {st : List Value} : ev d 82 2 ( some (.ref x) :: T) st h = ev d 82 3 ( some (.ref x) :: T) (.ref x :: st) h := ev_of d_82_2 rfl
theorem d_82_3 : decode (cd 82) 3 = .ok (.getfield 118, 3) := by rw [cd_82]; decide +kernel
theorem e_82_3 {d : Nat} {h : mM} {L : mLs} {st : List Value} {a : Nat} : ev d 82 3 L (.ref a :: st) h = if mK h a = 10 then ev d 82 6 L (.int (mI h a 13) :: st) h else none := ev_gI d_82_3 (by decide +kernel) (by decide +kernel)
theorem d_82_6 : decode (cd 82) 6 = .ok (.iconst 1, 1) := by rw [cd_82]; decide +kernel
theorem e_82_6 {d : Nat} {h : mM} {L : mLs} {st : List Value} : ev d 82 6 L st h = ev d 82 7 L (.int 1 :: st) h := ev_of d_82_6 rfl
theorem d_82_7 : decode (cd 82) 7 = .ok (.isub, 1) := by rw [cd_82]; decide +kernel
theorem e_82_7 {d : Nat} {h : mM} {L : mLs} {st : List Value} {x y : Int32} : ev d 82 7 L (.int y :: .int x :: st) h = ev d 82 8 L (.int (x - y) :: st) h := ev_of d_82_7 rfl
theorem d_82_8 : decode (cd 82) 8 = .ok (.invokestatic 114, 3) := by rw [cd_82]; decide +kernel
theorem e_82_8 {d : Nat} {h : mM} {L : mLs} {st : List Value} {x0 : Int32} {x1 : Int32} {x2 : Int32} (hc : mCat st ≤ 8) : ev (d + 1) 82 8 L (.int x2 :: .int x1 :: .int x0 :: st) h = cV (ev d 80 0 [some (.int x0), some (.int x1), some (.int x2)] [] h) (fun v h1 => ev (d + 1) 82 11 L (v ++ st) h1) := ev_cs (kd := 1) (mj := 80) (as := [.int x0, .int x1, .int x2]) (rest := st) d_82_8 (by decide +kernel) (by decide) rfl rfl (by show _ ≤ List.length _; simp only [List.length_cons]; have : na 80 = 3 := rfl; omega) rfl (Nat.le_of_ble_eq_true rfl) hc
theorem d_82_11 : decode (cd 82) 11 = .ok (.ireturn, 1) := by rw [cd_82]; decide +kernel
theorem e_82_11 {d : Nat} {h : mM} {L : mLs} {v : Int32} : ev d 82 11 L [.int v] h = if mZO v = true then some (some (.int v), h) else none := ev_rz d_82_11 (by decide +kernel)
-- 83: Model.round
theorem cd_83 : cd 83 = prog_12_method_6_code := rfl
theorem d_83_0 : decode (cd 83) 0 = .ok (.iload_n 1, 1) := by rw [cd_83]; decide +kernel
theorem e_83_0 {d : Nat} {h : mM} {o0 : Option Value} {T : mLs} {x : Int32} {st : List Value} : ev d 83 0 (o0 :: some (.int x) :: T) st h = ev d 83 1 (o0 :: some (.int x) :: T) (.int x :: st) h := ev_of d_83_0 rfl
theorem d_83_1 : decode (cd 83) 1 = .ok (.iconst 1, 1) := by rw [cd_83]; decide +kernel
theorem e_83_1 {d : Nat} {h : mM} {L : mLs} {st : List Value} : ev d 83 1 L st h = ev d 83 2 L (.int 1 :: st) h := ev_of d_83_1 rfl
theorem d_83_2 : decode (cd 83) 2 = .ok (.bipush 24, 2) := by rw [cd_83]; decide +kernel
theorem e_83_2 {d : Nat} {h : mM} {L : mLs} {st : List Value} : ev d 83 2 L st h = ev d 83 4 L (.int 24 :: st) h := ev_of d_83_2 rfl
theorem d_83_4 : decode (cd 83) 4 = .ok (.invokestatic 114, 3) := by rw [cd_83]; decide +kernel
theorem e_83_4 {d : Nat} {h : mM} {L : mLs} {st : List Value} {x0 : Int32} {x1 : Int32} {x2 : Int32} (hc : mCat st ≤ 8) : ev (d + 1) 83 4 L (.int x2 :: .int x1 :: .int x0 :: st) h = cV (ev d 80 0 [some (.int x0), some (.int x1), some (.int x2)] [] h) (fun v h1 => ev (d + 1) 83 7 L (v ++ st) h1) := ev_cs (kd := 1) (mj := 80) (as := [.int x0, .int x1, .int x2]) (rest := st) d_83_4 (by decide +kernel) (by decide) rfl rfl (by show _ ≤ List.length _; simp only [List.length_cons]; have : na 80 = 3 := rfl; omega) rfl (Nat.le_of_ble_eq_true rfl) hc
theorem d_83_7 : decode (cd 83) 7 = .ok (.ifCond .ne 11, 3) := by rw [cd_83]; decide +kernel
theorem e_83_7 {d : Nat} {h : mM} {L : mLs} {st : List Value} {x : Int32} : ev d 83 7 L (.int x :: st) h = if ¬ x = 0 then ev d 83 18 L st h else ev d 83 10 L st h := ev_if (¬ x = 0) inferInstance rfl d_83_7 (by decide)
theorem d_83_10 : decode (cd 83) 10 = .ok (.aload_n 0, 1) := by rw [cd_83]; decide +kernel
theorem e_83_10 {d : Nat} {h : mM} {T : mLs} {x : Nat} {st : List Value} : ev d 83 10 ( some (.ref x) :: T) st h = ev d 83 11 ( some (.ref x) :: T) (.ref x :: st) h := ev_of d_83_10 rfl
theorem d_83_11 : decode (cd 83) 11 = .ok (.ldc2_w 121, 3) := by rw [cd_83]; decide +kernel
theorem e_83_11 {d : Nat} {h : mM} {L : mLs} {st : List Value} : ev d 83 11 L st h = ev d 83 14 L (.long (-1000000001) :: st) h := ev_of d_83_11 rfl
theorem d_83_14 : decode (cd 83) 14 = .ok (.invokevirtual 123, 3) := by rw [cd_83]; decide +kernel
theorem e_83_14 {d : Nat} {h : mM} {L : mLs} {st : List Value} {a : Nat} {x0 : Int64} (hc : mCat st ≤ 8) : ev (d + 1) 83 14 L (.long x0 :: .ref a :: st) h = if mK h a = 10 then cV (ev d 79 0 [some (.ref a), some (.long x0), none] [] h) (fun v h1 => ev (d + 1) 83 17 L (v ++ st) h1) else none := ev_cv (mj := 79) (as := [.long x0]) (rest := st) d_83_14 (by decide +kernel) rfl rfl (by show _ ≤ List.length _; simp only [List.length_cons]; have : na 79 = 1 := rfl; omega) rfl (Nat.le_of_ble_eq_true rfl) hc
theorem d_83_17 : decode (cd 83) 17 = .ok (.lreturn, 1) := by rw [cd_83]; decide +kernel
theorem e_83_17 {d : Nat} {h : mM} {L : mLs} {v : Int64} : ev d 83 17 L [.long v] h = some (some (.long v), h) := ev_rl d_83_17 (by decide +kernel)
theorem d_83_18 : decode (cd 83) 18 = .ok (.aload_n 0, 1) := by rw [cd_83]; decide +kernel
theorem e_83_18 {d : Nat} {h : mM} {T : mLs} {x : Nat} {st : List Value} : ev d 83 18 ( some (.ref x) :: T) st h = ev d 83 19 ( some (.ref x) :: T) (.ref x :: st) h := ev_of d_83_18 rfl
theorem d_83_19 : decode (cd 83) 19 = .ok (.getfield 9, 3) := by rw [cd_83]; decide +kernel
theorem e_83_19 {d : Nat} {h : mM} {L : mLs} {st : List Value} {a : Nat} : ev d 83 19 L (.ref a :: st) h = if mK h a = 10 then ev d 83 22 L (.int (mI h a 1) :: st) h else none := ev_gI d_83_19 (by decide +kernel) (by decide +kernel)
theorem d_83_22 : decode (cd 83) 22 = .ok (.istore_n 2, 1) := by rw [cd_83]; decide +kernel
theorem e_83_22 {d : Nat} {h : mM} {o0 o1 o2 : Option Value} {T : mLs} {x : Int32} {st : List Value} (hl : mLong o1 = false) : ev d 83 22 (o0 :: o1 :: o2 :: T) (.int x :: st) h = ev d 83 23 (o0 :: o1 :: some (.int x) :: T) st h := ev_st_in d_83_22 (by decide +kernel) (mS1_s (j := 1) hl)
theorem d_83_23 : decode (cd 83) 23 = .ok (.aload_n 0, 1) := by rw [cd_83]; decide +kernel
theorem e_83_23 {d : Nat} {h : mM} {T : mLs} {x : Nat} {st : List Value} : ev d 83 23 ( some (.ref x) :: T) st h = ev d 83 24 ( some (.ref x) :: T) (.ref x :: st) h := ev_of d_83_23 rfl
theorem d_83_24 : decode (cd 83) 24 = .ok (.iload_n 1, 1) := by rw [cd_83]; decide +kernel
theorem e_83_24 {d : Nat} {h : mM} {o0 : Option Value} {T : mLs} {x : Int32} {st : List Value} : ev d 83 24 (o0 :: some (.int x) :: T) st h = ev d 83 25 (o0 :: some (.int x) :: T) (.int x :: st) h := ev_of d_83_24 rfl
theorem d_83_25 : decode (cd 83) 25 = .ok (.putfield 9, 3) := by rw [cd_83]; decide +kernel
theorem e_83_25 {d : Nat} {h : mM} {L : mLs} {st : List Value} {a : Nat} {v : Int32} : ev d 83 25 L (.int v :: .ref a :: st) h = if mK h a = 10 then ev d 83 28 L st (wI h a 1 v) else none := ev_pI d_83_25 (by decide +kernel) (by decide +kernel) (by decide +kernel)
theorem d_83_28 : decode (cd 83) 28 = .ok (.iload_n 2, 1) := by rw [cd_83]; decide +kernel
theorem e_83_28 {d : Nat} {h : mM} {o0 o1 : Option Value} {T : mLs} {x : Int32} {st : List Value} : ev d 83 28 (o0 :: o1 :: some (.int x) :: T) st h = ev d 83 29 (o0 :: o1 :: some (.int x) :: T) (.int x :: st) h := ev_of d_83_28 rfl
theorem d_83_29 : decode (cd 83) 29 = .ok (.i2l, 1) := by rw [cd_83]; decide +kernel
theorem e_83_29 {d : Nat} {h : mM} {L : mLs} {st : List Value} {x : Int32} : ev d 83 29 L (.int x :: st) h = ev d 83 30 L (.long x.toInt64 :: st) h := ev_of d_83_29 rfl
theorem d_83_30 : decode (cd 83) 30 = .ok (.lreturn, 1) := by rw [cd_83]; decide +kernel
theorem e_83_30 {d : Nat} {h : mM} {L : mLs} {v : Int64} : ev d 83 30 L [.long v] h = some (some (.long v), h) := ev_rl d_83_30 (by decide +kernel)
-- 84: Model.height
theorem cd_84 : cd 84 = prog_12_method_7_code := rfl
theorem d_84_0 : decode (cd 84) 0 = .ok (.iload_n 1, 1) := by rw [cd_84]; decide +kernel
theorem e_84_0 {d : Nat} {h : mM} {o0 : Option Value} {T : mLs} {x : Int32} {st : List Value} : ev d 84 0 (o0 :: some (.int x) :: T) st h = ev d 84 1 (o0 :: some (.int x) :: T) (.int x :: st) h := ev_of d_84_0 rfl
theorem d_84_1 : decode (cd 84) 1 = .ok (.iconst 0, 1) := by rw [cd_84]; decide +kernel
theorem e_84_1 {d : Nat} {h : mM} {L : mLs} {st : List Value} : ev d 84 1 L st h = ev d 84 2 L (.int 0 :: st) h := ev_of d_84_1 rfl
theorem d_84_2 : decode (cd 84) 2 = .ok (.bipush 23, 2) := by rw [cd_84]; decide +kernel
theorem e_84_2 {d : Nat} {h : mM} {L : mLs} {st : List Value} : ev d 84 2 L st h = ev d 84 4 L (.int 23 :: st) h := ev_of d_84_2 rfl
theorem d_84_4 : decode (cd 84) 4 = .ok (.invokestatic 114, 3) := by rw [cd_84]; decide +kernel
theorem e_84_4 {d : Nat} {h : mM} {L : mLs} {st : List Value} {x0 : Int32} {x1 : Int32} {x2 : Int32} (hc : mCat st ≤ 8) : ev (d + 1) 84 4 L (.int x2 :: .int x1 :: .int x0 :: st) h = cV (ev d 80 0 [some (.int x0), some (.int x1), some (.int x2)] [] h) (fun v h1 => ev (d + 1) 84 7 L (v ++ st) h1) := ev_cs (kd := 1) (mj := 80) (as := [.int x0, .int x1, .int x2]) (rest := st) d_84_4 (by decide +kernel) (by decide) rfl rfl (by show _ ≤ List.length _; simp only [List.length_cons]; have : na 80 = 3 := rfl; omega) rfl (Nat.le_of_ble_eq_true rfl) hc
theorem d_84_7 : decode (cd 84) 7 = .ok (.ifCond .eq 14, 3) := by rw [cd_84]; decide +kernel
theorem e_84_7 {d : Nat} {h : mM} {L : mLs} {st : List Value} {x : Int32} : ev d 84 7 L (.int x :: st) h = if x = 0 then ev d 84 21 L st h else ev d 84 10 L st h := ev_if (x = 0) inferInstance rfl d_84_7 (by decide)
theorem d_84_10 : decode (cd 84) 10 = .ok (.iload_n 2, 1) := by rw [cd_84]; decide +kernel
theorem e_84_10 {d : Nat} {h : mM} {o0 o1 : Option Value} {T : mLs} {x : Int32} {st : List Value} : ev d 84 10 (o0 :: o1 :: some (.int x) :: T) st h = ev d 84 11 (o0 :: o1 :: some (.int x) :: T) (.int x :: st) h := ev_of d_84_10 rfl
theorem d_84_11 : decode (cd 84) 11 = .ok (.iconst 0, 1) := by rw [cd_84]; decide +kernel
theorem e_84_11 {d : Nat} {h : mM} {L : mLs} {st : List Value} : ev d 84 11 L st h = ev d 84 12 L (.int 0 :: st) h := ev_of d_84_11 rfl
theorem d_84_12 : decode (cd 84) 12 = .ok (.sipush 200, 3) := by rw [cd_84]; decide +kernel
theorem e_84_12 {d : Nat} {h : mM} {L : mLs} {st : List Value} : ev d 84 12 L st h = ev d 84 15 L (.int 200 :: st) h := ev_of d_84_12 rfl
theorem d_84_15 : decode (cd 84) 15 = .ok (.invokestatic 114, 3) := by rw [cd_84]; decide +kernel
theorem e_84_15 {d : Nat} {h : mM} {L : mLs} {st : List Value} {x0 : Int32} {x1 : Int32} {x2 : Int32} (hc : mCat st ≤ 8) : ev (d + 1) 84 15 L (.int x2 :: .int x1 :: .int x0 :: st) h = cV (ev d 80 0 [some (.int x0), some (.int x1), some (.int x2)] [] h) (fun v h1 => ev (d + 1) 84 18 L (v ++ st) h1) := ev_cs (kd := 1) (mj := 80) (as := [.int x0, .int x1, .int x2]) (rest := st) d_84_15 (by decide +kernel) (by decide) rfl rfl (by show _ ≤ List.length _; simp only [List.length_cons]; have : na 80 = 3 := rfl; omega) rfl (Nat.le_of_ble_eq_true rfl) hc
theorem d_84_18 : decode (cd 84) 18 = .ok (.ifCond .ne 11, 3) := by rw [cd_84]; decide +kernel
theorem e_84_18 {d : Nat} {h : mM} {L : mLs} {st : List Value} {x : Int32} : ev d 84 18 L (.int x :: st) h = if ¬ x = 0 then ev d 84 29 L st h else ev d 84 21 L st h := ev_if (¬ x = 0) inferInstance rfl d_84_18 (by decide)
theorem d_84_21 : decode (cd 84) 21 = .ok (.aload_n 0, 1) := by rw [cd_84]; decide +kernel
theorem e_84_21 {d : Nat} {h : mM} {T : mLs} {x : Nat} {st : List Value} : ev d 84 21 ( some (.ref x) :: T) st h = ev d 84 22 ( some (.ref x) :: T) (.ref x :: st) h := ev_of d_84_21 rfl
theorem d_84_22 : decode (cd 84) 22 = .ok (.ldc2_w 121, 3) := by rw [cd_84]; decide +kernel
theorem e_84_22 {d : Nat} {h : mM} {L : mLs} {st : List Value} : ev d 84 22 L st h = ev d 84 25 L (.long (-1000000001) :: st) h := ev_of d_84_22 rfl
theorem d_84_25 : decode (cd 84) 25 = .ok (.invokevirtual 123, 3) := by rw [cd_84]; decide +kernel
theorem e_84_25 {d : Nat} {h : mM} {L : mLs} {st : List Value} {a : Nat} {x0 : Int64} (hc : mCat st ≤ 8) : ev (d + 1) 84 25 L (.long x0 :: .ref a :: st) h = if mK h a = 10 then cV (ev d 79 0 [some (.ref a), some (.long x0), none] [] h) (fun v h1 => ev (d + 1) 84 28 L (v ++ st) h1) else none := ev_cv (mj := 79) (as := [.long x0]) (rest := st) d_84_25 (by decide +kernel) rfl rfl (by show _ ≤ List.length _; simp only [List.length_cons]; have : na 79 = 1 := rfl; omega) rfl (Nat.le_of_ble_eq_true rfl) hc
theorem d_84_28 : decode (cd 84) 28 = .ok (.lreturn, 1) := by rw [cd_84]; decide +kernel
theorem e_84_28 {d : Nat} {h : mM} {L : mLs} {v : Int64} : ev d 84 28 L [.long v] h = some (some (.long v), h) := ev_rl d_84_28 (by decide +kernel)
theorem d_84_29 : decode (cd 84) 29 = .ok (.aload_n 0, 1) := by rw [cd_84]; decide +kernel
theorem e_84_29 {d : Nat} {h : mM} {T : mLs} {x : Nat} {st : List Value} : ev d 84 29 ( some (.ref x) :: T) st h = ev d 84 30 ( some (.ref x) :: T) (.ref x :: st) h := ev_of d_84_29 rfl
theorem d_84_30 : decode (cd 84) 30 = .ok (.getfield 13, 3) := by rw [cd_84]; decide +kernel
theorem e_84_30 {d : Nat} {h : mM} {L : mLs} {st : List Value} {a : Nat} : ev d 84 30 L (.ref a :: st) h = if mK h a = 10 then oB (mR h a 2) (fun b => ev d 84 33 L (.ref b :: st) h) else none := ev_gR d_84_30 (by decide +kernel) (by decide +kernel)
theorem d_84_33 : decode (cd 84) 33 = .ok (.iload_n 1, 1) := by rw [cd_84]; decide +kernel
theorem e_84_33 {d : Nat} {h : mM} {o0 : Option Value} {T : mLs} {x : Int32} {st : List Value} : ev d 84 33 (o0 :: some (.int x) :: T) st h = ev d 84 34 (o0 :: some (.int x) :: T) (.int x :: st) h := ev_of d_84_33 rfl
theorem d_84_34 : decode (cd 84) 34 = .ok (.iaload, 1) := by rw [cd_84]; decide +kernel
theorem e_84_34 {d : Nat} {h : mM} {L : mLs} {st : List Value} {a : Nat} {i : Int32} : ev d 84 34 L (.int i :: .ref a :: st) h = if (mK h a = 11 ∨ mK h a = 19) ∧ ixOK i (mL h a) = true then ev d 84 35 L (.int (mI h a i.toNatClampNeg) :: st) h else none := ev_ia d_84_34
theorem d_84_35 : decode (cd 84) 35 = .ok (.istore_n 3, 1) := by rw [cd_84]; decide +kernel
theorem e_84_35 {d : Nat} {h : mM} {o0 o1 o2 o3 : Option Value} {T : mLs} {x : Int32} {st : List Value} (hl : mLong o2 = false) : ev d 84 35 (o0 :: o1 :: o2 :: o3 :: T) (.int x :: st) h = ev d 84 36 (o0 :: o1 :: o2 :: some (.int x) :: T) st h := ev_st_in d_84_35 (by decide +kernel) (mS1_s (j := 2) hl)
theorem d_84_36 : decode (cd 84) 36 = .ok (.aload_n 0, 1) := by rw [cd_84]; decide +kernel
theorem e_84_36 {d : Nat} {h : mM} {T : mLs} {x : Nat} {st : List Value} : ev d 84 36 ( some (.ref x) :: T) st h = ev d 84 37 ( some (.ref x) :: T) (.ref x :: st) h := ev_of d_84_36 rfl
theorem d_84_37 : decode (cd 84) 37 = .ok (.getfield 13, 3) := by rw [cd_84]; decide +kernel
theorem e_84_37 {d : Nat} {h : mM} {L : mLs} {st : List Value} {a : Nat} : ev d 84 37 L (.ref a :: st) h = if mK h a = 10 then oB (mR h a 2) (fun b => ev d 84 40 L (.ref b :: st) h) else none := ev_gR d_84_37 (by decide +kernel) (by decide +kernel)
theorem d_84_40 : decode (cd 84) 40 = .ok (.iload_n 1, 1) := by rw [cd_84]; decide +kernel
theorem e_84_40 {d : Nat} {h : mM} {o0 : Option Value} {T : mLs} {x : Int32} {st : List Value} : ev d 84 40 (o0 :: some (.int x) :: T) st h = ev d 84 41 (o0 :: some (.int x) :: T) (.int x :: st) h := ev_of d_84_40 rfl
theorem d_84_41 : decode (cd 84) 41 = .ok (.iload_n 2, 1) := by rw [cd_84]; decide +kernel
theorem e_84_41 {d : Nat} {h : mM} {o0 o1 : Option Value} {T : mLs} {x : Int32} {st : List Value} : ev d 84 41 (o0 :: o1 :: some (.int x) :: T) st h = ev d 84 42 (o0 :: o1 :: some (.int x) :: T) (.int x :: st) h := ev_of d_84_41 rfl
theorem d_84_42 : decode (cd 84) 42 = .ok (.iastore, 1) := by rw [cd_84]; decide +kernel
theorem e_84_42 {d : Nat} {h : mM} {L : mLs} {st : List Value} {a : Nat} {i v : Int32} : ev d 84 42 L (.int v :: .int i :: .ref a :: st) h = if mK h a = 11 ∧ ixOK i (mL h a) = true then ev d 84 43 L st (wI h a i.toNatClampNeg v) else none := ev_is d_84_42
theorem d_84_43 : decode (cd 84) 43 = .ok (.iload_n 3, 1) := by rw [cd_84]; decide +kernel
theorem e_84_43 {d : Nat} {h : mM} {o0 o1 o2 : Option Value} {T : mLs} {x : Int32} {st : List Value} : ev d 84 43 (o0 :: o1 :: o2 :: some (.int x) :: T) st h = ev d 84 44 (o0 :: o1 :: o2 :: some (.int x) :: T) (.int x :: st) h := ev_of d_84_43 rfl
theorem d_84_44 : decode (cd 84) 44 = .ok (.i2l, 1) := by rw [cd_84]; decide +kernel
theorem e_84_44 {d : Nat} {h : mM} {L : mLs} {st : List Value} {x : Int32} : ev d 84 44 L (.int x :: st) h = ev d 84 45 L (.long x.toInt64 :: st) h := ev_of d_84_44 rfl
theorem d_84_45 : decode (cd 84) 45 = .ok (.lreturn, 1) := by rw [cd_84]; decide +kernel
theorem e_84_45 {d : Nat} {h : mM} {L : mLs} {v : Int64} : ev d 84 45 L [.long v] h = some (some (.long v), h) := ev_rl d_84_45 (by decide +kernel)
-- 85: Model.tideOf
theorem cd_85 : cd 85 = prog_12_method_8_code := rfl
theorem d_85_0 : decode (cd 85) 0 = .ok (.aload_n 0, 1) := by rw [cd_85]; decide +kernel
theorem e_85_0 {d : Nat} {h : mM} {T : mLs} {x : Nat} {st : List Value} : ev d 85 0 ( some (.ref x) :: T) st h = ev d 85 1 ( some (.ref x) :: T) (.ref x :: st) h := ev_of d_85_0 rfl
theorem d_85_1 : decode (cd 85) 1 = .ok (.getfield 13, 3) := by rw [cd_85]; decide +kernel
theorem e_85_1 {d : Nat} {h : mM} {L : mLs} {st : List Value} {a : Nat} : ev d 85 1 L (.ref a :: st) h = if mK h a = 10 then oB (mR h a 2) (fun b => ev d 85 4 L (.ref b :: st) h) else none := ev_gR d_85_1 (by decide +kernel) (by decide +kernel)
theorem d_85_4 : decode (cd 85) 4 = .ok (.iload_n 1, 1) := by rw [cd_85]; decide +kernel
theorem e_85_4 {d : Nat} {h : mM} {o0 : Option Value} {T : mLs} {x : Int32} {st : List Value} : ev d 85 4 (o0 :: some (.int x) :: T) st h = ev d 85 5 (o0 :: some (.int x) :: T) (.int x :: st) h := ev_of d_85_4 rfl
theorem d_85_5 : decode (cd 85) 5 = .ok (.aload_n 0, 1) := by rw [cd_85]; decide +kernel
theorem e_85_5 {d : Nat} {h : mM} {T : mLs} {x : Nat} {st : List Value} : ev d 85 5 ( some (.ref x) :: T) st h = ev d 85 6 ( some (.ref x) :: T) (.ref x :: st) h := ev_of d_85_5 rfl
theorem d_85_6 : decode (cd 85) 6 = .ok (.getfield 9, 3) := by rw [cd_85]; decide +kernel
theorem e_85_6 {d : Nat} {h : mM} {L : mLs} {st : List Value} {a : Nat} : ev d 85 6 L (.ref a :: st) h = if mK h a = 10 then ev d 85 9 L (.int (mI h a 1) :: st) h else none := ev_gI d_85_6 (by decide +kernel) (by decide +kernel)
theorem d_85_9 : decode (cd 85) 9 = .ok (.irem, 1) := by rw [cd_85]; decide +kernel
theorem e_85_9 {d : Nat} {h : mM} {L : mLs} {st : List Value} {x y : Int32} : ev d 85 9 L (.int y :: .int x :: st) h = if y = 0 then none else ev d 85 10 L (.int (x - x / y * y) :: st) h := ev_rem d_85_9
theorem d_85_10 : decode (cd 85) 10 = .ok (.iaload, 1) := by rw [cd_85]; decide +kernel
theorem e_85_10 {d : Nat} {h : mM} {L : mLs} {st : List Value} {a : Nat} {i : Int32} : ev d 85 10 L (.int i :: .ref a :: st) h = if (mK h a = 11 ∨ mK h a = 19) ∧ ixOK i (mL h a) = true then ev d 85 11 L (.int (mI h a i.toNatClampNeg) :: st) h else none := ev_ia d_85_10
theorem d_85_11 : decode (cd 85) 11 = .ok (.ireturn, 1) := by rw [cd_85]; decide +kernel
theorem e_85_11 {d : Nat} {h : mM} {L : mLs} {v : Int32} : ev d 85 11 L [.int v] h = some (some (.int v), h) := ev_ri d_85_11 (by decide +kernel)
-- 86: Model.tide
theorem cd_86 : cd 86 = prog_12_method_9_code := rfl
theorem d_86_0 : decode (cd 86) 0 = .ok (.iload_n 1, 1) := by rw [cd_86]; decide +kernel
theorem e_86_0 {d : Nat} {h : mM} {o0 : Option Value} {T : mLs} {x : Int32} {st : List Value} : ev d 86 0 (o0 :: some (.int x) :: T) st h = ev d 86 1 (o0 :: some (.int x) :: T) (.int x :: st) h := ev_of d_86_0 rfl
theorem d_86_1 : decode (cd 86) 1 = .ok (.ifCond .ge 13, 3) := by rw [cd_86]; decide +kernel
theorem e_86_1 {d : Nat} {h : mM} {L : mLs} {st : List Value} {x : Int32} : ev d 86 1 L (.int x :: st) h = if 0 ≤ x then ev d 86 14 L st h else ev d 86 4 L st h := ev_if (0 ≤ x) inferInstance rfl d_86_1 (by decide)
theorem d_86_4 : decode (cd 86) 4 = .ok (.aload_n 0, 1) := by rw [cd_86]; decide +kernel
theorem e_86_4 {d : Nat} {h : mM} {T : mLs} {x : Nat} {st : List Value} : ev d 86 4 ( some (.ref x) :: T) st h = ev d 86 5 ( some (.ref x) :: T) (.ref x :: st) h := ev_of d_86_4 rfl
theorem d_86_5 : decode (cd 86) 5 = .ok (.ldc2_w 121, 3) := by rw [cd_86]; decide +kernel
theorem e_86_5 {d : Nat} {h : mM} {L : mLs} {st : List Value} : ev d 86 5 L st h = ev d 86 8 L (.long (-1000000001) :: st) h := ev_of d_86_5 rfl
theorem d_86_8 : decode (cd 86) 8 = .ok (.invokevirtual 123, 3) := by rw [cd_86]; decide +kernel
theorem e_86_8 {d : Nat} {h : mM} {L : mLs} {st : List Value} {a : Nat} {x0 : Int64} (hc : mCat st ≤ 8) : ev (d + 1) 86 8 L (.long x0 :: .ref a :: st) h = if mK h a = 10 then cV (ev d 79 0 [some (.ref a), some (.long x0), none] [] h) (fun v h1 => ev (d + 1) 86 11 L (v ++ st) h1) else none := ev_cv (mj := 79) (as := [.long x0]) (rest := st) d_86_8 (by decide +kernel) rfl rfl (by show _ ≤ List.length _; simp only [List.length_cons]; have : na 79 = 1 := rfl; omega) rfl (Nat.le_of_ble_eq_true rfl) hc
theorem d_86_11 : decode (cd 86) 11 = .ok (.goto 9, 3) := by rw [cd_86]; decide +kernel
theorem e_86_11 {d : Nat} {h : mM} {L : mLs} {st : List Value} : ev d 86 11 L st h = ev d 86 20 L st h := ev_go d_86_11 (by decide)
theorem d_86_14 : decode (cd 86) 14 = .ok (.aload_n 0, 1) := by rw [cd_86]; decide +kernel
theorem e_86_14 {d : Nat} {h : mM} {T : mLs} {x : Nat} {st : List Value} : ev d 86 14 ( some (.ref x) :: T) st h = ev d 86 15 ( some (.ref x) :: T) (.ref x :: st) h := ev_of d_86_14 rfl
theorem d_86_15 : decode (cd 86) 15 = .ok (.iload_n 1, 1) := by rw [cd_86]; decide +kernel
theorem e_86_15 {d : Nat} {h : mM} {o0 : Option Value} {T : mLs} {x : Int32} {st : List Value} : ev d 86 15 (o0 :: some (.int x) :: T) st h = ev d 86 16 (o0 :: some (.int x) :: T) (.int x :: st) h := ev_of d_86_15 rfl
theorem d_86_16 : decode (cd 86) 16 = .ok (.invokevirtual 127, 3) := by rw [cd_86]; decide +kernel
theorem e_86_16 {d : Nat} {h : mM} {L : mLs} {st : List Value} {a : Nat} {x0 : Int32} (hc : mCat st ≤ 8) : ev (d + 1) 86 16 L (.int x0 :: .ref a :: st) h = if mK h a = 10 then cV (ev d 85 0 [some (.ref a), some (.int x0)] [] h) (fun v h1 => ev (d + 1) 86 19 L (v ++ st) h1) else none := ev_cv (mj := 85) (as := [.int x0]) (rest := st) d_86_16 (by decide +kernel) rfl rfl (by show _ ≤ List.length _; simp only [List.length_cons]; have : na 85 = 1 := rfl; omega) rfl (Nat.le_of_ble_eq_true rfl) hc
theorem d_86_19 : decode (cd 86) 19 = .ok (.i2l, 1) := by rw [cd_86]; decide +kernel
theorem e_86_19 {d : Nat} {h : mM} {L : mLs} {st : List Value} {x : Int32} : ev d 86 19 L (.int x :: st) h = ev d 86 20 L (.long x.toInt64 :: st) h := ev_of d_86_19 rfl
theorem d_86_20 : decode (cd 86) 20 = .ok (.lreturn, 1) := by rw [cd_86]; decide +kernel
theorem e_86_20 {d : Nat} {h : mM} {L : mLs} {v : Int64} : ev d 86 20 L [.long v] h = some (some (.long v), h) := ev_rl d_86_20 (by decide +kernel)
-- 87: Model.pond
theorem cd_87 : cd 87 = prog_12_method_10_code := rfl
theorem d_87_0 : decode (cd 87) 0 = .ok (.iload_n 1, 1) := by rw [cd_87]; decide +kernel
theorem e_87_0 {d : Nat} {h : mM} {o0 : Option Value} {T : mLs} {x : Int32} {st : List Value} : ev d 87 0 (o0 :: some (.int x) :: T) st h = ev d 87 1 (o0 :: some (.int x) :: T) (.int x :: st) h := ev_of d_87_0 rfl
theorem d_87_1 : decode (cd 87) 1 = .ok (.iconst 1, 1) := by rw [cd_87]; decide +kernel
theorem e_87_1 {d : Nat} {h : mM} {L : mLs} {st : List Value} : ev d 87 1 L st h = ev d 87 2 L (.int 1 :: st) h := ev_of d_87_1 rfl
theorem d_87_2 : decode (cd 87) 2 = .ok (.bipush 100, 2) := by rw [cd_87]; decide +kernel
theorem e_87_2 {d : Nat} {h : mM} {L : mLs} {st : List Value} : ev d 87 2 L st h = ev d 87 4 L (.int 100 :: st) h := ev_of d_87_2 rfl
theorem d_87_4 : decode (cd 87) 4 = .ok (.invokestatic 114, 3) := by rw [cd_87]; decide +kernel
theorem e_87_4 {d : Nat} {h : mM} {L : mLs} {st : List Value} {x0 : Int32} {x1 : Int32} {x2 : Int32} (hc : mCat st ≤ 8) : ev (d + 1) 87 4 L (.int x2 :: .int x1 :: .int x0 :: st) h = cV (ev d 80 0 [some (.int x0), some (.int x1), some (.int x2)] [] h) (fun v h1 => ev (d + 1) 87 7 L (v ++ st) h1) := ev_cs (kd := 1) (mj := 80) (as := [.int x0, .int x1, .int x2]) (rest := st) d_87_4 (by decide +kernel) (by decide) rfl rfl (by show _ ≤ List.length _; simp only [List.length_cons]; have : na 80 = 3 := rfl; omega) rfl (Nat.le_of_ble_eq_true rfl) hc
theorem d_87_7 : decode (cd 87) 7 = .ok (.ifCond .eq 25, 3) := by rw [cd_87]; decide +kernel
theorem e_87_7 {d : Nat} {h : mM} {L : mLs} {st : List Value} {x : Int32} : ev d 87 7 L (.int x :: st) h = if x = 0 then ev d 87 32 L st h else ev d 87 10 L st h := ev_if (x = 0) inferInstance rfl d_87_7 (by decide)
theorem d_87_10 : decode (cd 87) 10 = .ok (.iload_n 2, 1) := by rw [cd_87]; decide +kernel
theorem e_87_10 {d : Nat} {h : mM} {o0 o1 : Option Value} {T : mLs} {x : Int32} {st : List Value} : ev d 87 10 (o0 :: o1 :: some (.int x) :: T) st h = ev d 87 11 (o0 :: o1 :: some (.int x) :: T) (.int x :: st) h := ev_of d_87_10 rfl
theorem d_87_11 : decode (cd 87) 11 = .ok (.iconst 1, 1) := by rw [cd_87]; decide +kernel
theorem e_87_11 {d : Nat} {h : mM} {L : mLs} {st : List Value} : ev d 87 11 L st h = ev d 87 12 L (.int 1 :: st) h := ev_of d_87_11 rfl
theorem d_87_12 : decode (cd 87) 12 = .ok (.sipush 250, 3) := by rw [cd_87]; decide +kernel
theorem e_87_12 {d : Nat} {h : mM} {L : mLs} {st : List Value} : ev d 87 12 L st h = ev d 87 15 L (.int 250 :: st) h := ev_of d_87_12 rfl
theorem d_87_15 : decode (cd 87) 15 = .ok (.invokestatic 114, 3) := by rw [cd_87]; decide +kernel
theorem e_87_15 {d : Nat} {h : mM} {L : mLs} {st : List Value} {x0 : Int32} {x1 : Int32} {x2 : Int32} (hc : mCat st ≤ 8) : ev (d + 1) 87 15 L (.int x2 :: .int x1 :: .int x0 :: st) h = cV (ev d 80 0 [some (.int x0), some (.int x1), some (.int x2)] [] h) (fun v h1 => ev (d + 1) 87 18 L (v ++ st) h1) := ev_cs (kd := 1) (mj := 80) (as := [.int x0, .int x1, .int x2]) (rest := st) d_87_15 (by decide +kernel) (by decide) rfl rfl (by show _ ≤ List.length _; simp only [List.length_cons]; have : na 80 = 3 := rfl; omega) rfl (Nat.le_of_ble_eq_true rfl) hc
theorem d_87_18 : decode (cd 87) 18 = .ok (.ifCond .eq 14, 3) := by rw [cd_87]; decide +kernel
theorem e_87_18 {d : Nat} {h : mM} {L : mLs} {st : List Value} {x : Int32} : ev d 87 18 L (.int x :: st) h = if x = 0 then ev d 87 32 L st h else ev d 87 21 L st h := ev_if (x = 0) inferInstance rfl d_87_18 (by decide)
theorem d_87_21 : decode (cd 87) 21 = .ok (.iload_n 3, 1) := by rw [cd_87]; decide +kernel
theorem e_87_21 {d : Nat} {h : mM} {o0 o1 o2 : Option Value} {T : mLs} {x : Int32} {st : List Value} : ev d 87 21 (o0 :: o1 :: o2 :: some (.int x) :: T) st h = ev d 87 22 (o0 :: o1 :: o2 :: some (.int x) :: T) (.int x :: st) h := ev_of d_87_21 rfl
theorem d_87_22 : decode (cd 87) 22 = .ok (.iconst 0, 1) := by rw [cd_87]; decide +kernel
theorem e_87_22 {d : Nat} {h : mM} {L : mLs} {st : List Value} : ev d 87 22 L st h = ev d 87 23 L (.int 0 :: st) h := ev_of d_87_22 rfl
theorem d_87_23 : decode (cd 87) 23 = .ok (.sipush 200, 3) := by rw [cd_87]; decide +kernel
theorem e_87_23 {d : Nat} {h : mM} {L : mLs} {st : List Value} : ev d 87 23 L st h = ev d 87 26 L (.int 200 :: st) h := ev_of d_87_23 rfl
theorem d_87_26 : decode (cd 87) 26 = .ok (.invokestatic 114, 3) := by rw [cd_87]; decide +kernel
theorem e_87_26 {d : Nat} {h : mM} {L : mLs} {st : List Value} {x0 : Int32} {x1 : Int32} {x2 : Int32} (hc : mCat st ≤ 8) : ev (d + 1) 87 26 L (.int x2 :: .int x1 :: .int x0 :: st) h = cV (ev d 80 0 [some (.int x0), some (.int x1), some (.int x2)] [] h) (fun v h1 => ev (d + 1) 87 29 L (v ++ st) h1) := ev_cs (kd := 1) (mj := 80) (as := [.int x0, .int x1, .int x2]) (rest := st) d_87_26 (by decide +kernel) (by decide) rfl rfl (by show _ ≤ List.length _; simp only [List.length_cons]; have : na 80 = 3 := rfl; omega) rfl (Nat.le_of_ble_eq_true rfl) hc
theorem d_87_29 : decode (cd 87) 29 = .ok (.ifCond .ne 11, 3) := by rw [cd_87]; decide +kernel
theorem e_87_29 {d : Nat} {h : mM} {L : mLs} {st : List Value} {x : Int32} : ev d 87 29 L (.int x :: st) h = if ¬ x = 0 then ev d 87 40 L st h else ev d 87 32 L st h := ev_if (¬ x = 0) inferInstance rfl d_87_29 (by decide)
theorem d_87_32 : decode (cd 87) 32 = .ok (.aload_n 0, 1) := by rw [cd_87]; decide +kernel
theorem e_87_32 {d : Nat} {h : mM} {T : mLs} {x : Nat} {st : List Value} : ev d 87 32 ( some (.ref x) :: T) st h = ev d 87 33 ( some (.ref x) :: T) (.ref x :: st) h := ev_of d_87_32 rfl
theorem d_87_33 : decode (cd 87) 33 = .ok (.ldc2_w 121, 3) := by rw [cd_87]; decide +kernel
theorem e_87_33 {d : Nat} {h : mM} {L : mLs} {st : List Value} : ev d 87 33 L st h = ev d 87 36 L (.long (-1000000001) :: st) h := ev_of d_87_33 rfl
theorem d_87_36 : decode (cd 87) 36 = .ok (.invokevirtual 123, 3) := by rw [cd_87]; decide +kernel
theorem e_87_36 {d : Nat} {h : mM} {L : mLs} {st : List Value} {a : Nat} {x0 : Int64} (hc : mCat st ≤ 8) : ev (d + 1) 87 36 L (.long x0 :: .ref a :: st) h = if mK h a = 10 then cV (ev d 79 0 [some (.ref a), some (.long x0), none] [] h) (fun v h1 => ev (d + 1) 87 39 L (v ++ st) h1) else none := ev_cv (mj := 79) (as := [.long x0]) (rest := st) d_87_36 (by decide +kernel) rfl rfl (by show _ ≤ List.length _; simp only [List.length_cons]; have : na 79 = 1 := rfl; omega) rfl (Nat.le_of_ble_eq_true rfl) hc
theorem d_87_39 : decode (cd 87) 39 = .ok (.lreturn, 1) := by rw [cd_87]; decide +kernel
theorem e_87_39 {d : Nat} {h : mM} {L : mLs} {v : Int64} : ev d 87 39 L [.long v] h = some (some (.long v), h) := ev_rl d_87_39 (by decide +kernel)
theorem d_87_40 : decode (cd 87) 40 = .ok (.aload_n 0, 1) := by rw [cd_87]; decide +kernel
theorem e_87_40 {d : Nat} {h : mM} {T : mLs} {x : Nat} {st : List Value} : ev d 87 40 ( some (.ref x) :: T) st h = ev d 87 41 ( some (.ref x) :: T) (.ref x :: st) h := ev_of d_87_40 rfl
theorem d_87_41 : decode (cd 87) 41 = .ok (.getfield 111, 3) := by rw [cd_87]; decide +kernel
theorem e_87_41 {d : Nat} {h : mM} {L : mLs} {st : List Value} {a : Nat} : ev d 87 41 L (.ref a :: st) h = if mK h a = 10 then ev d 87 44 L (.int (mI h a 3) :: st) h else none := ev_gI d_87_41 (by decide +kernel) (by decide +kernel)
theorem d_87_44 : decode (cd 87) 44 = .ok (.iconst 4, 1) := by rw [cd_87]; decide +kernel
theorem e_87_44 {d : Nat} {h : mM} {L : mLs} {st : List Value} : ev d 87 44 L st h = ev d 87 45 L (.int 4 :: st) h := ev_of d_87_44 rfl
theorem d_87_45 : decode (cd 87) 45 = .ok (.if_icmp .ne 11, 3) := by rw [cd_87]; decide +kernel
theorem e_87_45 {d : Nat} {h : mM} {L : mLs} {st : List Value} {x y : Int32} : ev d 87 45 L (.int y :: .int x :: st) h = if ¬ x = y then ev d 87 56 L st h else ev d 87 48 L st h := ev_ic (¬ x = y) inferInstance rfl d_87_45 (by decide)
theorem d_87_48 : decode (cd 87) 48 = .ok (.aload_n 0, 1) := by rw [cd_87]; decide +kernel
theorem e_87_48 {d : Nat} {h : mM} {T : mLs} {x : Nat} {st : List Value} : ev d 87 48 ( some (.ref x) :: T) st h = ev d 87 49 ( some (.ref x) :: T) (.ref x :: st) h := ev_of d_87_48 rfl
theorem d_87_49 : decode (cd 87) 49 = .ok (.ldc2_w 130, 3) := by rw [cd_87]; decide +kernel
theorem e_87_49 {d : Nat} {h : mM} {L : mLs} {st : List Value} : ev d 87 49 L st h = ev d 87 52 L (.long (-1000000004) :: st) h := ev_of d_87_49 rfl
theorem d_87_52 : decode (cd 87) 52 = .ok (.invokevirtual 123, 3) := by rw [cd_87]; decide +kernel
theorem e_87_52 {d : Nat} {h : mM} {L : mLs} {st : List Value} {a : Nat} {x0 : Int64} (hc : mCat st ≤ 8) : ev (d + 1) 87 52 L (.long x0 :: .ref a :: st) h = if mK h a = 10 then cV (ev d 79 0 [some (.ref a), some (.long x0), none] [] h) (fun v h1 => ev (d + 1) 87 55 L (v ++ st) h1) else none := ev_cv (mj := 79) (as := [.long x0]) (rest := st) d_87_52 (by decide +kernel) rfl rfl (by show _ ≤ List.length _; simp only [List.length_cons]; have : na 79 = 1 := rfl; omega) rfl (Nat.le_of_ble_eq_true rfl) hc
theorem d_87_55 : decode (cd 87) 55 = .ok (.lreturn, 1) := by rw [cd_87]; decide +kernel
theorem e_87_55 {d : Nat} {h : mM} {L : mLs} {v : Int64} : ev d 87 55 L [.long v] h = some (some (.long v), h) := ev_rl d_87_55 (by decide +kernel)
theorem d_87_56 : decode (cd 87) 56 = .ok (.aload_n 0, 1) := by rw [cd_87]; decide +kernel
theorem e_87_56 {d : Nat} {h : mM} {T : mLs} {x : Nat} {st : List Value} : ev d 87 56 ( some (.ref x) :: T) st h = ev d 87 57 ( some (.ref x) :: T) (.ref x :: st) h := ev_of d_87_56 rfl
theorem d_87_57 : decode (cd 87) 57 = .ok (.getfield 17, 3) := by rw [cd_87]; decide +kernel
theorem e_87_57 {d : Nat} {h : mM} {L : mLs} {st : List Value} {a : Nat} : ev d 87 57 L (.ref a :: st) h = if mK h a = 10 then oB (mR h a 4) (fun b => ev d 87 60 L (.ref b :: st) h) else none := ev_gR d_87_57 (by decide +kernel) (by decide +kernel)
theorem d_87_60 : decode (cd 87) 60 = .ok (.aload_n 0, 1) := by rw [cd_87]; decide +kernel
theorem e_87_60 {d : Nat} {h : mM} {T : mLs} {x : Nat} {st : List Value} : ev d 87 60 ( some (.ref x) :: T) st h = ev d 87 61 ( some (.ref x) :: T) (.ref x :: st) h := ev_of d_87_60 rfl
theorem d_87_61 : decode (cd 87) 61 = .ok (.getfield 111, 3) := by rw [cd_87]; decide +kernel
theorem e_87_61 {d : Nat} {h : mM} {L : mLs} {st : List Value} {a : Nat} : ev d 87 61 L (.ref a :: st) h = if mK h a = 10 then ev d 87 64 L (.int (mI h a 3) :: st) h else none := ev_gI d_87_61 (by decide +kernel) (by decide +kernel)
theorem d_87_64 : decode (cd 87) 64 = .ok (.iload_n 1, 1) := by rw [cd_87]; decide +kernel
theorem e_87_64 {d : Nat} {h : mM} {o0 : Option Value} {T : mLs} {x : Int32} {st : List Value} : ev d 87 64 (o0 :: some (.int x) :: T) st h = ev d 87 65 (o0 :: some (.int x) :: T) (.int x :: st) h := ev_of d_87_64 rfl
theorem d_87_65 : decode (cd 87) 65 = .ok (.iastore, 1) := by rw [cd_87]; decide +kernel
theorem e_87_65 {d : Nat} {h : mM} {L : mLs} {st : List Value} {a : Nat} {i v : Int32} : ev d 87 65 L (.int v :: .int i :: .ref a :: st) h = if mK h a = 11 ∧ ixOK i (mL h a) = true then ev d 87 66 L st (wI h a i.toNatClampNeg v) else none := ev_is d_87_65
theorem d_87_66 : decode (cd 87) 66 = .ok (.aload_n 0, 1) := by rw [cd_87]; decide +kernel
theorem e_87_66 {d : Nat} {h : mM} {T : mLs} {x : Nat} {st : List Value} : ev d 87 66 ( some (.ref x) :: T) st h = ev d 87 67 ( some (.ref x) :: T) (.ref x :: st) h := ev_of d_87_66 rfl
theorem d_87_67 : decode (cd 87) 67 = .ok (.getfield 20, 3) := by rw [cd_87]; decide +kernel
theorem e_87_67 {d : Nat} {h : mM} {L : mLs} {st : List Value} {a : Nat} : ev d 87 67 L (.ref a :: st) h = if mK h a = 10 then oB (mR h a 5) (fun b => ev d 87 70 L (.ref b :: st) h) else none := ev_gR d_87_67 (by decide +kernel) (by decide +kernel)
theorem d_87_70 : decode (cd 87) 70 = .ok (.aload_n 0, 1) := by rw [cd_87]; decide +kernel
theorem e_87_70 {d : Nat} {h : mM} {T : mLs} {x : Nat} {st : List Value} : ev d 87 70 ( some (.ref x) :: T) st h = ev d 87 71 ( some (.ref x) :: T) (.ref x :: st) h := ev_of d_87_70 rfl
theorem d_87_71 : decode (cd 87) 71 = .ok (.getfield 111, 3) := by rw [cd_87]; decide +kernel
theorem e_87_71 {d : Nat} {h : mM} {L : mLs} {st : List Value} {a : Nat} : ev d 87 71 L (.ref a :: st) h = if mK h a = 10 then ev d 87 74 L (.int (mI h a 3) :: st) h else none := ev_gI d_87_71 (by decide +kernel) (by decide +kernel)
theorem d_87_74 : decode (cd 87) 74 = .ok (.iload_n 2, 1) := by rw [cd_87]; decide +kernel
theorem e_87_74 {d : Nat} {h : mM} {o0 o1 : Option Value} {T : mLs} {x : Int32} {st : List Value} : ev d 87 74 (o0 :: o1 :: some (.int x) :: T) st h = ev d 87 75 (o0 :: o1 :: some (.int x) :: T) (.int x :: st) h := ev_of d_87_74 rfl
theorem d_87_75 : decode (cd 87) 75 = .ok (.iastore, 1) := by rw [cd_87]; decide +kernel
theorem e_87_75 {d : Nat} {h : mM} {L : mLs} {st : List Value} {a : Nat} {i v : Int32} : ev d 87 75 L (.int v :: .int i :: .ref a :: st) h = if mK h a = 11 ∧ ixOK i (mL h a) = true then ev d 87 76 L st (wI h a i.toNatClampNeg v) else none := ev_is d_87_75
theorem d_87_76 : decode (cd 87) 76 = .ok (.aload_n 0, 1) := by rw [cd_87]; decide +kernel
theorem e_87_76 {d : Nat} {h : mM} {T : mLs} {x : Nat} {st : List Value} : ev d 87 76 ( some (.ref x) :: T) st h = ev d 87 77 ( some (.ref x) :: T) (.ref x :: st) h := ev_of d_87_76 rfl
theorem d_87_77 : decode (cd 87) 77 = .ok (.getfield 23, 3) := by rw [cd_87]; decide +kernel
theorem e_87_77 {d : Nat} {h : mM} {L : mLs} {st : List Value} {a : Nat} : ev d 87 77 L (.ref a :: st) h = if mK h a = 10 then oB (mR h a 6) (fun b => ev d 87 80 L (.ref b :: st) h) else none := ev_gR d_87_77 (by decide +kernel) (by decide +kernel)
theorem d_87_80 : decode (cd 87) 80 = .ok (.aload_n 0, 1) := by rw [cd_87]; decide +kernel
theorem e_87_80 {d : Nat} {h : mM} {T : mLs} {x : Nat} {st : List Value} : ev d 87 80 ( some (.ref x) :: T) st h = ev d 87 81 ( some (.ref x) :: T) (.ref x :: st) h := ev_of d_87_80 rfl
theorem d_87_81 : decode (cd 87) 81 = .ok (.getfield 111, 3) := by rw [cd_87]; decide +kernel
theorem e_87_81 {d : Nat} {h : mM} {L : mLs} {st : List Value} {a : Nat} : ev d 87 81 L (.ref a :: st) h = if mK h a = 10 then ev d 87 84 L (.int (mI h a 3) :: st) h else none := ev_gI d_87_81 (by decide +kernel) (by decide +kernel)
theorem d_87_84 : decode (cd 87) 84 = .ok (.iload_n 3, 1) := by rw [cd_87]; decide +kernel
theorem e_87_84 {d : Nat} {h : mM} {o0 o1 o2 : Option Value} {T : mLs} {x : Int32} {st : List Value} : ev d 87 84 (o0 :: o1 :: o2 :: some (.int x) :: T) st h = ev d 87 85 (o0 :: o1 :: o2 :: some (.int x) :: T) (.int x :: st) h := ev_of d_87_84 rfl
theorem d_87_85 : decode (cd 87) 85 = .ok (.iastore, 1) := by rw [cd_87]; decide +kernel
theorem e_87_85 {d : Nat} {h : mM} {L : mLs} {st : List Value} {a : Nat} {i v : Int32} : ev d 87 85 L (.int v :: .int i :: .ref a :: st) h = if mK h a = 11 ∧ ixOK i (mL h a) = true then ev d 87 86 L st (wI h a i.toNatClampNeg v) else none := ev_is d_87_85
theorem d_87_86 : decode (cd 87) 86 = .ok (.aload_n 0, 1) := by rw [cd_87]; decide +kernel
theorem e_87_86 {d : Nat} {h : mM} {T : mLs} {x : Nat} {st : List Value} : ev d 87 86 ( some (.ref x) :: T) st h = ev d 87 87 ( some (.ref x) :: T) (.ref x :: st) h := ev_of d_87_86 rfl
theorem d_87_87 : decode (cd 87) 87 = .ok (.getfield 26, 3) := by rw [cd_87]; decide +kernel
theorem e_87_87 {d : Nat} {h : mM} {L : mLs} {st : List Value} {a : Nat} : ev d 87 87 L (.ref a :: st) h = if mK h a = 10 then oB (mR h a 7) (fun b => ev d 87 90 L (.ref b :: st) h) else none := ev_gR d_87_87 (by decide +kernel) (by decide +kernel)
theorem d_87_90 : decode (cd 87) 90 = .ok (.aload_n 0, 1) := by rw [cd_87]; decide +kernel
theorem e_87_90 {d : Nat} {h : mM} {T : mLs} {x : Nat} {st : List Value} : ev d 87 90 ( some (.ref x) :: T) st h = ev d 87 91 ( some (.ref x) :: T) (.ref x :: st) h := ev_of d_87_90 rfl
theorem d_87_91 : decode (cd 87) 91 = .ok (.getfield 111, 3) := by rw [cd_87]; decide +kernel
theorem e_87_91 {d : Nat} {h : mM} {L : mLs} {st : List Value} {a : Nat} : ev d 87 91 L (.ref a :: st) h = if mK h a = 10 then ev d 87 94 L (.int (mI h a 3) :: st) h else none := ev_gI d_87_91 (by decide +kernel) (by decide +kernel)
theorem d_87_94 : decode (cd 87) 94 = .ok (.iconst 1, 1) := by rw [cd_87]; decide +kernel
theorem e_87_94 {d : Nat} {h : mM} {L : mLs} {st : List Value} : ev d 87 94 L st h = ev d 87 95 L (.int 1 :: st) h := ev_of d_87_94 rfl
theorem d_87_95 : decode (cd 87) 95 = .ok (.iastore, 1) := by rw [cd_87]; decide +kernel
theorem e_87_95 {d : Nat} {h : mM} {L : mLs} {st : List Value} {a : Nat} {i v : Int32} : ev d 87 95 L (.int v :: .int i :: .ref a :: st) h = if mK h a = 11 ∧ ixOK i (mL h a) = true then ev d 87 96 L st (wI h a i.toNatClampNeg v) else none := ev_is d_87_95
theorem d_87_96 : decode (cd 87) 96 = .ok (.aload_n 0, 1) := by rw [cd_87]; decide +kernel
theorem e_87_96 {d : Nat} {h : mM} {T : mLs} {x : Nat} {st : List Value} : ev d 87 96 ( some (.ref x) :: T) st h = ev d 87 97 ( some (.ref x) :: T) (.ref x :: st) h := ev_of d_87_96 rfl
theorem d_87_97 : decode (cd 87) 97 = .ok (.dup, 1) := by rw [cd_87]; decide +kernel
theorem e_87_97r {d : Nat} {h : mM} {L : mLs} {st : List Value} {a : Nat} : ev d 87 97 L (.ref a :: st) h = ev d 87 98 L (.ref a :: .ref a :: st) h := ev_of d_87_97 rfl
theorem e_87_97i {d : Nat} {h : mM} {L : mLs} {st : List Value} {x : Int32} : ev d 87 97 L (.int x :: st) h = ev d 87 98 L (.int x :: .int x :: st) h := ev_of d_87_97 rfl
theorem d_87_98 : decode (cd 87) 98 = .ok (.getfield 111, 3) := by rw [cd_87]; decide +kernel
theorem e_87_98 {d : Nat} {h : mM} {L : mLs} {st : List Value} {a : Nat} : ev d 87 98 L (.ref a :: st) h = if mK h a = 10 then ev d 87 101 L (.int (mI h a 3) :: st) h else none := ev_gI d_87_98 (by decide +kernel) (by decide +kernel)
theorem d_87_101 : decode (cd 87) 101 = .ok (.iconst 1, 1) := by rw [cd_87]; decide +kernel
theorem e_87_101 {d : Nat} {h : mM} {L : mLs} {st : List Value} : ev d 87 101 L st h = ev d 87 102 L (.int 1 :: st) h := ev_of d_87_101 rfl
theorem d_87_102 : decode (cd 87) 102 = .ok (.iadd, 1) := by rw [cd_87]; decide +kernel
theorem e_87_102 {d : Nat} {h : mM} {L : mLs} {st : List Value} {x y : Int32} : ev d 87 102 L (.int y :: .int x :: st) h = ev d 87 103 L (.int (x + y) :: st) h := ev_of d_87_102 rfl
theorem d_87_103 : decode (cd 87) 103 = .ok (.putfield 111, 3) := by rw [cd_87]; decide +kernel
theorem e_87_103 {d : Nat} {h : mM} {L : mLs} {st : List Value} {a : Nat} {v : Int32} : ev d 87 103 L (.int v :: .ref a :: st) h = if mK h a = 10 then ev d 87 106 L st (wI h a 3 v) else none := ev_pI d_87_103 (by decide +kernel) (by decide +kernel) (by decide +kernel)
theorem d_87_106 : decode (cd 87) 106 = .ok (.aload_n 0, 1) := by rw [cd_87]; decide +kernel
theorem e_87_106 {d : Nat} {h : mM} {T : mLs} {x : Nat} {st : List Value} : ev d 87 106 ( some (.ref x) :: T) st h = ev d 87 107 ( some (.ref x) :: T) (.ref x :: st) h := ev_of d_87_106 rfl
theorem d_87_107 : decode (cd 87) 107 = .ok (.getfield 111, 3) := by rw [cd_87]; decide +kernel
theorem e_87_107 {d : Nat} {h : mM} {L : mLs} {st : List Value} {a : Nat} : ev d 87 107 L (.ref a :: st) h = if mK h a = 10 then ev d 87 110 L (.int (mI h a 3) :: st) h else none := ev_gI d_87_107 (by decide +kernel) (by decide +kernel)
theorem d_87_110 : decode (cd 87) 110 = .ok (.iconst 1, 1) := by rw [cd_87]; decide +kernel
theorem e_87_110 {d : Nat} {h : mM} {L : mLs} {st : List Value} : ev d 87 110 L st h = ev d 87 111 L (.int 1 :: st) h := ev_of d_87_110 rfl
theorem d_87_111 : decode (cd 87) 111 = .ok (.isub, 1) := by rw [cd_87]; decide +kernel
theorem e_87_111 {d : Nat} {h : mM} {L : mLs} {st : List Value} {x y : Int32} : ev d 87 111 L (.int y :: .int x :: st) h = ev d 87 112 L (.int (x - y) :: st) h := ev_of d_87_111 rfl
theorem d_87_112 : decode (cd 87) 112 = .ok (.i2l, 1) := by rw [cd_87]; decide +kernel
theorem e_87_112 {d : Nat} {h : mM} {L : mLs} {st : List Value} {x : Int32} : ev d 87 112 L (.int x :: st) h = ev d 87 113 L (.long x.toInt64 :: st) h := ev_of d_87_112 rfl
theorem d_87_113 : decode (cd 87) 113 = .ok (.lreturn, 1) := by rw [cd_87]; decide +kernel
theorem e_87_113 {d : Nat} {h : mM} {L : mLs} {v : Int64} : ev d 87 113 L [.long v] h = some (some (.long v), h) := ev_rl d_87_113 (by decide +kernel)
-- 88: Model.gate
theorem cd_88 : cd 88 = prog_12_method_11_code := rfl
theorem d_88_0 : decode (cd 88) 0 = .ok (.aload_n 0, 1) := by rw [cd_88]; decide +kernel
theorem e_88_0 {d : Nat} {h : mM} {T : mLs} {x : Nat} {st : List Value} : ev d 88 0 ( some (.ref x) :: T) st h = ev d 88 1 ( some (.ref x) :: T) (.ref x :: st) h := ev_of d_88_0 rfl
theorem d_88_1 : decode (cd 88) 1 = .ok (.iload_n 1, 1) := by rw [cd_88]; decide +kernel
theorem e_88_1 {d : Nat} {h : mM} {o0 : Option Value} {T : mLs} {x : Int32} {st : List Value} : ev d 88 1 (o0 :: some (.int x) :: T) st h = ev d 88 2 (o0 :: some (.int x) :: T) (.int x :: st) h := ev_of d_88_1 rfl
theorem d_88_2 : decode (cd 88) 2 = .ok (.invokevirtual 132, 3) := by rw [cd_88]; decide +kernel
theorem e_88_2 {d : Nat} {h : mM} {L : mLs} {st : List Value} {a : Nat} {x0 : Int32} (hc : mCat st ≤ 8) : ev (d + 1) 88 2 L (.int x0 :: .ref a :: st) h = if mK h a = 10 then cV (ev d 81 0 [some (.ref a), some (.int x0)] [] h) (fun v h1 => ev (d + 1) 88 5 L (v ++ st) h1) else none := ev_cv (mj := 81) (as := [.int x0]) (rest := st) d_88_2 (by decide +kernel) rfl rfl (by show _ ≤ List.length _; simp only [List.length_cons]; have : na 81 = 1 := rfl; omega) rfl (Nat.le_of_ble_eq_true rfl) hc
theorem d_88_5 : decode (cd 88) 5 = .ok (.ifCond .eq 12, 3) := by rw [cd_88]; decide +kernel
theorem e_88_5 {d : Nat} {h : mM} {L : mLs} {st : List Value} {x : Int32} : ev d 88 5 L (.int x :: st) h = if x = 0 then ev d 88 17 L st h else ev d 88 8 L st h := ev_if (x = 0) inferInstance rfl d_88_5 (by decide)
theorem d_88_8 : decode (cd 88) 8 = .ok (.iload_n 2, 1) := by rw [cd_88]; decide +kernel
theorem e_88_8 {d : Nat} {h : mM} {o0 o1 : Option Value} {T : mLs} {x : Int32} {st : List Value} : ev d 88 8 (o0 :: o1 :: some (.int x) :: T) st h = ev d 88 9 (o0 :: o1 :: some (.int x) :: T) (.int x :: st) h := ev_of d_88_8 rfl
theorem d_88_9 : decode (cd 88) 9 = .ok (.iconst 0, 1) := by rw [cd_88]; decide +kernel
theorem e_88_9 {d : Nat} {h : mM} {L : mLs} {st : List Value} : ev d 88 9 L st h = ev d 88 10 L (.int 0 :: st) h := ev_of d_88_9 rfl
theorem d_88_10 : decode (cd 88) 10 = .ok (.iconst 2, 1) := by rw [cd_88]; decide +kernel
theorem e_88_10 {d : Nat} {h : mM} {L : mLs} {st : List Value} : ev d 88 10 L st h = ev d 88 11 L (.int 2 :: st) h := ev_of d_88_10 rfl
theorem d_88_11 : decode (cd 88) 11 = .ok (.invokestatic 114, 3) := by rw [cd_88]; decide +kernel
theorem e_88_11 {d : Nat} {h : mM} {L : mLs} {st : List Value} {x0 : Int32} {x1 : Int32} {x2 : Int32} (hc : mCat st ≤ 8) : ev (d + 1) 88 11 L (.int x2 :: .int x1 :: .int x0 :: st) h = cV (ev d 80 0 [some (.int x0), some (.int x1), some (.int x2)] [] h) (fun v h1 => ev (d + 1) 88 14 L (v ++ st) h1) := ev_cs (kd := 1) (mj := 80) (as := [.int x0, .int x1, .int x2]) (rest := st) d_88_11 (by decide +kernel) (by decide) rfl rfl (by show _ ≤ List.length _; simp only [List.length_cons]; have : na 80 = 3 := rfl; omega) rfl (Nat.le_of_ble_eq_true rfl) hc
theorem d_88_14 : decode (cd 88) 14 = .ok (.ifCond .ne 11, 3) := by rw [cd_88]; decide +kernel
theorem e_88_14 {d : Nat} {h : mM} {L : mLs} {st : List Value} {x : Int32} : ev d 88 14 L (.int x :: st) h = if ¬ x = 0 then ev d 88 25 L st h else ev d 88 17 L st h := ev_if (¬ x = 0) inferInstance rfl d_88_14 (by decide)
theorem d_88_17 : decode (cd 88) 17 = .ok (.aload_n 0, 1) := by rw [cd_88]; decide +kernel
theorem e_88_17 {d : Nat} {h : mM} {T : mLs} {x : Nat} {st : List Value} : ev d 88 17 ( some (.ref x) :: T) st h = ev d 88 18 ( some (.ref x) :: T) (.ref x :: st) h := ev_of d_88_17 rfl
theorem d_88_18 : decode (cd 88) 18 = .ok (.ldc2_w 121, 3) := by rw [cd_88]; decide +kernel
theorem e_88_18 {d : Nat} {h : mM} {L : mLs} {st : List Value} : ev d 88 18 L st h = ev d 88 21 L (.long (-1000000001) :: st) h := ev_of d_88_18 rfl
theorem d_88_21 : decode (cd 88) 21 = .ok (.invokevirtual 123, 3) := by rw [cd_88]; decide +kernel
theorem e_88_21 {d : Nat} {h : mM} {L : mLs} {st : List Value} {a : Nat} {x0 : Int64} (hc : mCat st ≤ 8) : ev (d + 1) 88 21 L (.long x0 :: .ref a :: st) h = if mK h a = 10 then cV (ev d 79 0 [some (.ref a), some (.long x0), none] [] h) (fun v h1 => ev (d + 1) 88 24 L (v ++ st) h1) else none := ev_cv (mj := 79) (as := [.long x0]) (rest := st) d_88_21 (by decide +kernel) rfl rfl (by show _ ≤ List.length _; simp only [List.length_cons]; have : na 79 = 1 := rfl; omega) rfl (Nat.le_of_ble_eq_true rfl) hc
theorem d_88_24 : decode (cd 88) 24 = .ok (.lreturn, 1) := by rw [cd_88]; decide +kernel
theorem e_88_24 {d : Nat} {h : mM} {L : mLs} {v : Int64} : ev d 88 24 L [.long v] h = some (some (.long v), h) := ev_rl d_88_24 (by decide +kernel)
theorem d_88_25 : decode (cd 88) 25 = .ok (.aload_n 0, 1) := by rw [cd_88]; decide +kernel
theorem e_88_25 {d : Nat} {h : mM} {T : mLs} {x : Nat} {st : List Value} : ev d 88 25 ( some (.ref x) :: T) st h = ev d 88 26 ( some (.ref x) :: T) (.ref x :: st) h := ev_of d_88_25 rfl
theorem d_88_26 : decode (cd 88) 26 = .ok (.getfield 26, 3) := by rw [cd_88]; decide +kernel
theorem e_88_26 {d : Nat} {h : mM} {L : mLs} {st : List Value} {a : Nat} : ev d 88 26 L (.ref a :: st) h = if mK h a = 10 then oB (mR h a 7) (fun b => ev d 88 29 L (.ref b :: st) h) else none := ev_gR d_88_26 (by decide +kernel) (by decide +kernel)
theorem d_88_29 : decode (cd 88) 29 = .ok (.iload_n 1, 1) := by rw [cd_88]; decide +kernel
theorem e_88_29 {d : Nat} {h : mM} {o0 : Option Value} {T : mLs} {x : Int32} {st : List Value} : ev d 88 29 (o0 :: some (.int x) :: T) st h = ev d 88 30 (o0 :: some (.int x) :: T) (.int x :: st) h := ev_of d_88_29 rfl
theorem d_88_30 : decode (cd 88) 30 = .ok (.iaload, 1) := by rw [cd_88]; decide +kernel
theorem e_88_30 {d : Nat} {h : mM} {L : mLs} {st : List Value} {a : Nat} {i : Int32} : ev d 88 30 L (.int i :: .ref a :: st) h = if (mK h a = 11 ∨ mK h a = 19) ∧ ixOK i (mL h a) = true then ev d 88 31 L (.int (mI h a i.toNatClampNeg) :: st) h else none := ev_ia d_88_30
theorem d_88_31 : decode (cd 88) 31 = .ok (.istore_n 3, 1) := by rw [cd_88]; decide +kernel
theorem e_88_31 {d : Nat} {h : mM} {o0 o1 o2 o3 : Option Value} {T : mLs} {x : Int32} {st : List Value} (hl : mLong o2 = false) : ev d 88 31 (o0 :: o1 :: o2 :: o3 :: T) (.int x :: st) h = ev d 88 32 (o0 :: o1 :: o2 :: some (.int x) :: T) st h := ev_st_in d_88_31 (by decide +kernel) (mS1_s (j := 2) hl)
theorem d_88_32 : decode (cd 88) 32 = .ok (.aload_n 0, 1) := by rw [cd_88]; decide +kernel
theorem e_88_32 {d : Nat} {h : mM} {T : mLs} {x : Nat} {st : List Value} : ev d 88 32 ( some (.ref x) :: T) st h = ev d 88 33 ( some (.ref x) :: T) (.ref x :: st) h := ev_of d_88_32 rfl
theorem d_88_33 : decode (cd 88) 33 = .ok (.getfield 26, 3) := by rw [cd_88]; decide +kernel
theorem e_88_33 {d : Nat} {h : mM} {L : mLs} {st : List Value} {a : Nat} : ev d 88 33 L (.ref a :: st) h = if mK h a = 10 then oB (mR h a 7) (fun b => ev d 88 36 L (.ref b :: st) h) else none := ev_gR d_88_33 (by decide +kernel) (by decide +kernel)
theorem d_88_36 : decode (cd 88) 36 = .ok (.iload_n 1, 1) := by rw [cd_88]; decide +kernel
theorem e_88_36 {d : Nat} {h : mM} {o0 : Option Value} {T : mLs} {x : Int32} {st : List Value} : ev d 88 36 (o0 :: some (.int x) :: T) st h = ev d 88 37 (o0 :: some (.int x) :: T) (.int x :: st) h := ev_of d_88_36 rfl
theorem d_88_37 : decode (cd 88) 37 = .ok (.iload_n 2, 1) := by rw [cd_88]; decide +kernel
theorem e_88_37 {d : Nat} {h : mM} {o0 o1 : Option Value} {T : mLs} {x : Int32} {st : List Value} : ev d 88 37 (o0 :: o1 :: some (.int x) :: T) st h = ev d 88 38 (o0 :: o1 :: some (.int x) :: T) (.int x :: st) h := ev_of d_88_37 rfl
theorem d_88_38 : decode (cd 88) 38 = .ok (.iastore, 1) := by rw [cd_88]; decide +kernel
theorem e_88_38 {d : Nat} {h : mM} {L : mLs} {st : List Value} {a : Nat} {i v : Int32} : ev d 88 38 L (.int v :: .int i :: .ref a :: st) h = if mK h a = 11 ∧ ixOK i (mL h a) = true then ev d 88 39 L st (wI h a i.toNatClampNeg v) else none := ev_is d_88_38
theorem d_88_39 : decode (cd 88) 39 = .ok (.iload_n 3, 1) := by rw [cd_88]; decide +kernel
theorem e_88_39 {d : Nat} {h : mM} {o0 o1 o2 : Option Value} {T : mLs} {x : Int32} {st : List Value} : ev d 88 39 (o0 :: o1 :: o2 :: some (.int x) :: T) st h = ev d 88 40 (o0 :: o1 :: o2 :: some (.int x) :: T) (.int x :: st) h := ev_of d_88_39 rfl
theorem d_88_40 : decode (cd 88) 40 = .ok (.i2l, 1) := by rw [cd_88]; decide +kernel
theorem e_88_40 {d : Nat} {h : mM} {L : mLs} {st : List Value} {x : Int32} : ev d 88 40 L (.int x :: st) h = ev d 88 41 L (.long x.toInt64 :: st) h := ev_of d_88_40 rfl
theorem d_88_41 : decode (cd 88) 41 = .ok (.lreturn, 1) := by rw [cd_88]; decide +kernel
theorem e_88_41 {d : Nat} {h : mM} {L : mLs} {v : Int64} : ev d 88 41 L [.long v] h = some (some (.long v), h) := ev_rl d_88_41 (by decide +kernel)
-- 89: Model.water
theorem cd_89 : cd 89 = prog_12_method_12_code := rfl
theorem d_89_0 : decode (cd 89) 0 = .ok (.aload_n 0, 1) := by rw [cd_89]; decide +kernel
theorem e_89_0 {d : Nat} {h : mM} {T : mLs} {x : Nat} {st : List Value} : ev d 89 0 ( some (.ref x) :: T) st h = ev d 89 1 ( some (.ref x) :: T) (.ref x :: st) h := ev_of d_89_0 rfl
theorem d_89_1 : decode (cd 89) 1 = .ok (.iload_n 1, 1) := by rw [cd_89]; decide +kernel
theorem e_89_1 {d : Nat} {h : mM} {o0 : Option Value} {T : mLs} {x : Int32} {st : List Value} : ev d 89 1 (o0 :: some (.int x) :: T) st h = ev d 89 2 (o0 :: some (.int x) :: T) (.int x :: st) h := ev_of d_89_1 rfl
theorem d_89_2 : decode (cd 89) 2 = .ok (.invokevirtual 132, 3) := by rw [cd_89]; decide +kernel
theorem e_89_2 {d : Nat} {h : mM} {L : mLs} {st : List Value} {a : Nat} {x0 : Int32} (hc : mCat st ≤ 8) : ev (d + 1) 89 2 L (.int x0 :: .ref a :: st) h = if mK h a = 10 then cV (ev d 81 0 [some (.ref a), some (.int x0)] [] h) (fun v h1 => ev (d + 1) 89 5 L (v ++ st) h1) else none := ev_cv (mj := 81) (as := [.int x0]) (rest := st) d_89_2 (by decide +kernel) rfl rfl (by show _ ≤ List.length _; simp only [List.length_cons]; have : na 81 = 1 := rfl; omega) rfl (Nat.le_of_ble_eq_true rfl) hc
theorem d_89_5 : decode (cd 89) 5 = .ok (.ifCond .eq 24, 3) := by rw [cd_89]; decide +kernel
theorem e_89_5 {d : Nat} {h : mM} {L : mLs} {st : List Value} {x : Int32} : ev d 89 5 L (.int x :: st) h = if x = 0 then ev d 89 29 L st h else ev d 89 8 L st h := ev_if (x = 0) inferInstance rfl d_89_5 (by decide)
theorem d_89_8 : decode (cd 89) 8 = .ok (.iload_n 2, 1) := by rw [cd_89]; decide +kernel
theorem e_89_8 {d : Nat} {h : mM} {o0 o1 : Option Value} {T : mLs} {x : Int32} {st : List Value} : ev d 89 8 (o0 :: o1 :: some (.int x) :: T) st h = ev d 89 9 (o0 :: o1 :: some (.int x) :: T) (.int x :: st) h := ev_of d_89_8 rfl
theorem d_89_9 : decode (cd 89) 9 = .ok (.iconst 0, 1) := by rw [cd_89]; decide +kernel
theorem e_89_9 {d : Nat} {h : mM} {L : mLs} {st : List Value} : ev d 89 9 L st h = ev d 89 10 L (.int 0 :: st) h := ev_of d_89_9 rfl
theorem d_89_10 : decode (cd 89) 10 = .ok (.aload_n 0, 1) := by rw [cd_89]; decide +kernel
theorem e_89_10 {d : Nat} {h : mM} {T : mLs} {x : Nat} {st : List Value} : ev d 89 10 ( some (.ref x) :: T) st h = ev d 89 11 ( some (.ref x) :: T) (.ref x :: st) h := ev_of d_89_10 rfl
theorem d_89_11 : decode (cd 89) 11 = .ok (.getfield 17, 3) := by rw [cd_89]; decide +kernel
theorem e_89_11 {d : Nat} {h : mM} {L : mLs} {st : List Value} {a : Nat} : ev d 89 11 L (.ref a :: st) h = if mK h a = 10 then oB (mR h a 4) (fun b => ev d 89 14 L (.ref b :: st) h) else none := ev_gR d_89_11 (by decide +kernel) (by decide +kernel)
theorem d_89_14 : decode (cd 89) 14 = .ok (.iload_n 1, 1) := by rw [cd_89]; decide +kernel
theorem e_89_14 {d : Nat} {h : mM} {o0 : Option Value} {T : mLs} {x : Int32} {st : List Value} : ev d 89 14 (o0 :: some (.int x) :: T) st h = ev d 89 15 (o0 :: some (.int x) :: T) (.int x :: st) h := ev_of d_89_14 rfl
theorem d_89_15 : decode (cd 89) 15 = .ok (.iaload, 1) := by rw [cd_89]; decide +kernel
theorem e_89_15 {d : Nat} {h : mM} {L : mLs} {st : List Value} {a : Nat} {i : Int32} : ev d 89 15 L (.int i :: .ref a :: st) h = if (mK h a = 11 ∨ mK h a = 19) ∧ ixOK i (mL h a) = true then ev d 89 16 L (.int (mI h a i.toNatClampNeg) :: st) h else none := ev_ia d_89_15
theorem d_89_16 : decode (cd 89) 16 = .ok (.aload_n 0, 1) := by rw [cd_89]; decide +kernel
theorem e_89_16 {d : Nat} {h : mM} {T : mLs} {x : Nat} {st : List Value} : ev d 89 16 ( some (.ref x) :: T) st h = ev d 89 17 ( some (.ref x) :: T) (.ref x :: st) h := ev_of d_89_16 rfl
theorem d_89_17 : decode (cd 89) 17 = .ok (.getfield 20, 3) := by rw [cd_89]; decide +kernel
theorem e_89_17 {d : Nat} {h : mM} {L : mLs} {st : List Value} {a : Nat} : ev d 89 17 L (.ref a :: st) h = if mK h a = 10 then oB (mR h a 5) (fun b => ev d 89 20 L (.ref b :: st) h) else none := ev_gR d_89_17 (by decide +kernel) (by decide +kernel)
theorem d_89_20 : decode (cd 89) 20 = .ok (.iload_n 1, 1) := by rw [cd_89]; decide +kernel
theorem e_89_20 {d : Nat} {h : mM} {o0 : Option Value} {T : mLs} {x : Int32} {st : List Value} : ev d 89 20 (o0 :: some (.int x) :: T) st h = ev d 89 21 (o0 :: some (.int x) :: T) (.int x :: st) h := ev_of d_89_20 rfl
theorem d_89_21 : decode (cd 89) 21 = .ok (.iaload, 1) := by rw [cd_89]; decide +kernel
theorem e_89_21 {d : Nat} {h : mM} {L : mLs} {st : List Value} {a : Nat} {i : Int32} : ev d 89 21 L (.int i :: .ref a :: st) h = if (mK h a = 11 ∨ mK h a = 19) ∧ ixOK i (mL h a) = true then ev d 89 22 L (.int (mI h a i.toNatClampNeg) :: st) h else none := ev_ia d_89_21
theorem d_89_22 : decode (cd 89) 22 = .ok (.imul, 1) := by rw [cd_89]; decide +kernel
theorem e_89_22 {d : Nat} {h : mM} {L : mLs} {st : List Value} {x y : Int32} : ev d 89 22 L (.int y :: .int x :: st) h = ev d 89 23 L (.int (x * y) :: st) h := ev_of d_89_22 rfl
theorem d_89_23 : decode (cd 89) 23 = .ok (.invokestatic 114, 3) := by rw [cd_89]; decide +kernel
theorem e_89_23 {d : Nat} {h : mM} {L : mLs} {st : List Value} {x0 : Int32} {x1 : Int32} {x2 : Int32} (hc : mCat st ≤ 8) : ev (d + 1) 89 23 L (.int x2 :: .int x1 :: .int x0 :: st) h = cV (ev d 80 0 [some (.int x0), some (.int x1), some (.int x2)] [] h) (fun v h1 => ev (d + 1) 89 26 L (v ++ st) h1) := ev_cs (kd := 1) (mj := 80) (as := [.int x0, .int x1, .int x2]) (rest := st) d_89_23 (by decide +kernel) (by decide) rfl rfl (by show _ ≤ List.length _; simp only [List.length_cons]; have : na 80 = 3 := rfl; omega) rfl (Nat.le_of_ble_eq_true rfl) hc
theorem d_89_26 : decode (cd 89) 26 = .ok (.ifCond .ne 11, 3) := by rw [cd_89]; decide +kernel
theorem e_89_26 {d : Nat} {h : mM} {L : mLs} {st : List Value} {x : Int32} : ev d 89 26 L (.int x :: st) h = if ¬ x = 0 then ev d 89 37 L st h else ev d 89 29 L st h := ev_if (¬ x = 0) inferInstance rfl d_89_26 (by decide)
theorem d_89_29 : decode (cd 89) 29 = .ok (.aload_n 0, 1) := by rw [cd_89]; decide +kernel
theorem e_89_29 {d : Nat} {h : mM} {T : mLs} {x : Nat} {st : List Value} : ev d 89 29 ( some (.ref x) :: T) st h = ev d 89 30 ( some (.ref x) :: T) (.ref x :: st) h := ev_of d_89_29 rfl
theorem d_89_30 : decode (cd 89) 30 = .ok (.ldc2_w 121, 3) := by rw [cd_89]; decide +kernel
theorem e_89_30 {d : Nat} {h : mM} {L : mLs} {st : List Value} : ev d 89 30 L st h = ev d 89 33 L (.long (-1000000001) :: st) h := ev_of d_89_30 rfl
theorem d_89_33 : decode (cd 89) 33 = .ok (.invokevirtual 123, 3) := by rw [cd_89]; decide +kernel
theorem e_89_33 {d : Nat} {h : mM} {L : mLs} {st : List Value} {a : Nat} {x0 : Int64} (hc : mCat st ≤ 8) : ev (d + 1) 89 33 L (.long x0 :: .ref a :: st) h = if mK h a = 10 then cV (ev d 79 0 [some (.ref a), some (.long x0), none] [] h) (fun v h1 => ev (d + 1) 89 36 L (v ++ st) h1) else none := ev_cv (mj := 79) (as := [.long x0]) (rest := st) d_89_33 (by decide +kernel) rfl rfl (by show _ ≤ List.length _; simp only [List.length_cons]; have : na 79 = 1 := rfl; omega) rfl (Nat.le_of_ble_eq_true rfl) hc
theorem d_89_36 : decode (cd 89) 36 = .ok (.lreturn, 1) := by rw [cd_89]; decide +kernel
theorem e_89_36 {d : Nat} {h : mM} {L : mLs} {v : Int64} : ev d 89 36 L [.long v] h = some (some (.long v), h) := ev_rl d_89_36 (by decide +kernel)
theorem d_89_37 : decode (cd 89) 37 = .ok (.aload_n 0, 1) := by rw [cd_89]; decide +kernel
theorem e_89_37 {d : Nat} {h : mM} {T : mLs} {x : Nat} {st : List Value} : ev d 89 37 ( some (.ref x) :: T) st h = ev d 89 38 ( some (.ref x) :: T) (.ref x :: st) h := ev_of d_89_37 rfl
theorem d_89_38 : decode (cd 89) 38 = .ok (.getfield 29, 3) := by rw [cd_89]; decide +kernel
theorem e_89_38 {d : Nat} {h : mM} {L : mLs} {st : List Value} {a : Nat} : ev d 89 38 L (.ref a :: st) h = if mK h a = 10 then oB (mR h a 8) (fun b => ev d 89 41 L (.ref b :: st) h) else none := ev_gR d_89_38 (by decide +kernel) (by decide +kernel)
theorem d_89_41 : decode (cd 89) 41 = .ok (.iload_n 1, 1) := by rw [cd_89]; decide +kernel
theorem e_89_41 {d : Nat} {h : mM} {o0 : Option Value} {T : mLs} {x : Int32} {st : List Value} : ev d 89 41 (o0 :: some (.int x) :: T) st h = ev d 89 42 (o0 :: some (.int x) :: T) (.int x :: st) h := ev_of d_89_41 rfl
theorem d_89_42 : decode (cd 89) 42 = .ok (.iaload, 1) := by rw [cd_89]; decide +kernel
theorem e_89_42 {d : Nat} {h : mM} {L : mLs} {st : List Value} {a : Nat} {i : Int32} : ev d 89 42 L (.int i :: .ref a :: st) h = if (mK h a = 11 ∨ mK h a = 19) ∧ ixOK i (mL h a) = true then ev d 89 43 L (.int (mI h a i.toNatClampNeg) :: st) h else none := ev_ia d_89_42
theorem d_89_43 : decode (cd 89) 43 = .ok (.istore_n 3, 1) := by rw [cd_89]; decide +kernel
theorem e_89_43 {d : Nat} {h : mM} {o0 o1 o2 o3 : Option Value} {T : mLs} {x : Int32} {st : List Value} (hl : mLong o2 = false) : ev d 89 43 (o0 :: o1 :: o2 :: o3 :: T) (.int x :: st) h = ev d 89 44 (o0 :: o1 :: o2 :: some (.int x) :: T) st h := ev_st_in d_89_43 (by decide +kernel) (mS1_s (j := 2) hl)
theorem d_89_44 : decode (cd 89) 44 = .ok (.aload_n 0, 1) := by rw [cd_89]; decide +kernel
theorem e_89_44 {d : Nat} {h : mM} {T : mLs} {x : Nat} {st : List Value} : ev d 89 44 ( some (.ref x) :: T) st h = ev d 89 45 ( some (.ref x) :: T) (.ref x :: st) h := ev_of d_89_44 rfl
theorem d_89_45 : decode (cd 89) 45 = .ok (.getfield 29, 3) := by rw [cd_89]; decide +kernel
theorem e_89_45 {d : Nat} {h : mM} {L : mLs} {st : List Value} {a : Nat} : ev d 89 45 L (.ref a :: st) h = if mK h a = 10 then oB (mR h a 8) (fun b => ev d 89 48 L (.ref b :: st) h) else none := ev_gR d_89_45 (by decide +kernel) (by decide +kernel)
theorem d_89_48 : decode (cd 89) 48 = .ok (.iload_n 1, 1) := by rw [cd_89]; decide +kernel
theorem e_89_48 {d : Nat} {h : mM} {o0 : Option Value} {T : mLs} {x : Int32} {st : List Value} : ev d 89 48 (o0 :: some (.int x) :: T) st h = ev d 89 49 (o0 :: some (.int x) :: T) (.int x :: st) h := ev_of d_89_48 rfl
theorem d_89_49 : decode (cd 89) 49 = .ok (.iload_n 2, 1) := by rw [cd_89]; decide +kernel
theorem e_89_49 {d : Nat} {h : mM} {o0 o1 : Option Value} {T : mLs} {x : Int32} {st : List Value} : ev d 89 49 (o0 :: o1 :: some (.int x) :: T) st h = ev d 89 50 (o0 :: o1 :: some (.int x) :: T) (.int x :: st) h := ev_of d_89_49 rfl
theorem d_89_50 : decode (cd 89) 50 = .ok (.iastore, 1) := by rw [cd_89]; decide +kernel
theorem e_89_50 {d : Nat} {h : mM} {L : mLs} {st : List Value} {a : Nat} {i v : Int32} : ev d 89 50 L (.int v :: .int i :: .ref a :: st) h = if mK h a = 11 ∧ ixOK i (mL h a) = true then ev d 89 51 L st (wI h a i.toNatClampNeg v) else none := ev_is d_89_50
theorem d_89_51 : decode (cd 89) 51 = .ok (.aload_n 0, 1) := by rw [cd_89]; decide +kernel
theorem e_89_51 {d : Nat} {h : mM} {T : mLs} {x : Nat} {st : List Value} : ev d 89 51 ( some (.ref x) :: T) st h = ev d 89 52 ( some (.ref x) :: T) (.ref x :: st) h := ev_of d_89_51 rfl
theorem d_89_52 : decode (cd 89) 52 = .ok (.getfield 84, 3) := by rw [cd_89]; decide +kernel
theorem e_89_52 {d : Nat} {h : mM} {L : mLs} {st : List Value} {a : Nat} : ev d 89 52 L (.ref a :: st) h = if mK h a = 10 then oB (mR h a 29) (fun b => ev d 89 55 L (.ref b :: st) h) else none := ev_gR d_89_52 (by decide +kernel) (by decide +kernel)
theorem d_89_55 : decode (cd 89) 55 = .ok (.iconst 4, 1) := by rw [cd_89]; decide +kernel
theorem e_89_55 {d : Nat} {h : mM} {L : mLs} {st : List Value} : ev d 89 55 L st h = ev d 89 56 L (.int 4 :: st) h := ev_of d_89_55 rfl
theorem d_89_56 : decode (cd 89) 56 = .ok (.dup2, 1) := by rw [cd_89]; decide +kernel
theorem e_89_56 {d : Nat} {h : mM} {L : mLs} {st : List Value} {a : Nat} {i : Int32} : ev d 89 56 L (.int i :: .ref a :: st) h = ev d 89 57 L (.int i :: .ref a :: .int i :: .ref a :: st) h := ev_of d_89_56 rfl
theorem d_89_57 : decode (cd 89) 57 = .ok (.laload, 1) := by rw [cd_89]; decide +kernel
theorem e_89_57 {d : Nat} {h : mM} {L : mLs} {st : List Value} {a : Nat} {i : Int32} : ev d 89 57 L (.int i :: .ref a :: st) h = if mK h a = 12 ∧ ixOK i (mL h a) = true then ev d 89 58 L (.long (mJ h a i.toNatClampNeg) :: st) h else none := ev_la d_89_57
theorem d_89_58 : decode (cd 89) 58 = .ok (.iload_n 2, 1) := by rw [cd_89]; decide +kernel
theorem e_89_58 {d : Nat} {h : mM} {o0 o1 : Option Value} {T : mLs} {x : Int32} {st : List Value} : ev d 89 58 (o0 :: o1 :: some (.int x) :: T) st h = ev d 89 59 (o0 :: o1 :: some (.int x) :: T) (.int x :: st) h := ev_of d_89_58 rfl
theorem d_89_59 : decode (cd 89) 59 = .ok (.iload_n 3, 1) := by rw [cd_89]; decide +kernel
theorem e_89_59 {d : Nat} {h : mM} {o0 o1 o2 : Option Value} {T : mLs} {x : Int32} {st : List Value} : ev d 89 59 (o0 :: o1 :: o2 :: some (.int x) :: T) st h = ev d 89 60 (o0 :: o1 :: o2 :: some (.int x) :: T) (.int x :: st) h := ev_of d_89_59 rfl
theorem d_89_60 : decode (cd 89) 60 = .ok (.isub, 1) := by rw [cd_89]; decide +kernel
theorem e_89_60 {d : Nat} {h : mM} {L : mLs} {st : List Value} {x y : Int32} : ev d 89 60 L (.int y :: .int x :: st) h = ev d 89 61 L (.int (x - y) :: st) h := ev_of d_89_60 rfl
theorem d_89_61 : decode (cd 89) 61 = .ok (.i2l, 1) := by rw [cd_89]; decide +kernel
theorem e_89_61 {d : Nat} {h : mM} {L : mLs} {st : List Value} {x : Int32} : ev d 89 61 L (.int x :: st) h = ev d 89 62 L (.long x.toInt64 :: st) h := ev_of d_89_61 rfl
theorem d_89_62 : decode (cd 89) 62 = .ok (.ladd, 1) := by rw [cd_89]; decide +kernel
theorem e_89_62 {d : Nat} {h : mM} {L : mLs} {st : List Value} {x y : Int64} : ev d 89 62 L (.long y :: .long x :: st) h = ev d 89 63 L (.long (x + y) :: st) h := ev_of d_89_62 rfl
theorem d_89_63 : decode (cd 89) 63 = .ok (.lastore, 1) := by rw [cd_89]; decide +kernel
theorem e_89_63 {d : Nat} {h : mM} {L : mLs} {st : List Value} {a : Nat} {i : Int32} {v : Int64} : ev d 89 63 L (.long v :: .int i :: .ref a :: st) h = if mK h a = 12 ∧ ixOK i (mL h a) = true then ev d 89 64 L st (wJ h a i.toNatClampNeg v) else none := ev_ls d_89_63
theorem d_89_64 : decode (cd 89) 64 = .ok (.iload_n 3, 1) := by rw [cd_89]; decide +kernel
theorem e_89_64 {d : Nat} {h : mM} {o0 o1 o2 : Option Value} {T : mLs} {x : Int32} {st : List Value} : ev d 89 64 (o0 :: o1 :: o2 :: some (.int x) :: T) st h = ev d 89 65 (o0 :: o1 :: o2 :: some (.int x) :: T) (.int x :: st) h := ev_of d_89_64 rfl
theorem d_89_65 : decode (cd 89) 65 = .ok (.i2l, 1) := by rw [cd_89]; decide +kernel
theorem e_89_65 {d : Nat} {h : mM} {L : mLs} {st : List Value} {x : Int32} : ev d 89 65 L (.int x :: st) h = ev d 89 66 L (.long x.toInt64 :: st) h := ev_of d_89_65 rfl
theorem d_89_66 : decode (cd 89) 66 = .ok (.lreturn, 1) := by rw [cd_89]; decide +kernel
theorem e_89_66 {d : Nat} {h : mM} {L : mLs} {v : Int64} : ev d 89 66 L [.long v] h = some (some (.long v), h) := ev_rl d_89_66 (by decide +kernel)
-- 90: Model.channel
theorem cd_90 : cd 90 = prog_12_method_13_code := rfl
theorem d_90_0 : decode (cd 90) 0 = .ok (.aload_n 0, 1) := by rw [cd_90]; decide +kernel
theorem e_90_0 {d : Nat} {h : mM} {T : mLs} {x : Nat} {st : List Value} : ev d 90 0 ( some (.ref x) :: T) st h = ev d 90 1 ( some (.ref x) :: T) (.ref x :: st) h := ev_of d_90_0 rfl
theorem d_90_1 : decode (cd 90) 1 = .ok (.iload_n 1, 1) := by rw [cd_90]; decide +kernel
theorem e_90_1 {d : Nat} {h : mM} {o0 : Option Value} {T : mLs} {x : Int32} {st : List Value} : ev d 90 1 (o0 :: some (.int x) :: T) st h = ev d 90 2 (o0 :: some (.int x) :: T) (.int x :: st) h := ev_of d_90_1 rfl
theorem d_90_2 : decode (cd 90) 2 = .ok (.invokevirtual 132, 3) := by rw [cd_90]; decide +kernel
theorem e_90_2 {d : Nat} {h : mM} {L : mLs} {st : List Value} {a : Nat} {x0 : Int32} (hc : mCat st ≤ 8) : ev (d + 1) 90 2 L (.int x0 :: .ref a :: st) h = if mK h a = 10 then cV (ev d 81 0 [some (.ref a), some (.int x0)] [] h) (fun v h1 => ev (d + 1) 90 5 L (v ++ st) h1) else none := ev_cv (mj := 81) (as := [.int x0]) (rest := st) d_90_2 (by decide +kernel) rfl rfl (by show _ ≤ List.length _; simp only [List.length_cons]; have : na 81 = 1 := rfl; omega) rfl (Nat.le_of_ble_eq_true rfl) hc
theorem d_90_5 : decode (cd 90) 5 = .ok (.ifCond .eq 27, 3) := by rw [cd_90]; decide +kernel
theorem e_90_5 {d : Nat} {h : mM} {L : mLs} {st : List Value} {x : Int32} : ev d 90 5 L (.int x :: st) h = if x = 0 then ev d 90 32 L st h else ev d 90 8 L st h := ev_if (x = 0) inferInstance rfl d_90_5 (by decide)
theorem d_90_8 : decode (cd 90) 8 = .ok (.aload_n 0, 1) := by rw [cd_90]; decide +kernel
theorem e_90_8 {d : Nat} {h : mM} {T : mLs} {x : Nat} {st : List Value} : ev d 90 8 ( some (.ref x) :: T) st h = ev d 90 9 ( some (.ref x) :: T) (.ref x :: st) h := ev_of d_90_8 rfl
theorem d_90_9 : decode (cd 90) 9 = .ok (.iload_n 2, 1) := by rw [cd_90]; decide +kernel
theorem e_90_9 {d : Nat} {h : mM} {o0 o1 : Option Value} {T : mLs} {x : Int32} {st : List Value} : ev d 90 9 (o0 :: o1 :: some (.int x) :: T) st h = ev d 90 10 (o0 :: o1 :: some (.int x) :: T) (.int x :: st) h := ev_of d_90_9 rfl
theorem d_90_10 : decode (cd 90) 10 = .ok (.invokevirtual 132, 3) := by rw [cd_90]; decide +kernel
theorem e_90_10 {d : Nat} {h : mM} {L : mLs} {st : List Value} {a : Nat} {x0 : Int32} (hc : mCat st ≤ 8) : ev (d + 1) 90 10 L (.int x0 :: .ref a :: st) h = if mK h a = 10 then cV (ev d 81 0 [some (.ref a), some (.int x0)] [] h) (fun v h1 => ev (d + 1) 90 13 L (v ++ st) h1) else none := ev_cv (mj := 81) (as := [.int x0]) (rest := st) d_90_10 (by decide +kernel) rfl rfl (by show _ ≤ List.length _; simp only [List.length_cons]; have : na 81 = 1 := rfl; omega) rfl (Nat.le_of_ble_eq_true rfl) hc
theorem d_90_13 : decode (cd 90) 13 = .ok (.ifCond .eq 19, 3) := by rw [cd_90]; decide +kernel
theorem e_90_13 {d : Nat} {h : mM} {L : mLs} {st : List Value} {x : Int32} : ev d 90 13 L (.int x :: st) h = if x = 0 then ev d 90 32 L st h else ev d 90 16 L st h := ev_if (x = 0) inferInstance rfl d_90_13 (by decide)
theorem d_90_16 : decode (cd 90) 16 = .ok (.iload_n 1, 1) := by rw [cd_90]; decide +kernel
theorem e_90_16 {d : Nat} {h : mM} {o0 : Option Value} {T : mLs} {x : Int32} {st : List Value} : ev d 90 16 (o0 :: some (.int x) :: T) st h = ev d 90 17 (o0 :: some (.int x) :: T) (.int x :: st) h := ev_of d_90_16 rfl
theorem d_90_17 : decode (cd 90) 17 = .ok (.iload_n 2, 1) := by rw [cd_90]; decide +kernel
theorem e_90_17 {d : Nat} {h : mM} {o0 o1 : Option Value} {T : mLs} {x : Int32} {st : List Value} : ev d 90 17 (o0 :: o1 :: some (.int x) :: T) st h = ev d 90 18 (o0 :: o1 :: some (.int x) :: T) (.int x :: st) h := ev_of d_90_17 rfl
theorem d_90_18 : decode (cd 90) 18 = .ok (.if_icmp .eq 14, 3) := by rw [cd_90]; decide +kernel
theorem e_90_18 {d : Nat} {h : mM} {L : mLs} {st : List Value} {x y : Int32} : ev d 90 18 L (.int y :: .int x :: st) h = if x = y then ev d 90 32 L st h else ev d 90 21 L st h := ev_ic (x = y) inferInstance rfl d_90_18 (by decide)
theorem d_90_21 : decode (cd 90) 21 = .ok (.iload_n 3, 1) := by rw [cd_90]; decide +kernel
theorem e_90_21 {d : Nat} {h : mM} {o0 o1 o2 : Option Value} {T : mLs} {x : Int32} {st : List Value} : ev d 90 21 (o0 :: o1 :: o2 :: some (.int x) :: T) st h = ev d 90 22 (o0 :: o1 :: o2 :: some (.int x) :: T) (.int x :: st) h := ev_of d_90_21 rfl
theorem d_90_22 : decode (cd 90) 22 = .ok (.iconst 0, 1) := by rw [cd_90]; decide +kernel
theorem e_90_22 {d : Nat} {h : mM} {L : mLs} {st : List Value} : ev d 90 22 L st h = ev d 90 23 L (.int 0 :: st) h := ev_of d_90_22 rfl
theorem d_90_23 : decode (cd 90) 23 = .ok (.sipush 200, 3) := by rw [cd_90]; decide +kernel
theorem e_90_23 {d : Nat} {h : mM} {L : mLs} {st : List Value} : ev d 90 23 L st h = ev d 90 26 L (.int 200 :: st) h := ev_of d_90_23 rfl
theorem d_90_26 : decode (cd 90) 26 = .ok (.invokestatic 114, 3) := by rw [cd_90]; decide +kernel
theorem e_90_26 {d : Nat} {h : mM} {L : mLs} {st : List Value} {x0 : Int32} {x1 : Int32} {x2 : Int32} (hc : mCat st ≤ 8) : ev (d + 1) 90 26 L (.int x2 :: .int x1 :: .int x0 :: st) h = cV (ev d 80 0 [some (.int x0), some (.int x1), some (.int x2)] [] h) (fun v h1 => ev (d + 1) 90 29 L (v ++ st) h1) := ev_cs (kd := 1) (mj := 80) (as := [.int x0, .int x1, .int x2]) (rest := st) d_90_26 (by decide +kernel) (by decide) rfl rfl (by show _ ≤ List.length _; simp only [List.length_cons]; have : na 80 = 3 := rfl; omega) rfl (Nat.le_of_ble_eq_true rfl) hc
theorem d_90_29 : decode (cd 90) 29 = .ok (.ifCond .ne 11, 3) := by rw [cd_90]; decide +kernel
theorem e_90_29 {d : Nat} {h : mM} {L : mLs} {st : List Value} {x : Int32} : ev d 90 29 L (.int x :: st) h = if ¬ x = 0 then ev d 90 40 L st h else ev d 90 32 L st h := ev_if (¬ x = 0) inferInstance rfl d_90_29 (by decide)
theorem d_90_32 : decode (cd 90) 32 = .ok (.aload_n 0, 1) := by rw [cd_90]; decide +kernel
theorem e_90_32 {d : Nat} {h : mM} {T : mLs} {x : Nat} {st : List Value} : ev d 90 32 ( some (.ref x) :: T) st h = ev d 90 33 ( some (.ref x) :: T) (.ref x :: st) h := ev_of d_90_32 rfl
theorem d_90_33 : decode (cd 90) 33 = .ok (.ldc2_w 121, 3) := by rw [cd_90]; decide +kernel
theorem e_90_33 {d : Nat} {h : mM} {L : mLs} {st : List Value} : ev d 90 33 L st h = ev d 90 36 L (.long (-1000000001) :: st) h := ev_of d_90_33 rfl
theorem d_90_36 : decode (cd 90) 36 = .ok (.invokevirtual 123, 3) := by rw [cd_90]; decide +kernel
theorem e_90_36 {d : Nat} {h : mM} {L : mLs} {st : List Value} {a : Nat} {x0 : Int64} (hc : mCat st ≤ 8) : ev (d + 1) 90 36 L (.long x0 :: .ref a :: st) h = if mK h a = 10 then cV (ev d 79 0 [some (.ref a), some (.long x0), none] [] h) (fun v h1 => ev (d + 1) 90 39 L (v ++ st) h1) else none := ev_cv (mj := 79) (as := [.long x0]) (rest := st) d_90_36 (by decide +kernel) rfl rfl (by show _ ≤ List.length _; simp only [List.length_cons]; have : na 79 = 1 := rfl; omega) rfl (Nat.le_of_ble_eq_true rfl) hc
theorem d_90_39 : decode (cd 90) 39 = .ok (.lreturn, 1) := by rw [cd_90]; decide +kernel
theorem e_90_39 {d : Nat} {h : mM} {L : mLs} {v : Int64} : ev d 90 39 L [.long v] h = some (some (.long v), h) := ev_rl d_90_39 (by decide +kernel)
theorem d_90_40 : decode (cd 90) 40 = .ok (.aload_n 0, 1) := by rw [cd_90]; decide +kernel
theorem e_90_40 {d : Nat} {h : mM} {T : mLs} {x : Nat} {st : List Value} : ev d 90 40 ( some (.ref x) :: T) st h = ev d 90 41 ( some (.ref x) :: T) (.ref x :: st) h := ev_of d_90_40 rfl
theorem d_90_41 : decode (cd 90) 41 = .ok (.getfield 136, 3) := by rw [cd_90]; decide +kernel
theorem e_90_41 {d : Nat} {h : mM} {L : mLs} {st : List Value} {a : Nat} : ev d 90 41 L (.ref a :: st) h = if mK h a = 10 then ev d 90 44 L (.int (mI h a 9) :: st) h else none := ev_gI d_90_41 (by decide +kernel) (by decide +kernel)
theorem d_90_44 : decode (cd 90) 44 = .ok (.iconst 4, 1) := by rw [cd_90]; decide +kernel
theorem e_90_44 {d : Nat} {h : mM} {L : mLs} {st : List Value} : ev d 90 44 L st h = ev d 90 45 L (.int 4 :: st) h := ev_of d_90_44 rfl
theorem d_90_45 : decode (cd 90) 45 = .ok (.if_icmp .ne 11, 3) := by rw [cd_90]; decide +kernel
theorem e_90_45 {d : Nat} {h : mM} {L : mLs} {st : List Value} {x y : Int32} : ev d 90 45 L (.int y :: .int x :: st) h = if ¬ x = y then ev d 90 56 L st h else ev d 90 48 L st h := ev_ic (¬ x = y) inferInstance rfl d_90_45 (by decide)
theorem d_90_48 : decode (cd 90) 48 = .ok (.aload_n 0, 1) := by rw [cd_90]; decide +kernel
theorem e_90_48 {d : Nat} {h : mM} {T : mLs} {x : Nat} {st : List Value} : ev d 90 48 ( some (.ref x) :: T) st h = ev d 90 49 ( some (.ref x) :: T) (.ref x :: st) h := ev_of d_90_48 rfl
theorem d_90_49 : decode (cd 90) 49 = .ok (.ldc2_w 130, 3) := by rw [cd_90]; decide +kernel
theorem e_90_49 {d : Nat} {h : mM} {L : mLs} {st : List Value} : ev d 90 49 L st h = ev d 90 52 L (.long (-1000000004) :: st) h := ev_of d_90_49 rfl
theorem d_90_52 : decode (cd 90) 52 = .ok (.invokevirtual 123, 3) := by rw [cd_90]; decide +kernel
theorem e_90_52 {d : Nat} {h : mM} {L : mLs} {st : List Value} {a : Nat} {x0 : Int64} (hc : mCat st ≤ 8) : ev (d + 1) 90 52 L (.long x0 :: .ref a :: st) h = if mK h a = 10 then cV (ev d 79 0 [some (.ref a), some (.long x0), none] [] h) (fun v h1 => ev (d + 1) 90 55 L (v ++ st) h1) else none := ev_cv (mj := 79) (as := [.long x0]) (rest := st) d_90_52 (by decide +kernel) rfl rfl (by show _ ≤ List.length _; simp only [List.length_cons]; have : na 79 = 1 := rfl; omega) rfl (Nat.le_of_ble_eq_true rfl) hc
theorem d_90_55 : decode (cd 90) 55 = .ok (.lreturn, 1) := by rw [cd_90]; decide +kernel
theorem e_90_55 {d : Nat} {h : mM} {L : mLs} {v : Int64} : ev d 90 55 L [.long v] h = some (some (.long v), h) := ev_rl d_90_55 (by decide +kernel)
theorem d_90_56 : decode (cd 90) 56 = .ok (.aload_n 0, 1) := by rw [cd_90]; decide +kernel
theorem e_90_56 {d : Nat} {h : mM} {T : mLs} {x : Nat} {st : List Value} : ev d 90 56 ( some (.ref x) :: T) st h = ev d 90 57 ( some (.ref x) :: T) (.ref x :: st) h := ev_of d_90_56 rfl
theorem d_90_57 : decode (cd 90) 57 = .ok (.getfield 32, 3) := by rw [cd_90]; decide +kernel
theorem e_90_57 {d : Nat} {h : mM} {L : mLs} {st : List Value} {a : Nat} : ev d 90 57 L (.ref a :: st) h = if mK h a = 10 then oB (mR h a 10) (fun b => ev d 90 60 L (.ref b :: st) h) else none := ev_gR d_90_57 (by decide +kernel) (by decide +kernel)
theorem d_90_60 : decode (cd 90) 60 = .ok (.aload_n 0, 1) := by rw [cd_90]; decide +kernel
theorem e_90_60 {d : Nat} {h : mM} {T : mLs} {x : Nat} {st : List Value} : ev d 90 60 ( some (.ref x) :: T) st h = ev d 90 61 ( some (.ref x) :: T) (.ref x :: st) h := ev_of d_90_60 rfl
theorem d_90_61 : decode (cd 90) 61 = .ok (.getfield 136, 3) := by rw [cd_90]; decide +kernel
theorem e_90_61 {d : Nat} {h : mM} {L : mLs} {st : List Value} {a : Nat} : ev d 90 61 L (.ref a :: st) h = if mK h a = 10 then ev d 90 64 L (.int (mI h a 9) :: st) h else none := ev_gI d_90_61 (by decide +kernel) (by decide +kernel)
theorem d_90_64 : decode (cd 90) 64 = .ok (.iload_n 1, 1) := by rw [cd_90]; decide +kernel
theorem e_90_64 {d : Nat} {h : mM} {o0 : Option Value} {T : mLs} {x : Int32} {st : List Value} : ev d 90 64 (o0 :: some (.int x) :: T) st h = ev d 90 65 (o0 :: some (.int x) :: T) (.int x :: st) h := ev_of d_90_64 rfl
theorem d_90_65 : decode (cd 90) 65 = .ok (.iastore, 1) := by rw [cd_90]; decide +kernel
theorem e_90_65 {d : Nat} {h : mM} {L : mLs} {st : List Value} {a : Nat} {i v : Int32} : ev d 90 65 L (.int v :: .int i :: .ref a :: st) h = if mK h a = 11 ∧ ixOK i (mL h a) = true then ev d 90 66 L st (wI h a i.toNatClampNeg v) else none := ev_is d_90_65
theorem d_90_66 : decode (cd 90) 66 = .ok (.aload_n 0, 1) := by rw [cd_90]; decide +kernel
theorem e_90_66 {d : Nat} {h : mM} {T : mLs} {x : Nat} {st : List Value} : ev d 90 66 ( some (.ref x) :: T) st h = ev d 90 67 ( some (.ref x) :: T) (.ref x :: st) h := ev_of d_90_66 rfl
theorem d_90_67 : decode (cd 90) 67 = .ok (.getfield 35, 3) := by rw [cd_90]; decide +kernel
theorem e_90_67 {d : Nat} {h : mM} {L : mLs} {st : List Value} {a : Nat} : ev d 90 67 L (.ref a :: st) h = if mK h a = 10 then oB (mR h a 11) (fun b => ev d 90 70 L (.ref b :: st) h) else none := ev_gR d_90_67 (by decide +kernel) (by decide +kernel)
theorem d_90_70 : decode (cd 90) 70 = .ok (.aload_n 0, 1) := by rw [cd_90]; decide +kernel
theorem e_90_70 {d : Nat} {h : mM} {T : mLs} {x : Nat} {st : List Value} : ev d 90 70 ( some (.ref x) :: T) st h = ev d 90 71 ( some (.ref x) :: T) (.ref x :: st) h := ev_of d_90_70 rfl
theorem d_90_71 : decode (cd 90) 71 = .ok (.getfield 136, 3) := by rw [cd_90]; decide +kernel
theorem e_90_71 {d : Nat} {h : mM} {L : mLs} {st : List Value} {a : Nat} : ev d 90 71 L (.ref a :: st) h = if mK h a = 10 then ev d 90 74 L (.int (mI h a 9) :: st) h else none := ev_gI d_90_71 (by decide +kernel) (by decide +kernel)
theorem d_90_74 : decode (cd 90) 74 = .ok (.iload_n 2, 1) := by rw [cd_90]; decide +kernel
theorem e_90_74 {d : Nat} {h : mM} {o0 o1 : Option Value} {T : mLs} {x : Int32} {st : List Value} : ev d 90 74 (o0 :: o1 :: some (.int x) :: T) st h = ev d 90 75 (o0 :: o1 :: some (.int x) :: T) (.int x :: st) h := ev_of d_90_74 rfl
theorem d_90_75 : decode (cd 90) 75 = .ok (.iastore, 1) := by rw [cd_90]; decide +kernel
theorem e_90_75 {d : Nat} {h : mM} {L : mLs} {st : List Value} {a : Nat} {i v : Int32} : ev d 90 75 L (.int v :: .int i :: .ref a :: st) h = if mK h a = 11 ∧ ixOK i (mL h a) = true then ev d 90 76 L st (wI h a i.toNatClampNeg v) else none := ev_is d_90_75
theorem d_90_76 : decode (cd 90) 76 = .ok (.aload_n 0, 1) := by rw [cd_90]; decide +kernel
theorem e_90_76 {d : Nat} {h : mM} {T : mLs} {x : Nat} {st : List Value} : ev d 90 76 ( some (.ref x) :: T) st h = ev d 90 77 ( some (.ref x) :: T) (.ref x :: st) h := ev_of d_90_76 rfl
theorem d_90_77 : decode (cd 90) 77 = .ok (.getfield 38, 3) := by rw [cd_90]; decide +kernel
theorem e_90_77 {d : Nat} {h : mM} {L : mLs} {st : List Value} {a : Nat} : ev d 90 77 L (.ref a :: st) h = if mK h a = 10 then oB (mR h a 12) (fun b => ev d 90 80 L (.ref b :: st) h) else none := ev_gR d_90_77 (by decide +kernel) (by decide +kernel)
theorem d_90_80 : decode (cd 90) 80 = .ok (.aload_n 0, 1) := by rw [cd_90]; decide +kernel
theorem e_90_80 {d : Nat} {h : mM} {T : mLs} {x : Nat} {st : List Value} : ev d 90 80 ( some (.ref x) :: T) st h = ev d 90 81 ( some (.ref x) :: T) (.ref x :: st) h := ev_of d_90_80 rfl
theorem d_90_81 : decode (cd 90) 81 = .ok (.getfield 136, 3) := by rw [cd_90]; decide +kernel
theorem e_90_81 {d : Nat} {h : mM} {L : mLs} {st : List Value} {a : Nat} : ev d 90 81 L (.ref a :: st) h = if mK h a = 10 then ev d 90 84 L (.int (mI h a 9) :: st) h else none := ev_gI d_90_81 (by decide +kernel) (by decide +kernel)
theorem d_90_84 : decode (cd 90) 84 = .ok (.iload_n 3, 1) := by rw [cd_90]; decide +kernel
theorem e_90_84 {d : Nat} {h : mM} {o0 o1 o2 : Option Value} {T : mLs} {x : Int32} {st : List Value} : ev d 90 84 (o0 :: o1 :: o2 :: some (.int x) :: T) st h = ev d 90 85 (o0 :: o1 :: o2 :: some (.int x) :: T) (.int x :: st) h := ev_of d_90_84 rfl
theorem d_90_85 : decode (cd 90) 85 = .ok (.iastore, 1) := by rw [cd_90]; decide +kernel
theorem e_90_85 {d : Nat} {h : mM} {L : mLs} {st : List Value} {a : Nat} {i v : Int32} : ev d 90 85 L (.int v :: .int i :: .ref a :: st) h = if mK h a = 11 ∧ ixOK i (mL h a) = true then ev d 90 86 L st (wI h a i.toNatClampNeg v) else none := ev_is d_90_85
theorem d_90_86 : decode (cd 90) 86 = .ok (.aload_n 0, 1) := by rw [cd_90]; decide +kernel
theorem e_90_86 {d : Nat} {h : mM} {T : mLs} {x : Nat} {st : List Value} : ev d 90 86 ( some (.ref x) :: T) st h = ev d 90 87 ( some (.ref x) :: T) (.ref x :: st) h := ev_of d_90_86 rfl
theorem d_90_87 : decode (cd 90) 87 = .ok (.dup, 1) := by rw [cd_90]; decide +kernel
theorem e_90_87r {d : Nat} {h : mM} {L : mLs} {st : List Value} {a : Nat} : ev d 90 87 L (.ref a :: st) h = ev d 90 88 L (.ref a :: .ref a :: st) h := ev_of d_90_87 rfl
theorem e_90_87i {d : Nat} {h : mM} {L : mLs} {st : List Value} {x : Int32} : ev d 90 87 L (.int x :: st) h = ev d 90 88 L (.int x :: .int x :: st) h := ev_of d_90_87 rfl
theorem d_90_88 : decode (cd 90) 88 = .ok (.getfield 136, 3) := by rw [cd_90]; decide +kernel
theorem e_90_88 {d : Nat} {h : mM} {L : mLs} {st : List Value} {a : Nat} : ev d 90 88 L (.ref a :: st) h = if mK h a = 10 then ev d 90 91 L (.int (mI h a 9) :: st) h else none := ev_gI d_90_88 (by decide +kernel) (by decide +kernel)
theorem d_90_91 : decode (cd 90) 91 = .ok (.iconst 1, 1) := by rw [cd_90]; decide +kernel
theorem e_90_91 {d : Nat} {h : mM} {L : mLs} {st : List Value} : ev d 90 91 L st h = ev d 90 92 L (.int 1 :: st) h := ev_of d_90_91 rfl
theorem d_90_92 : decode (cd 90) 92 = .ok (.iadd, 1) := by rw [cd_90]; decide +kernel
theorem e_90_92 {d : Nat} {h : mM} {L : mLs} {st : List Value} {x y : Int32} : ev d 90 92 L (.int y :: .int x :: st) h = ev d 90 93 L (.int (x + y) :: st) h := ev_of d_90_92 rfl
theorem d_90_93 : decode (cd 90) 93 = .ok (.putfield 136, 3) := by rw [cd_90]; decide +kernel
theorem e_90_93 {d : Nat} {h : mM} {L : mLs} {st : List Value} {a : Nat} {v : Int32} : ev d 90 93 L (.int v :: .ref a :: st) h = if mK h a = 10 then ev d 90 96 L st (wI h a 9 v) else none := ev_pI d_90_93 (by decide +kernel) (by decide +kernel) (by decide +kernel)
theorem d_90_96 : decode (cd 90) 96 = .ok (.aload_n 0, 1) := by rw [cd_90]; decide +kernel
theorem e_90_96 {d : Nat} {h : mM} {T : mLs} {x : Nat} {st : List Value} : ev d 90 96 ( some (.ref x) :: T) st h = ev d 90 97 ( some (.ref x) :: T) (.ref x :: st) h := ev_of d_90_96 rfl
theorem d_90_97 : decode (cd 90) 97 = .ok (.getfield 136, 3) := by rw [cd_90]; decide +kernel
theorem e_90_97 {d : Nat} {h : mM} {L : mLs} {st : List Value} {a : Nat} : ev d 90 97 L (.ref a :: st) h = if mK h a = 10 then ev d 90 100 L (.int (mI h a 9) :: st) h else none := ev_gI d_90_97 (by decide +kernel) (by decide +kernel)
theorem d_90_100 : decode (cd 90) 100 = .ok (.iconst 1, 1) := by rw [cd_90]; decide +kernel
theorem e_90_100 {d : Nat} {h : mM} {L : mLs} {st : List Value} : ev d 90 100 L st h = ev d 90 101 L (.int 1 :: st) h := ev_of d_90_100 rfl
theorem d_90_101 : decode (cd 90) 101 = .ok (.isub, 1) := by rw [cd_90]; decide +kernel
theorem e_90_101 {d : Nat} {h : mM} {L : mLs} {st : List Value} {x y : Int32} : ev d 90 101 L (.int y :: .int x :: st) h = ev d 90 102 L (.int (x - y) :: st) h := ev_of d_90_101 rfl
theorem d_90_102 : decode (cd 90) 102 = .ok (.i2l, 1) := by rw [cd_90]; decide +kernel
theorem e_90_102 {d : Nat} {h : mM} {L : mLs} {st : List Value} {x : Int32} : ev d 90 102 L (.int x :: st) h = ev d 90 103 L (.long x.toInt64 :: st) h := ev_of d_90_102 rfl
theorem d_90_103 : decode (cd 90) 103 = .ok (.lreturn, 1) := by rw [cd_90]; decide +kernel
theorem e_90_103 {d : Nat} {h : mM} {L : mLs} {v : Int64} : ev d 90 103 L [.long v] h = some (some (.long v), h) := ev_rl d_90_103 (by decide +kernel)
-- 91: Model.widen
theorem cd_91 : cd 91 = prog_12_method_14_code := rfl
theorem d_91_0 : decode (cd 91) 0 = .ok (.iload_n 1, 1) := by rw [cd_91]; decide +kernel
theorem e_91_0 {d : Nat} {h : mM} {o0 : Option Value} {T : mLs} {x : Int32} {st : List Value} : ev d 91 0 (o0 :: some (.int x) :: T) st h = ev d 91 1 (o0 :: some (.int x) :: T) (.int x :: st) h := ev_of d_91_0 rfl
theorem d_91_1 : decode (cd 91) 1 = .ok (.iconst 0, 1) := by rw [cd_91]; decide +kernel
theorem e_91_1 {d : Nat} {h : mM} {L : mLs} {st : List Value} : ev d 91 1 L st h = ev d 91 2 L (.int 0 :: st) h := ev_of d_91_1 rfl
theorem d_91_2 : decode (cd 91) 2 = .ok (.aload_n 0, 1) := by rw [cd_91]; decide +kernel
theorem e_91_2 {d : Nat} {h : mM} {T : mLs} {x : Nat} {st : List Value} : ev d 91 2 ( some (.ref x) :: T) st h = ev d 91 3 ( some (.ref x) :: T) (.ref x :: st) h := ev_of d_91_2 rfl
theorem d_91_3 : decode (cd 91) 3 = .ok (.getfield 136, 3) := by rw [cd_91]; decide +kernel
theorem e_91_3 {d : Nat} {h : mM} {L : mLs} {st : List Value} {a : Nat} : ev d 91 3 L (.ref a :: st) h = if mK h a = 10 then ev d 91 6 L (.int (mI h a 9) :: st) h else none := ev_gI d_91_3 (by decide +kernel) (by decide +kernel)
theorem d_91_6 : decode (cd 91) 6 = .ok (.iconst 1, 1) := by rw [cd_91]; decide +kernel
theorem e_91_6 {d : Nat} {h : mM} {L : mLs} {st : List Value} : ev d 91 6 L st h = ev d 91 7 L (.int 1 :: st) h := ev_of d_91_6 rfl
theorem d_91_7 : decode (cd 91) 7 = .ok (.isub, 1) := by rw [cd_91]; decide +kernel
theorem e_91_7 {d : Nat} {h : mM} {L : mLs} {st : List Value} {x y : Int32} : ev d 91 7 L (.int y :: .int x :: st) h = ev d 91 8 L (.int (x - y) :: st) h := ev_of d_91_7 rfl
theorem d_91_8 : decode (cd 91) 8 = .ok (.invokestatic 114, 3) := by rw [cd_91]; decide +kernel
theorem e_91_8 {d : Nat} {h : mM} {L : mLs} {st : List Value} {x0 : Int32} {x1 : Int32} {x2 : Int32} (hc : mCat st ≤ 8) : ev (d + 1) 91 8 L (.int x2 :: .int x1 :: .int x0 :: st) h = cV (ev d 80 0 [some (.int x0), some (.int x1), some (.int x2)] [] h) (fun v h1 => ev (d + 1) 91 11 L (v ++ st) h1) := ev_cs (kd := 1) (mj := 80) (as := [.int x0, .int x1, .int x2]) (rest := st) d_91_8 (by decide +kernel) (by decide) rfl rfl (by show _ ≤ List.length _; simp only [List.length_cons]; have : na 80 = 3 := rfl; omega) rfl (Nat.le_of_ble_eq_true rfl) hc
theorem d_91_11 : decode (cd 91) 11 = .ok (.ifCond .eq 14, 3) := by rw [cd_91]; decide +kernel
theorem e_91_11 {d : Nat} {h : mM} {L : mLs} {st : List Value} {x : Int32} : ev d 91 11 L (.int x :: st) h = if x = 0 then ev d 91 25 L st h else ev d 91 14 L st h := ev_if (x = 0) inferInstance rfl d_91_11 (by decide)
theorem d_91_14 : decode (cd 91) 14 = .ok (.iload_n 2, 1) := by rw [cd_91]; decide +kernel
theorem e_91_14 {d : Nat} {h : mM} {o0 o1 : Option Value} {T : mLs} {x : Int32} {st : List Value} : ev d 91 14 (o0 :: o1 :: some (.int x) :: T) st h = ev d 91 15 (o0 :: o1 :: some (.int x) :: T) (.int x :: st) h := ev_of d_91_14 rfl
theorem d_91_15 : decode (cd 91) 15 = .ok (.iconst 0, 1) := by rw [cd_91]; decide +kernel
theorem e_91_15 {d : Nat} {h : mM} {L : mLs} {st : List Value} : ev d 91 15 L st h = ev d 91 16 L (.int 0 :: st) h := ev_of d_91_15 rfl
theorem d_91_16 : decode (cd 91) 16 = .ok (.sipush 200, 3) := by rw [cd_91]; decide +kernel
theorem e_91_16 {d : Nat} {h : mM} {L : mLs} {st : List Value} : ev d 91 16 L st h = ev d 91 19 L (.int 200 :: st) h := ev_of d_91_16 rfl
theorem d_91_19 : decode (cd 91) 19 = .ok (.invokestatic 114, 3) := by rw [cd_91]; decide +kernel
theorem e_91_19 {d : Nat} {h : mM} {L : mLs} {st : List Value} {x0 : Int32} {x1 : Int32} {x2 : Int32} (hc : mCat st ≤ 8) : ev (d + 1) 91 19 L (.int x2 :: .int x1 :: .int x0 :: st) h = cV (ev d 80 0 [some (.int x0), some (.int x1), some (.int x2)] [] h) (fun v h1 => ev (d + 1) 91 22 L (v ++ st) h1) := ev_cs (kd := 1) (mj := 80) (as := [.int x0, .int x1, .int x2]) (rest := st) d_91_19 (by decide +kernel) (by decide) rfl rfl (by show _ ≤ List.length _; simp only [List.length_cons]; have : na 80 = 3 := rfl; omega) rfl (Nat.le_of_ble_eq_true rfl) hc
theorem d_91_22 : decode (cd 91) 22 = .ok (.ifCond .ne 11, 3) := by rw [cd_91]; decide +kernel
theorem e_91_22 {d : Nat} {h : mM} {L : mLs} {st : List Value} {x : Int32} : ev d 91 22 L (.int x :: st) h = if ¬ x = 0 then ev d 91 33 L st h else ev d 91 25 L st h := ev_if (¬ x = 0) inferInstance rfl d_91_22 (by decide)
theorem d_91_25 : decode (cd 91) 25 = .ok (.aload_n 0, 1) := by rw [cd_91]; decide +kernel
theorem e_91_25 {d : Nat} {h : mM} {T : mLs} {x : Nat} {st : List Value} : ev d 91 25 ( some (.ref x) :: T) st h = ev d 91 26 ( some (.ref x) :: T) (.ref x :: st) h := ev_of d_91_25 rfl
theorem d_91_26 : decode (cd 91) 26 = .ok (.ldc2_w 121, 3) := by rw [cd_91]; decide +kernel
theorem e_91_26 {d : Nat} {h : mM} {L : mLs} {st : List Value} : ev d 91 26 L st h = ev d 91 29 L (.long (-1000000001) :: st) h := ev_of d_91_26 rfl
theorem d_91_29 : decode (cd 91) 29 = .ok (.invokevirtual 123, 3) := by rw [cd_91]; decide +kernel
theorem e_91_29 {d : Nat} {h : mM} {L : mLs} {st : List Value} {a : Nat} {x0 : Int64} (hc : mCat st ≤ 8) : ev (d + 1) 91 29 L (.long x0 :: .ref a :: st) h = if mK h a = 10 then cV (ev d 79 0 [some (.ref a), some (.long x0), none] [] h) (fun v h1 => ev (d + 1) 91 32 L (v ++ st) h1) else none := ev_cv (mj := 79) (as := [.long x0]) (rest := st) d_91_29 (by decide +kernel) rfl rfl (by show _ ≤ List.length _; simp only [List.length_cons]; have : na 79 = 1 := rfl; omega) rfl (Nat.le_of_ble_eq_true rfl) hc
theorem d_91_32 : decode (cd 91) 32 = .ok (.lreturn, 1) := by rw [cd_91]; decide +kernel
theorem e_91_32 {d : Nat} {h : mM} {L : mLs} {v : Int64} : ev d 91 32 L [.long v] h = some (some (.long v), h) := ev_rl d_91_32 (by decide +kernel)
theorem d_91_33 : decode (cd 91) 33 = .ok (.aload_n 0, 1) := by rw [cd_91]; decide +kernel
theorem e_91_33 {d : Nat} {h : mM} {T : mLs} {x : Nat} {st : List Value} : ev d 91 33 ( some (.ref x) :: T) st h = ev d 91 34 ( some (.ref x) :: T) (.ref x :: st) h := ev_of d_91_33 rfl
theorem d_91_34 : decode (cd 91) 34 = .ok (.getfield 38, 3) := by rw [cd_91]; decide +kernel
theorem e_91_34 {d : Nat} {h : mM} {L : mLs} {st : List Value} {a : Nat} : ev d 91 34 L (.ref a :: st) h = if mK h a = 10 then oB (mR h a 12) (fun b => ev d 91 37 L (.ref b :: st) h) else none := ev_gR d_91_34 (by decide +kernel) (by decide +kernel)
theorem d_91_37 : decode (cd 91) 37 = .ok (.iload_n 1, 1) := by rw [cd_91]; decide +kernel
theorem e_91_37 {d : Nat} {h : mM} {o0 : Option Value} {T : mLs} {x : Int32} {st : List Value} : ev d 91 37 (o0 :: some (.int x) :: T) st h = ev d 91 38 (o0 :: some (.int x) :: T) (.int x :: st) h := ev_of d_91_37 rfl
theorem d_91_38 : decode (cd 91) 38 = .ok (.iaload, 1) := by rw [cd_91]; decide +kernel
theorem e_91_38 {d : Nat} {h : mM} {L : mLs} {st : List Value} {a : Nat} {i : Int32} : ev d 91 38 L (.int i :: .ref a :: st) h = if (mK h a = 11 ∨ mK h a = 19) ∧ ixOK i (mL h a) = true then ev d 91 39 L (.int (mI h a i.toNatClampNeg) :: st) h else none := ev_ia d_91_38
theorem d_91_39 : decode (cd 91) 39 = .ok (.istore_n 3, 1) := by rw [cd_91]; decide +kernel
theorem e_91_39 {d : Nat} {h : mM} {o0 o1 o2 o3 : Option Value} {T : mLs} {x : Int32} {st : List Value} (hl : mLong o2 = false) : ev d 91 39 (o0 :: o1 :: o2 :: o3 :: T) (.int x :: st) h = ev d 91 40 (o0 :: o1 :: o2 :: some (.int x) :: T) st h := ev_st_in d_91_39 (by decide +kernel) (mS1_s (j := 2) hl)
theorem d_91_40 : decode (cd 91) 40 = .ok (.aload_n 0, 1) := by rw [cd_91]; decide +kernel
theorem e_91_40 {d : Nat} {h : mM} {T : mLs} {x : Nat} {st : List Value} : ev d 91 40 ( some (.ref x) :: T) st h = ev d 91 41 ( some (.ref x) :: T) (.ref x :: st) h := ev_of d_91_40 rfl
theorem d_91_41 : decode (cd 91) 41 = .ok (.getfield 38, 3) := by rw [cd_91]; decide +kernel
theorem e_91_41 {d : Nat} {h : mM} {L : mLs} {st : List Value} {a : Nat} : ev d 91 41 L (.ref a :: st) h = if mK h a = 10 then oB (mR h a 12) (fun b => ev d 91 44 L (.ref b :: st) h) else none := ev_gR d_91_41 (by decide +kernel) (by decide +kernel)
theorem d_91_44 : decode (cd 91) 44 = .ok (.iload_n 1, 1) := by rw [cd_91]; decide +kernel
theorem e_91_44 {d : Nat} {h : mM} {o0 : Option Value} {T : mLs} {x : Int32} {st : List Value} : ev d 91 44 (o0 :: some (.int x) :: T) st h = ev d 91 45 (o0 :: some (.int x) :: T) (.int x :: st) h := ev_of d_91_44 rfl
theorem d_91_45 : decode (cd 91) 45 = .ok (.iload_n 2, 1) := by rw [cd_91]; decide +kernel
theorem e_91_45 {d : Nat} {h : mM} {o0 o1 : Option Value} {T : mLs} {x : Int32} {st : List Value} : ev d 91 45 (o0 :: o1 :: some (.int x) :: T) st h = ev d 91 46 (o0 :: o1 :: some (.int x) :: T) (.int x :: st) h := ev_of d_91_45 rfl
theorem d_91_46 : decode (cd 91) 46 = .ok (.iastore, 1) := by rw [cd_91]; decide +kernel
theorem e_91_46 {d : Nat} {h : mM} {L : mLs} {st : List Value} {a : Nat} {i v : Int32} : ev d 91 46 L (.int v :: .int i :: .ref a :: st) h = if mK h a = 11 ∧ ixOK i (mL h a) = true then ev d 91 47 L st (wI h a i.toNatClampNeg v) else none := ev_is d_91_46
theorem d_91_47 : decode (cd 91) 47 = .ok (.iload_n 3, 1) := by rw [cd_91]; decide +kernel
theorem e_91_47 {d : Nat} {h : mM} {o0 o1 o2 : Option Value} {T : mLs} {x : Int32} {st : List Value} : ev d 91 47 (o0 :: o1 :: o2 :: some (.int x) :: T) st h = ev d 91 48 (o0 :: o1 :: o2 :: some (.int x) :: T) (.int x :: st) h := ev_of d_91_47 rfl
theorem d_91_48 : decode (cd 91) 48 = .ok (.i2l, 1) := by rw [cd_91]; decide +kernel
theorem e_91_48 {d : Nat} {h : mM} {L : mLs} {st : List Value} {x : Int32} : ev d 91 48 L (.int x :: st) h = ev d 91 49 L (.long x.toInt64 :: st) h := ev_of d_91_48 rfl
theorem d_91_49 : decode (cd 91) 49 = .ok (.lreturn, 1) := by rw [cd_91]; decide +kernel
theorem e_91_49 {d : Nat} {h : mM} {L : mLs} {v : Int64} : ev d 91 49 L [.long v] h = some (some (.long v), h) := ev_rl d_91_49 (by decide +kernel)
-- 92: Model.about
theorem cd_92 : cd 92 = prog_12_method_15_code := rfl
theorem d_92_0 : decode (cd 92) 0 = .ok (.aload_n 0, 1) := by rw [cd_92]; decide +kernel
theorem e_92_0 {d : Nat} {h : mM} {T : mLs} {x : Nat} {st : List Value} : ev d 92 0 ( some (.ref x) :: T) st h = ev d 92 1 ( some (.ref x) :: T) (.ref x :: st) h := ev_of d_92_0 rfl
theorem d_92_1 : decode (cd 92) 1 = .ok (.iload_n 1, 1) := by rw [cd_92]; decide +kernel
theorem e_92_1 {d : Nat} {h : mM} {o0 : Option Value} {T : mLs} {x : Int32} {st : List Value} : ev d 92 1 (o0 :: some (.int x) :: T) st h = ev d 92 2 (o0 :: some (.int x) :: T) (.int x :: st) h := ev_of d_92_1 rfl
theorem d_92_2 : decode (cd 92) 2 = .ok (.invokevirtual 132, 3) := by rw [cd_92]; decide +kernel
theorem e_92_2 {d : Nat} {h : mM} {L : mLs} {st : List Value} {a : Nat} {x0 : Int32} (hc : mCat st ≤ 8) : ev (d + 1) 92 2 L (.int x0 :: .ref a :: st) h = if mK h a = 10 then cV (ev d 81 0 [some (.ref a), some (.int x0)] [] h) (fun v h1 => ev (d + 1) 92 5 L (v ++ st) h1) else none := ev_cv (mj := 81) (as := [.int x0]) (rest := st) d_92_2 (by decide +kernel) rfl rfl (by show _ ≤ List.length _; simp only [List.length_cons]; have : na 81 = 1 := rfl; omega) rfl (Nat.le_of_ble_eq_true rfl) hc
theorem d_92_5 : decode (cd 92) 5 = .ok (.ifCond .eq 12, 3) := by rw [cd_92]; decide +kernel
theorem e_92_5 {d : Nat} {h : mM} {L : mLs} {st : List Value} {x : Int32} : ev d 92 5 L (.int x :: st) h = if x = 0 then ev d 92 17 L st h else ev d 92 8 L st h := ev_if (x = 0) inferInstance rfl d_92_5 (by decide)
theorem d_92_8 : decode (cd 92) 8 = .ok (.iload_n 2, 1) := by rw [cd_92]; decide +kernel
theorem e_92_8 {d : Nat} {h : mM} {o0 o1 : Option Value} {T : mLs} {x : Int32} {st : List Value} : ev d 92 8 (o0 :: o1 :: some (.int x) :: T) st h = ev d 92 9 (o0 :: o1 :: some (.int x) :: T) (.int x :: st) h := ev_of d_92_8 rfl
theorem d_92_9 : decode (cd 92) 9 = .ok (.iconst 0, 1) := by rw [cd_92]; decide +kernel
theorem e_92_9 {d : Nat} {h : mM} {L : mLs} {st : List Value} : ev d 92 9 L st h = ev d 92 10 L (.int 0 :: st) h := ev_of d_92_9 rfl
theorem d_92_10 : decode (cd 92) 10 = .ok (.iconst 5, 1) := by rw [cd_92]; decide +kernel
theorem e_92_10 {d : Nat} {h : mM} {L : mLs} {st : List Value} : ev d 92 10 L st h = ev d 92 11 L (.int 5 :: st) h := ev_of d_92_10 rfl
theorem d_92_11 : decode (cd 92) 11 = .ok (.invokestatic 114, 3) := by rw [cd_92]; decide +kernel
theorem e_92_11 {d : Nat} {h : mM} {L : mLs} {st : List Value} {x0 : Int32} {x1 : Int32} {x2 : Int32} (hc : mCat st ≤ 8) : ev (d + 1) 92 11 L (.int x2 :: .int x1 :: .int x0 :: st) h = cV (ev d 80 0 [some (.int x0), some (.int x1), some (.int x2)] [] h) (fun v h1 => ev (d + 1) 92 14 L (v ++ st) h1) := ev_cs (kd := 1) (mj := 80) (as := [.int x0, .int x1, .int x2]) (rest := st) d_92_11 (by decide +kernel) (by decide) rfl rfl (by show _ ≤ List.length _; simp only [List.length_cons]; have : na 80 = 3 := rfl; omega) rfl (Nat.le_of_ble_eq_true rfl) hc
theorem d_92_14 : decode (cd 92) 14 = .ok (.ifCond .ne 11, 3) := by rw [cd_92]; decide +kernel
theorem e_92_14 {d : Nat} {h : mM} {L : mLs} {st : List Value} {x : Int32} : ev d 92 14 L (.int x :: st) h = if ¬ x = 0 then ev d 92 25 L st h else ev d 92 17 L st h := ev_if (¬ x = 0) inferInstance rfl d_92_14 (by decide)
theorem d_92_17 : decode (cd 92) 17 = .ok (.aload_n 0, 1) := by rw [cd_92]; decide +kernel
theorem e_92_17 {d : Nat} {h : mM} {T : mLs} {x : Nat} {st : List Value} : ev d 92 17 ( some (.ref x) :: T) st h = ev d 92 18 ( some (.ref x) :: T) (.ref x :: st) h := ev_of d_92_17 rfl
theorem d_92_18 : decode (cd 92) 18 = .ok (.ldc2_w 121, 3) := by rw [cd_92]; decide +kernel
theorem e_92_18 {d : Nat} {h : mM} {L : mLs} {st : List Value} : ev d 92 18 L st h = ev d 92 21 L (.long (-1000000001) :: st) h := ev_of d_92_18 rfl
theorem d_92_21 : decode (cd 92) 21 = .ok (.invokevirtual 123, 3) := by rw [cd_92]; decide +kernel
theorem e_92_21 {d : Nat} {h : mM} {L : mLs} {st : List Value} {a : Nat} {x0 : Int64} (hc : mCat st ≤ 8) : ev (d + 1) 92 21 L (.long x0 :: .ref a :: st) h = if mK h a = 10 then cV (ev d 79 0 [some (.ref a), some (.long x0), none] [] h) (fun v h1 => ev (d + 1) 92 24 L (v ++ st) h1) else none := ev_cv (mj := 79) (as := [.long x0]) (rest := st) d_92_21 (by decide +kernel) rfl rfl (by show _ ≤ List.length _; simp only [List.length_cons]; have : na 79 = 1 := rfl; omega) rfl (Nat.le_of_ble_eq_true rfl) hc
theorem d_92_24 : decode (cd 92) 24 = .ok (.lreturn, 1) := by rw [cd_92]; decide +kernel
theorem e_92_24 {d : Nat} {h : mM} {L : mLs} {v : Int64} : ev d 92 24 L [.long v] h = some (some (.long v), h) := ev_rl d_92_24 (by decide +kernel)
theorem d_92_25 : decode (cd 92) 25 = .ok (.iconst 0, 1) := by rw [cd_92]; decide +kernel
theorem e_92_25 {d : Nat} {h : mM} {L : mLs} {st : List Value} : ev d 92 25 L st h = ev d 92 26 L (.int 0 :: st) h := ev_of d_92_25 rfl
theorem d_92_26 : decode (cd 92) 26 = .ok (.istore_n 3, 1) := by rw [cd_92]; decide +kernel
theorem e_92_26 {d : Nat} {h : mM} {o0 o1 o2 o3 : Option Value} {T : mLs} {x : Int32} {st : List Value} (hl : mLong o2 = false) : ev d 92 26 (o0 :: o1 :: o2 :: o3 :: T) (.int x :: st) h = ev d 92 27 (o0 :: o1 :: o2 :: some (.int x) :: T) st h := ev_st_in d_92_26 (by decide +kernel) (mS1_s (j := 2) hl)
theorem d_92_27 : decode (cd 92) 27 = .ok (.iconst 0, 1) := by rw [cd_92]; decide +kernel
theorem e_92_27 {d : Nat} {h : mM} {L : mLs} {st : List Value} : ev d 92 27 L st h = ev d 92 28 L (.int 0 :: st) h := ev_of d_92_27 rfl
theorem d_92_28 : decode (cd 92) 28 = .ok (.istore 4, 2) := by rw [cd_92]; decide +kernel
theorem e_92_28 {d : Nat} {h : mM} {o0 o1 o2 o3 o4 : Option Value} {T : mLs} {x : Int32} {st : List Value} (hl : mLong o3 = false) : ev d 92 28 (o0 :: o1 :: o2 :: o3 :: o4 :: T) (.int x :: st) h = ev d 92 30 (o0 :: o1 :: o2 :: o3 :: some (.int x) :: T) st h := ev_st_i d_92_28 (by decide +kernel) (mS1_s (j := 3) hl)
theorem d_92_30 : decode (cd 92) 30 = .ok (.iload 4, 2) := by rw [cd_92]; decide +kernel
theorem e_92_30 {d : Nat} {h : mM} {o0 o1 o2 o3 : Option Value} {T : mLs} {x : Int32} {st : List Value} : ev d 92 30 (o0 :: o1 :: o2 :: o3 :: some (.int x) :: T) st h = ev d 92 32 (o0 :: o1 :: o2 :: o3 :: some (.int x) :: T) (.int x :: st) h := ev_of d_92_30 rfl
theorem d_92_32 : decode (cd 92) 32 = .ok (.aload_n 0, 1) := by rw [cd_92]; decide +kernel
theorem e_92_32 {d : Nat} {h : mM} {T : mLs} {x : Nat} {st : List Value} : ev d 92 32 ( some (.ref x) :: T) st h = ev d 92 33 ( some (.ref x) :: T) (.ref x :: st) h := ev_of d_92_32 rfl
theorem d_92_33 : decode (cd 92) 33 = .ok (.getfield 118, 3) := by rw [cd_92]; decide +kernel
theorem e_92_33 {d : Nat} {h : mM} {L : mLs} {st : List Value} {a : Nat} : ev d 92 33 L (.ref a :: st) h = if mK h a = 10 then ev d 92 36 L (.int (mI h a 13) :: st) h else none := ev_gI d_92_33 (by decide +kernel) (by decide +kernel)
theorem d_92_36 : decode (cd 92) 36 = .ok (.if_icmp .ge 28, 3) := by rw [cd_92]; decide +kernel
theorem e_92_36 {d : Nat} {h : mM} {L : mLs} {st : List Value} {x y : Int32} : ev d 92 36 L (.int y :: .int x :: st) h = if y ≤ x then ev d 92 64 L st h else ev d 92 39 L st h := ev_ic (y ≤ x) inferInstance rfl d_92_36 (by decide)
theorem d_92_39 : decode (cd 92) 39 = .ok (.iload_n 3, 1) := by rw [cd_92]; decide +kernel
theorem e_92_39 {d : Nat} {h : mM} {o0 o1 o2 : Option Value} {T : mLs} {x : Int32} {st : List Value} : ev d 92 39 (o0 :: o1 :: o2 :: some (.int x) :: T) st h = ev d 92 40 (o0 :: o1 :: o2 :: some (.int x) :: T) (.int x :: st) h := ev_of d_92_39 rfl
theorem d_92_40 : decode (cd 92) 40 = .ok (.aload_n 0, 1) := by rw [cd_92]; decide +kernel
theorem e_92_40 {d : Nat} {h : mM} {T : mLs} {x : Nat} {st : List Value} : ev d 92 40 ( some (.ref x) :: T) st h = ev d 92 41 ( some (.ref x) :: T) (.ref x :: st) h := ev_of d_92_40 rfl
theorem d_92_41 : decode (cd 92) 41 = .ok (.getfield 44, 3) := by rw [cd_92]; decide +kernel
theorem e_92_41 {d : Nat} {h : mM} {L : mLs} {st : List Value} {a : Nat} : ev d 92 41 L (.ref a :: st) h = if mK h a = 10 then oB (mR h a 15) (fun b => ev d 92 44 L (.ref b :: st) h) else none := ev_gR d_92_41 (by decide +kernel) (by decide +kernel)
theorem d_92_44 : decode (cd 92) 44 = .ok (.iload 4, 2) := by rw [cd_92]; decide +kernel
theorem e_92_44 {d : Nat} {h : mM} {o0 o1 o2 o3 : Option Value} {T : mLs} {x : Int32} {st : List Value} : ev d 92 44 (o0 :: o1 :: o2 :: o3 :: some (.int x) :: T) st h = ev d 92 46 (o0 :: o1 :: o2 :: o3 :: some (.int x) :: T) (.int x :: st) h := ev_of d_92_44 rfl
theorem d_92_46 : decode (cd 92) 46 = .ok (.iaload, 1) := by rw [cd_92]; decide +kernel
theorem e_92_46 {d : Nat} {h : mM} {L : mLs} {st : List Value} {a : Nat} {i : Int32} : ev d 92 46 L (.int i :: .ref a :: st) h = if (mK h a = 11 ∨ mK h a = 19) ∧ ixOK i (mL h a) = true then ev d 92 47 L (.int (mI h a i.toNatClampNeg) :: st) h else none := ev_ia d_92_46
theorem d_92_47 : decode (cd 92) 47 = .ok (.iload_n 1, 1) := by rw [cd_92]; decide +kernel
theorem e_92_47 {d : Nat} {h : mM} {o0 : Option Value} {T : mLs} {x : Int32} {st : List Value} : ev d 92 47 (o0 :: some (.int x) :: T) st h = ev d 92 48 (o0 :: some (.int x) :: T) (.int x :: st) h := ev_of d_92_47 rfl
theorem d_92_48 : decode (cd 92) 48 = .ok (.if_icmp .ne 7, 3) := by rw [cd_92]; decide +kernel
theorem e_92_48 {d : Nat} {h : mM} {L : mLs} {st : List Value} {x y : Int32} : ev d 92 48 L (.int y :: .int x :: st) h = if ¬ x = y then ev d 92 55 L st h else ev d 92 51 L st h := ev_ic (¬ x = y) inferInstance rfl d_92_48 (by decide)
theorem d_92_51 : decode (cd 92) 51 = .ok (.iconst 1, 1) := by rw [cd_92]; decide +kernel
theorem e_92_51 {d : Nat} {h : mM} {L : mLs} {st : List Value} : ev d 92 51 L st h = ev d 92 52 L (.int 1 :: st) h := ev_of d_92_51 rfl
theorem d_92_52 : decode (cd 92) 52 = .ok (.goto 4, 3) := by rw [cd_92]; decide +kernel
theorem e_92_52 {d : Nat} {h : mM} {L : mLs} {st : List Value} : ev d 92 52 L st h = ev d 92 56 L st h := ev_go d_92_52 (by decide)
theorem d_92_55 : decode (cd 92) 55 = .ok (.iconst 0, 1) := by rw [cd_92]; decide +kernel
theorem e_92_55 {d : Nat} {h : mM} {L : mLs} {st : List Value} : ev d 92 55 L st h = ev d 92 56 L (.int 0 :: st) h := ev_of d_92_55 rfl
theorem d_92_56 : decode (cd 92) 56 = .ok (.iadd, 1) := by rw [cd_92]; decide +kernel
theorem e_92_56 {d : Nat} {h : mM} {L : mLs} {st : List Value} {x y : Int32} : ev d 92 56 L (.int y :: .int x :: st) h = ev d 92 57 L (.int (x + y) :: st) h := ev_of d_92_56 rfl
theorem d_92_57 : decode (cd 92) 57 = .ok (.istore_n 3, 1) := by rw [cd_92]; decide +kernel
theorem e_92_57 {d : Nat} {h : mM} {o0 o1 o2 o3 : Option Value} {T : mLs} {x : Int32} {st : List Value} (hl : mLong o2 = false) : ev d 92 57 (o0 :: o1 :: o2 :: o3 :: T) (.int x :: st) h = ev d 92 58 (o0 :: o1 :: o2 :: some (.int x) :: T) st h := ev_st_in d_92_57 (by decide +kernel) (mS1_s (j := 2) hl)
theorem d_92_58 : decode (cd 92) 58 = .ok (.iinc 4 1, 3) := by rw [cd_92]; decide +kernel
theorem e_92_58 {d : Nat} {h : mM} {o0 o1 o2 o3 : Option Value} {T : mLs} {x : Int32} {st : List Value} (hl : mLong o3 = false) : ev d 92 58 (o0 :: o1 :: o2 :: o3 :: some (.int x) :: T) st h = ev d 92 61 (o0 :: o1 :: o2 :: o3 :: some (.int (x + 1)) :: T) st h := ev_inc d_92_58 (by decide +kernel) rfl rfl (mS1_s (j := 3) hl)
theorem d_92_61 : decode (cd 92) 61 = .ok (.goto (-31), 3) := by rw [cd_92]; decide +kernel
theorem e_92_61 {d : Nat} {h : mM} {L : mLs} {st : List Value} : ev d 92 61 L st h = ev d 92 30 L st h := ev_go d_92_61 (by decide)
theorem d_92_64 : decode (cd 92) 64 = .ok (.iload_n 2, 1) := by rw [cd_92]; decide +kernel
theorem e_92_64 {d : Nat} {h : mM} {o0 o1 : Option Value} {T : mLs} {x : Int32} {st : List Value} : ev d 92 64 (o0 :: o1 :: some (.int x) :: T) st h = ev d 92 65 (o0 :: o1 :: some (.int x) :: T) (.int x :: st) h := ev_of d_92_64 rfl
theorem d_92_65 : decode (cd 92) 65 = .ok (.tableswitch 82 0 4 #[35, 50, 58, 66, 74], 35) := by rw [cd_92]; decide +kernel
theorem e_92_65 {d : Nat} {h : mM} {L : mLs} {st : List Value} {x : Int32} : ev d 92 65 L (.int x :: st) h = tsF (fun t => ev d 92 t L st h) x [100, 115, 123, 131, 139] 0 (ev d 92 147 L st h) := ev_ts _ d_92_65 (by decide) (by decide) (by decide)
theorem d_92_100 : decode (cd 92) 100 = .ok (.aload_n 0, 1) := by rw [cd_92]; decide +kernel
theorem e_92_100 {d : Nat} {h : mM} {T : mLs} {x : Nat} {st : List Value} : ev d 92 100 ( some (.ref x) :: T) st h = ev d 92 101 ( some (.ref x) :: T) (.ref x :: st) h := ev_of d_92_100 rfl
theorem d_92_101 : decode (cd 92) 101 = .ok (.getfield 29, 3) := by rw [cd_92]; decide +kernel
theorem e_92_101 {d : Nat} {h : mM} {L : mLs} {st : List Value} {a : Nat} : ev d 92 101 L (.ref a :: st) h = if mK h a = 10 then oB (mR h a 8) (fun b => ev d 92 104 L (.ref b :: st) h) else none := ev_gR d_92_101 (by decide +kernel) (by decide +kernel)
theorem d_92_104 : decode (cd 92) 104 = .ok (.iload_n 1, 1) := by rw [cd_92]; decide +kernel
theorem e_92_104 {d : Nat} {h : mM} {o0 : Option Value} {T : mLs} {x : Int32} {st : List Value} : ev d 92 104 (o0 :: some (.int x) :: T) st h = ev d 92 105 (o0 :: some (.int x) :: T) (.int x :: st) h := ev_of d_92_104 rfl
theorem d_92_105 : decode (cd 92) 105 = .ok (.iaload, 1) := by rw [cd_92]; decide +kernel
theorem e_92_105 {d : Nat} {h : mM} {L : mLs} {st : List Value} {a : Nat} {i : Int32} : ev d 92 105 L (.int i :: .ref a :: st) h = if (mK h a = 11 ∨ mK h a = 19) ∧ ixOK i (mL h a) = true then ev d 92 106 L (.int (mI h a i.toNatClampNeg) :: st) h else none := ev_ia d_92_105
theorem d_92_106 : decode (cd 92) 106 = .ok (.aload_n 0, 1) := by rw [cd_92]; decide +kernel
theorem e_92_106 {d : Nat} {h : mM} {T : mLs} {x : Nat} {st : List Value} : ev d 92 106 ( some (.ref x) :: T) st h = ev d 92 107 ( some (.ref x) :: T) (.ref x :: st) h := ev_of d_92_106 rfl
theorem d_92_107 : decode (cd 92) 107 = .ok (.getfield 17, 3) := by rw [cd_92]; decide +kernel
theorem e_92_107 {d : Nat} {h : mM} {L : mLs} {st : List Value} {a : Nat} : ev d 92 107 L (.ref a :: st) h = if mK h a = 10 then oB (mR h a 4) (fun b => ev d 92 110 L (.ref b :: st) h) else none := ev_gR d_92_107 (by decide +kernel) (by decide +kernel)
theorem d_92_110 : decode (cd 92) 110 = .ok (.iload_n 1, 1) := by rw [cd_92]; decide +kernel
theorem e_92_110 {d : Nat} {h : mM} {o0 : Option Value} {T : mLs} {x : Int32} {st : List Value} : ev d 92 110 (o0 :: some (.int x) :: T) st h = ev d 92 111 (o0 :: some (.int x) :: T) (.int x :: st) h := ev_of d_92_110 rfl
theorem d_92_111 : decode (cd 92) 111 = .ok (.iaload, 1) := by rw [cd_92]; decide +kernel
theorem e_92_111 {d : Nat} {h : mM} {L : mLs} {st : List Value} {a : Nat} {i : Int32} : ev d 92 111 L (.int i :: .ref a :: st) h = if (mK h a = 11 ∨ mK h a = 19) ∧ ixOK i (mL h a) = true then ev d 92 112 L (.int (mI h a i.toNatClampNeg) :: st) h else none := ev_ia d_92_111
theorem d_92_112 : decode (cd 92) 112 = .ok (.idiv, 1) := by rw [cd_92]; decide +kernel
theorem e_92_112 {d : Nat} {h : mM} {L : mLs} {st : List Value} {x y : Int32} : ev d 92 112 L (.int y :: .int x :: st) h = if y = 0 then none else ev d 92 113 L (.int (x / y) :: st) h := ev_div d_92_112
theorem d_92_113 : decode (cd 92) 113 = .ok (.i2l, 1) := by rw [cd_92]; decide +kernel
theorem e_92_113 {d : Nat} {h : mM} {L : mLs} {st : List Value} {x : Int32} : ev d 92 113 L (.int x :: st) h = ev d 92 114 L (.long x.toInt64 :: st) h := ev_of d_92_113 rfl
theorem d_92_114 : decode (cd 92) 114 = .ok (.lreturn, 1) := by rw [cd_92]; decide +kernel
theorem e_92_114 {d : Nat} {h : mM} {L : mLs} {v : Int64} : ev d 92 114 L [.long v] h = some (some (.long v), h) := ev_rl d_92_114 (by decide +kernel)
theorem d_92_115 : decode (cd 92) 115 = .ok (.aload_n 0, 1) := by rw [cd_92]; decide +kernel
theorem e_92_115 {d : Nat} {h : mM} {T : mLs} {x : Nat} {st : List Value} : ev d 92 115 ( some (.ref x) :: T) st h = ev d 92 116 ( some (.ref x) :: T) (.ref x :: st) h := ev_of d_92_115 rfl
theorem d_92_116 : decode (cd 92) 116 = .ok (.getfield 29, 3) := by rw [cd_92]; decide +kernel
theorem e_92_116 {d : Nat} {h : mM} {L : mLs} {st : List Value} {a : Nat} : ev d 92 116 L (.ref a :: st) h = if mK h a = 10 then oB (mR h a 8) (fun b => ev d 92 119 L (.ref b :: st) h) else none := ev_gR d_92_116 (by decide +kernel) (by decide +kernel)
theorem d_92_119 : decode (cd 92) 119 = .ok (.iload_n 1, 1) := by rw [cd_92]; decide +kernel
theorem e_92_119 {d : Nat} {h : mM} {o0 : Option Value} {T : mLs} {x : Int32} {st : List Value} : ev d 92 119 (o0 :: some (.int x) :: T) st h = ev d 92 120 (o0 :: some (.int x) :: T) (.int x :: st) h := ev_of d_92_119 rfl
theorem d_92_120 : decode (cd 92) 120 = .ok (.iaload, 1) := by rw [cd_92]; decide +kernel
theorem e_92_120 {d : Nat} {h : mM} {L : mLs} {st : List Value} {a : Nat} {i : Int32} : ev d 92 120 L (.int i :: .ref a :: st) h = if (mK h a = 11 ∨ mK h a = 19) ∧ ixOK i (mL h a) = true then ev d 92 121 L (.int (mI h a i.toNatClampNeg) :: st) h else none := ev_ia d_92_120
theorem d_92_121 : decode (cd 92) 121 = .ok (.i2l, 1) := by rw [cd_92]; decide +kernel
theorem e_92_121 {d : Nat} {h : mM} {L : mLs} {st : List Value} {x : Int32} : ev d 92 121 L (.int x :: st) h = ev d 92 122 L (.long x.toInt64 :: st) h := ev_of d_92_121 rfl
theorem d_92_122 : decode (cd 92) 122 = .ok (.lreturn, 1) := by rw [cd_92]; decide +kernel
theorem e_92_122 {d : Nat} {h : mM} {L : mLs} {v : Int64} : ev d 92 122 L [.long v] h = some (some (.long v), h) := ev_rl d_92_122 (by decide +kernel)
theorem d_92_123 : decode (cd 92) 123 = .ok (.aload_n 0, 1) := by rw [cd_92]; decide +kernel
theorem e_92_123 {d : Nat} {h : mM} {T : mLs} {x : Nat} {st : List Value} : ev d 92 123 ( some (.ref x) :: T) st h = ev d 92 124 ( some (.ref x) :: T) (.ref x :: st) h := ev_of d_92_123 rfl
theorem d_92_124 : decode (cd 92) 124 = .ok (.getfield 26, 3) := by rw [cd_92]; decide +kernel
theorem e_92_124 {d : Nat} {h : mM} {L : mLs} {st : List Value} {a : Nat} : ev d 92 124 L (.ref a :: st) h = if mK h a = 10 then oB (mR h a 7) (fun b => ev d 92 127 L (.ref b :: st) h) else none := ev_gR d_92_124 (by decide +kernel) (by decide +kernel)
theorem d_92_127 : decode (cd 92) 127 = .ok (.iload_n 1, 1) := by rw [cd_92]; decide +kernel
theorem e_92_127 {d : Nat} {h : mM} {o0 : Option Value} {T : mLs} {x : Int32} {st : List Value} : ev d 92 127 (o0 :: some (.int x) :: T) st h = ev d 92 128 (o0 :: some (.int x) :: T) (.int x :: st) h := ev_of d_92_127 rfl
theorem d_92_128 : decode (cd 92) 128 = .ok (.iaload, 1) := by rw [cd_92]; decide +kernel
theorem e_92_128 {d : Nat} {h : mM} {L : mLs} {st : List Value} {a : Nat} {i : Int32} : ev d 92 128 L (.int i :: .ref a :: st) h = if (mK h a = 11 ∨ mK h a = 19) ∧ ixOK i (mL h a) = true then ev d 92 129 L (.int (mI h a i.toNatClampNeg) :: st) h else none := ev_ia d_92_128
theorem d_92_129 : decode (cd 92) 129 = .ok (.i2l, 1) := by rw [cd_92]; decide +kernel
theorem e_92_129 {d : Nat} {h : mM} {L : mLs} {st : List Value} {x : Int32} : ev d 92 129 L (.int x :: st) h = ev d 92 130 L (.long x.toInt64 :: st) h := ev_of d_92_129 rfl
theorem d_92_130 : decode (cd 92) 130 = .ok (.lreturn, 1) := by rw [cd_92]; decide +kernel
theorem e_92_130 {d : Nat} {h : mM} {L : mLs} {v : Int64} : ev d 92 130 L [.long v] h = some (some (.long v), h) := ev_rl d_92_130 (by decide +kernel)
theorem d_92_131 : decode (cd 92) 131 = .ok (.aload_n 0, 1) := by rw [cd_92]; decide +kernel
theorem e_92_131 {d : Nat} {h : mM} {T : mLs} {x : Nat} {st : List Value} : ev d 92 131 ( some (.ref x) :: T) st h = ev d 92 132 ( some (.ref x) :: T) (.ref x :: st) h := ev_of d_92_131 rfl
theorem d_92_132 : decode (cd 92) 132 = .ok (.getfield 17, 3) := by rw [cd_92]; decide +kernel
theorem e_92_132 {d : Nat} {h : mM} {L : mLs} {st : List Value} {a : Nat} : ev d 92 132 L (.ref a :: st) h = if mK h a = 10 then oB (mR h a 4) (fun b => ev d 92 135 L (.ref b :: st) h) else none := ev_gR d_92_132 (by decide +kernel) (by decide +kernel)
theorem d_92_135 : decode (cd 92) 135 = .ok (.iload_n 1, 1) := by rw [cd_92]; decide +kernel
theorem e_92_135 {d : Nat} {h : mM} {o0 : Option Value} {T : mLs} {x : Int32} {st : List Value} : ev d 92 135 (o0 :: some (.int x) :: T) st h = ev d 92 136 (o0 :: some (.int x) :: T) (.int x :: st) h := ev_of d_92_135 rfl
theorem d_92_136 : decode (cd 92) 136 = .ok (.iaload, 1) := by rw [cd_92]; decide +kernel
theorem e_92_136 {d : Nat} {h : mM} {L : mLs} {st : List Value} {a : Nat} {i : Int32} : ev d 92 136 L (.int i :: .ref a :: st) h = if (mK h a = 11 ∨ mK h a = 19) ∧ ixOK i (mL h a) = true then ev d 92 137 L (.int (mI h a i.toNatClampNeg) :: st) h else none := ev_ia d_92_136
theorem d_92_137 : decode (cd 92) 137 = .ok (.i2l, 1) := by rw [cd_92]; decide +kernel
theorem e_92_137 {d : Nat} {h : mM} {L : mLs} {st : List Value} {x : Int32} : ev d 92 137 L (.int x :: st) h = ev d 92 138 L (.long x.toInt64 :: st) h := ev_of d_92_137 rfl
theorem d_92_138 : decode (cd 92) 138 = .ok (.lreturn, 1) := by rw [cd_92]; decide +kernel
theorem e_92_138 {d : Nat} {h : mM} {L : mLs} {v : Int64} : ev d 92 138 L [.long v] h = some (some (.long v), h) := ev_rl d_92_138 (by decide +kernel)
theorem d_92_139 : decode (cd 92) 139 = .ok (.aload_n 0, 1) := by rw [cd_92]; decide +kernel
theorem e_92_139 {d : Nat} {h : mM} {T : mLs} {x : Nat} {st : List Value} : ev d 92 139 ( some (.ref x) :: T) st h = ev d 92 140 ( some (.ref x) :: T) (.ref x :: st) h := ev_of d_92_139 rfl
theorem d_92_140 : decode (cd 92) 140 = .ok (.getfield 20, 3) := by rw [cd_92]; decide +kernel
theorem e_92_140 {d : Nat} {h : mM} {L : mLs} {st : List Value} {a : Nat} : ev d 92 140 L (.ref a :: st) h = if mK h a = 10 then oB (mR h a 5) (fun b => ev d 92 143 L (.ref b :: st) h) else none := ev_gR d_92_140 (by decide +kernel) (by decide +kernel)
theorem d_92_143 : decode (cd 92) 143 = .ok (.iload_n 1, 1) := by rw [cd_92]; decide +kernel
theorem e_92_143 {d : Nat} {h : mM} {o0 : Option Value} {T : mLs} {x : Int32} {st : List Value} : ev d 92 143 (o0 :: some (.int x) :: T) st h = ev d 92 144 (o0 :: some (.int x) :: T) (.int x :: st) h := ev_of d_92_143 rfl
theorem d_92_144 : decode (cd 92) 144 = .ok (.iaload, 1) := by rw [cd_92]; decide +kernel
theorem e_92_144 {d : Nat} {h : mM} {L : mLs} {st : List Value} {a : Nat} {i : Int32} : ev d 92 144 L (.int i :: .ref a :: st) h = if (mK h a = 11 ∨ mK h a = 19) ∧ ixOK i (mL h a) = true then ev d 92 145 L (.int (mI h a i.toNatClampNeg) :: st) h else none := ev_ia d_92_144
theorem d_92_145 : decode (cd 92) 145 = .ok (.i2l, 1) := by rw [cd_92]; decide +kernel
theorem e_92_145 {d : Nat} {h : mM} {L : mLs} {st : List Value} {x : Int32} : ev d 92 145 L (.int x :: st) h = ev d 92 146 L (.long x.toInt64 :: st) h := ev_of d_92_145 rfl
theorem d_92_146 : decode (cd 92) 146 = .ok (.lreturn, 1) := by rw [cd_92]; decide +kernel
theorem e_92_146 {d : Nat} {h : mM} {L : mLs} {v : Int64} : ev d 92 146 L [.long v] h = some (some (.long v), h) := ev_rl d_92_146 (by decide +kernel)
theorem d_92_147 : decode (cd 92) 147 = .ok (.iload_n 3, 1) := by rw [cd_92]; decide +kernel
theorem e_92_147 {d : Nat} {h : mM} {o0 o1 o2 : Option Value} {T : mLs} {x : Int32} {st : List Value} : ev d 92 147 (o0 :: o1 :: o2 :: some (.int x) :: T) st h = ev d 92 148 (o0 :: o1 :: o2 :: some (.int x) :: T) (.int x :: st) h := ev_of d_92_147 rfl
theorem d_92_148 : decode (cd 92) 148 = .ok (.i2l, 1) := by rw [cd_92]; decide +kernel
theorem e_92_148 {d : Nat} {h : mM} {L : mLs} {st : List Value} {x : Int32} : ev d 92 148 L (.int x :: st) h = ev d 92 149 L (.long x.toInt64 :: st) h := ev_of d_92_148 rfl
theorem d_92_149 : decode (cd 92) 149 = .ok (.lreturn, 1) := by rw [cd_92]; decide +kernel
theorem e_92_149 {d : Nat} {h : mM} {L : mLs} {v : Int64} : ev d 92 149 L [.long v] h = some (some (.long v), h) := ev_rl d_92_149 (by decide +kernel)
-- 93: Model.mill
theorem cd_93 : cd 93 = prog_12_method_16_code := rfl
theorem d_93_0 : decode (cd 93) 0 = .ok (.iload_n 1, 1) := by rw [cd_93]; decide +kernel
theorem e_93_0 {d : Nat} {h : mM} {o0 : Option Value} {T : mLs} {x : Int32} {st : List Value} : ev d 93 0 (o0 :: some (.int x) :: T) st h = ev d 93 1 (o0 :: some (.int x) :: T) (.int x :: st) h := ev_of d_93_0 rfl
theorem d_93_1 : decode (cd 93) 1 = .ok (.iconst 0, 1) := by rw [cd_93]; decide +kernel
theorem e_93_1 {d : Nat} {h : mM} {L : mLs} {st : List Value} : ev d 93 1 L st h = ev d 93 2 L (.int 0 :: st) h := ev_of d_93_1 rfl
theorem d_93_2 : decode (cd 93) 2 = .ok (.iconst 2, 1) := by rw [cd_93]; decide +kernel
theorem e_93_2 {d : Nat} {h : mM} {L : mLs} {st : List Value} : ev d 93 2 L st h = ev d 93 3 L (.int 2 :: st) h := ev_of d_93_2 rfl
theorem d_93_3 : decode (cd 93) 3 = .ok (.invokestatic 114, 3) := by rw [cd_93]; decide +kernel
theorem e_93_3 {d : Nat} {h : mM} {L : mLs} {st : List Value} {x0 : Int32} {x1 : Int32} {x2 : Int32} (hc : mCat st ≤ 8) : ev (d + 1) 93 3 L (.int x2 :: .int x1 :: .int x0 :: st) h = cV (ev d 80 0 [some (.int x0), some (.int x1), some (.int x2)] [] h) (fun v h1 => ev (d + 1) 93 6 L (v ++ st) h1) := ev_cs (kd := 1) (mj := 80) (as := [.int x0, .int x1, .int x2]) (rest := st) d_93_3 (by decide +kernel) (by decide) rfl rfl (by show _ ≤ List.length _; simp only [List.length_cons]; have : na 80 = 3 := rfl; omega) rfl (Nat.le_of_ble_eq_true rfl) hc
theorem d_93_6 : decode (cd 93) 6 = .ok (.ifCond .eq 53, 3) := by rw [cd_93]; decide +kernel
theorem e_93_6 {d : Nat} {h : mM} {L : mLs} {st : List Value} {x : Int32} : ev d 93 6 L (.int x :: st) h = if x = 0 then ev d 93 59 L st h else ev d 93 9 L st h := ev_if (x = 0) inferInstance rfl d_93_6 (by decide)
theorem d_93_9 : decode (cd 93) 9 = .ok (.aload_n 0, 1) := by rw [cd_93]; decide +kernel
theorem e_93_9 {d : Nat} {h : mM} {T : mLs} {x : Nat} {st : List Value} : ev d 93 9 ( some (.ref x) :: T) st h = ev d 93 10 ( some (.ref x) :: T) (.ref x :: st) h := ev_of d_93_9 rfl
theorem d_93_10 : decode (cd 93) 10 = .ok (.iload_n 2, 1) := by rw [cd_93]; decide +kernel
theorem e_93_10 {d : Nat} {h : mM} {o0 o1 : Option Value} {T : mLs} {x : Int32} {st : List Value} : ev d 93 10 (o0 :: o1 :: some (.int x) :: T) st h = ev d 93 11 (o0 :: o1 :: some (.int x) :: T) (.int x :: st) h := ev_of d_93_10 rfl
theorem d_93_11 : decode (cd 93) 11 = .ok (.invokevirtual 132, 3) := by rw [cd_93]; decide +kernel
theorem e_93_11 {d : Nat} {h : mM} {L : mLs} {st : List Value} {a : Nat} {x0 : Int32} (hc : mCat st ≤ 8) : ev (d + 1) 93 11 L (.int x0 :: .ref a :: st) h = if mK h a = 10 then cV (ev d 81 0 [some (.ref a), some (.int x0)] [] h) (fun v h1 => ev (d + 1) 93 14 L (v ++ st) h1) else none := ev_cv (mj := 81) (as := [.int x0]) (rest := st) d_93_11 (by decide +kernel) rfl rfl (by show _ ≤ List.length _; simp only [List.length_cons]; have : na 81 = 1 := rfl; omega) rfl (Nat.le_of_ble_eq_true rfl) hc
theorem d_93_14 : decode (cd 93) 14 = .ok (.ifCond .eq 45, 3) := by rw [cd_93]; decide +kernel
theorem e_93_14 {d : Nat} {h : mM} {L : mLs} {st : List Value} {x : Int32} : ev d 93 14 L (.int x :: st) h = if x = 0 then ev d 93 59 L st h else ev d 93 17 L st h := ev_if (x = 0) inferInstance rfl d_93_14 (by decide)
theorem d_93_17 : decode (cd 93) 17 = .ok (.iload_n 3, 1) := by rw [cd_93]; decide +kernel
theorem e_93_17 {d : Nat} {h : mM} {o0 o1 o2 : Option Value} {T : mLs} {x : Int32} {st : List Value} : ev d 93 17 (o0 :: o1 :: o2 :: some (.int x) :: T) st h = ev d 93 18 (o0 :: o1 :: o2 :: some (.int x) :: T) (.int x :: st) h := ev_of d_93_17 rfl
theorem d_93_18 : decode (cd 93) 18 = .ok (.iconst 0, 1) := by rw [cd_93]; decide +kernel
theorem e_93_18 {d : Nat} {h : mM} {L : mLs} {st : List Value} : ev d 93 18 L st h = ev d 93 19 L (.int 0 :: st) h := ev_of d_93_18 rfl
theorem d_93_19 : decode (cd 93) 19 = .ok (.bipush 9, 2) := by rw [cd_93]; decide +kernel
theorem e_93_19 {d : Nat} {h : mM} {L : mLs} {st : List Value} : ev d 93 19 L st h = ev d 93 21 L (.int 9 :: st) h := ev_of d_93_19 rfl
theorem d_93_21 : decode (cd 93) 21 = .ok (.invokestatic 114, 3) := by rw [cd_93]; decide +kernel
theorem e_93_21 {d : Nat} {h : mM} {L : mLs} {st : List Value} {x0 : Int32} {x1 : Int32} {x2 : Int32} (hc : mCat st ≤ 8) : ev (d + 1) 93 21 L (.int x2 :: .int x1 :: .int x0 :: st) h = cV (ev d 80 0 [some (.int x0), some (.int x1), some (.int x2)] [] h) (fun v h1 => ev (d + 1) 93 24 L (v ++ st) h1) := ev_cs (kd := 1) (mj := 80) (as := [.int x0, .int x1, .int x2]) (rest := st) d_93_21 (by decide +kernel) (by decide) rfl rfl (by show _ ≤ List.length _; simp only [List.length_cons]; have : na 80 = 3 := rfl; omega) rfl (Nat.le_of_ble_eq_true rfl) hc
theorem d_93_24 : decode (cd 93) 24 = .ok (.ifCond .eq 35, 3) := by rw [cd_93]; decide +kernel
theorem e_93_24 {d : Nat} {h : mM} {L : mLs} {st : List Value} {x : Int32} : ev d 93 24 L (.int x :: st) h = if x = 0 then ev d 93 59 L st h else ev d 93 27 L st h := ev_if (x = 0) inferInstance rfl d_93_24 (by decide)
theorem d_93_27 : decode (cd 93) 27 = .ok (.iload 4, 2) := by rw [cd_93]; decide +kernel
theorem e_93_27 {d : Nat} {h : mM} {o0 o1 o2 o3 : Option Value} {T : mLs} {x : Int32} {st : List Value} : ev d 93 27 (o0 :: o1 :: o2 :: o3 :: some (.int x) :: T) st h = ev d 93 29 (o0 :: o1 :: o2 :: o3 :: some (.int x) :: T) (.int x :: st) h := ev_of d_93_27 rfl
theorem d_93_29 : decode (cd 93) 29 = .ok (.iconst 0, 1) := by rw [cd_93]; decide +kernel
theorem e_93_29 {d : Nat} {h : mM} {L : mLs} {st : List Value} : ev d 93 29 L st h = ev d 93 30 L (.int 0 :: st) h := ev_of d_93_29 rfl
theorem d_93_30 : decode (cd 93) 30 = .ok (.sipush 250, 3) := by rw [cd_93]; decide +kernel
theorem e_93_30 {d : Nat} {h : mM} {L : mLs} {st : List Value} : ev d 93 30 L st h = ev d 93 33 L (.int 250 :: st) h := ev_of d_93_30 rfl
theorem d_93_33 : decode (cd 93) 33 = .ok (.invokestatic 114, 3) := by rw [cd_93]; decide +kernel
theorem e_93_33 {d : Nat} {h : mM} {L : mLs} {st : List Value} {x0 : Int32} {x1 : Int32} {x2 : Int32} (hc : mCat st ≤ 8) : ev (d + 1) 93 33 L (.int x2 :: .int x1 :: .int x0 :: st) h = cV (ev d 80 0 [some (.int x0), some (.int x1), some (.int x2)] [] h) (fun v h1 => ev (d + 1) 93 36 L (v ++ st) h1) := ev_cs (kd := 1) (mj := 80) (as := [.int x0, .int x1, .int x2]) (rest := st) d_93_33 (by decide +kernel) (by decide) rfl rfl (by show _ ≤ List.length _; simp only [List.length_cons]; have : na 80 = 3 := rfl; omega) rfl (Nat.le_of_ble_eq_true rfl) hc
theorem d_93_36 : decode (cd 93) 36 = .ok (.ifCond .eq 23, 3) := by rw [cd_93]; decide +kernel
theorem e_93_36 {d : Nat} {h : mM} {L : mLs} {st : List Value} {x : Int32} : ev d 93 36 L (.int x :: st) h = if x = 0 then ev d 93 59 L st h else ev d 93 39 L st h := ev_if (x = 0) inferInstance rfl d_93_36 (by decide)
theorem d_93_39 : decode (cd 93) 39 = .ok (.iload 5, 2) := by rw [cd_93]; decide +kernel
theorem e_93_39 {d : Nat} {h : mM} {o0 o1 o2 o3 o4 : Option Value} {T : mLs} {x : Int32} {st : List Value} : ev d 93 39 (o0 :: o1 :: o2 :: o3 :: o4 :: some (.int x) :: T) st h = ev d 93 41 (o0 :: o1 :: o2 :: o3 :: o4 :: some (.int x) :: T) (.int x :: st) h := ev_of d_93_39 rfl
theorem d_93_41 : decode (cd 93) 41 = .ok (.iconst 0, 1) := by rw [cd_93]; decide +kernel
theorem e_93_41 {d : Nat} {h : mM} {L : mLs} {st : List Value} : ev d 93 41 L st h = ev d 93 42 L (.int 0 :: st) h := ev_of d_93_41 rfl
theorem d_93_42 : decode (cd 93) 42 = .ok (.iload_n 1, 1) := by rw [cd_93]; decide +kernel
theorem e_93_42 {d : Nat} {h : mM} {o0 : Option Value} {T : mLs} {x : Int32} {st : List Value} : ev d 93 42 (o0 :: some (.int x) :: T) st h = ev d 93 43 (o0 :: some (.int x) :: T) (.int x :: st) h := ev_of d_93_42 rfl
theorem d_93_43 : decode (cd 93) 43 = .ok (.iconst 1, 1) := by rw [cd_93]; decide +kernel
theorem e_93_43 {d : Nat} {h : mM} {L : mLs} {st : List Value} : ev d 93 43 L st h = ev d 93 44 L (.int 1 :: st) h := ev_of d_93_43 rfl
theorem d_93_44 : decode (cd 93) 44 = .ok (.if_icmp .ne 8, 3) := by rw [cd_93]; decide +kernel
theorem e_93_44 {d : Nat} {h : mM} {L : mLs} {st : List Value} {x y : Int32} : ev d 93 44 L (.int y :: .int x :: st) h = if ¬ x = y then ev d 93 52 L st h else ev d 93 47 L st h := ev_ic (¬ x = y) inferInstance rfl d_93_44 (by decide)
theorem d_93_47 : decode (cd 93) 47 = .ok (.bipush 9, 2) := by rw [cd_93]; decide +kernel
theorem e_93_47 {d : Nat} {h : mM} {L : mLs} {st : List Value} : ev d 93 47 L st h = ev d 93 49 L (.int 9 :: st) h := ev_of d_93_47 rfl
theorem d_93_49 : decode (cd 93) 49 = .ok (.goto 4, 3) := by rw [cd_93]; decide +kernel
theorem e_93_49 {d : Nat} {h : mM} {L : mLs} {st : List Value} : ev d 93 49 L st h = ev d 93 53 L st h := ev_go d_93_49 (by decide)
theorem d_93_52 : decode (cd 93) 52 = .ok (.iconst 0, 1) := by rw [cd_93]; decide +kernel
theorem e_93_52 {d : Nat} {h : mM} {L : mLs} {st : List Value} : ev d 93 52 L st h = ev d 93 53 L (.int 0 :: st) h := ev_of d_93_52 rfl
theorem d_93_53 : decode (cd 93) 53 = .ok (.invokestatic 114, 3) := by rw [cd_93]; decide +kernel
theorem e_93_53 {d : Nat} {h : mM} {L : mLs} {st : List Value} {x0 : Int32} {x1 : Int32} {x2 : Int32} (hc : mCat st ≤ 8) : ev (d + 1) 93 53 L (.int x2 :: .int x1 :: .int x0 :: st) h = cV (ev d 80 0 [some (.int x0), some (.int x1), some (.int x2)] [] h) (fun v h1 => ev (d + 1) 93 56 L (v ++ st) h1) := ev_cs (kd := 1) (mj := 80) (as := [.int x0, .int x1, .int x2]) (rest := st) d_93_53 (by decide +kernel) (by decide) rfl rfl (by show _ ≤ List.length _; simp only [List.length_cons]; have : na 80 = 3 := rfl; omega) rfl (Nat.le_of_ble_eq_true rfl) hc
theorem d_93_56 : decode (cd 93) 56 = .ok (.ifCond .ne 11, 3) := by rw [cd_93]; decide +kernel
theorem e_93_56 {d : Nat} {h : mM} {L : mLs} {st : List Value} {x : Int32} : ev d 93 56 L (.int x :: st) h = if ¬ x = 0 then ev d 93 67 L st h else ev d 93 59 L st h := ev_if (¬ x = 0) inferInstance rfl d_93_56 (by decide)
theorem d_93_59 : decode (cd 93) 59 = .ok (.aload_n 0, 1) := by rw [cd_93]; decide +kernel
theorem e_93_59 {d : Nat} {h : mM} {T : mLs} {x : Nat} {st : List Value} : ev d 93 59 ( some (.ref x) :: T) st h = ev d 93 60 ( some (.ref x) :: T) (.ref x :: st) h := ev_of d_93_59 rfl
theorem d_93_60 : decode (cd 93) 60 = .ok (.ldc2_w 121, 3) := by rw [cd_93]; decide +kernel
theorem e_93_60 {d : Nat} {h : mM} {L : mLs} {st : List Value} : ev d 93 60 L st h = ev d 93 63 L (.long (-1000000001) :: st) h := ev_of d_93_60 rfl
theorem d_93_63 : decode (cd 93) 63 = .ok (.invokevirtual 123, 3) := by rw [cd_93]; decide +kernel
theorem e_93_63 {d : Nat} {h : mM} {L : mLs} {st : List Value} {a : Nat} {x0 : Int64} (hc : mCat st ≤ 8) : ev (d + 1) 93 63 L (.long x0 :: .ref a :: st) h = if mK h a = 10 then cV (ev d 79 0 [some (.ref a), some (.long x0), none] [] h) (fun v h1 => ev (d + 1) 93 66 L (v ++ st) h1) else none := ev_cv (mj := 79) (as := [.long x0]) (rest := st) d_93_63 (by decide +kernel) rfl rfl (by show _ ≤ List.length _; simp only [List.length_cons]; have : na 79 = 1 := rfl; omega) rfl (Nat.le_of_ble_eq_true rfl) hc
theorem d_93_66 : decode (cd 93) 66 = .ok (.lreturn, 1) := by rw [cd_93]; decide +kernel
theorem e_93_66 {d : Nat} {h : mM} {L : mLs} {v : Int64} : ev d 93 66 L [.long v] h = some (some (.long v), h) := ev_rl d_93_66 (by decide +kernel)
theorem d_93_67 : decode (cd 93) 67 = .ok (.aload_n 0, 1) := by rw [cd_93]; decide +kernel
theorem e_93_67 {d : Nat} {h : mM} {T : mLs} {x : Nat} {st : List Value} : ev d 93 67 ( some (.ref x) :: T) st h = ev d 93 68 ( some (.ref x) :: T) (.ref x :: st) h := ev_of d_93_67 rfl
theorem d_93_68 : decode (cd 93) 68 = .ok (.getfield 118, 3) := by rw [cd_93]; decide +kernel
theorem e_93_68 {d : Nat} {h : mM} {L : mLs} {st : List Value} {a : Nat} : ev d 93 68 L (.ref a :: st) h = if mK h a = 10 then ev d 93 71 L (.int (mI h a 13) :: st) h else none := ev_gI d_93_68 (by decide +kernel) (by decide +kernel)
theorem d_93_71 : decode (cd 93) 71 = .ok (.iconst 4, 1) := by rw [cd_93]; decide +kernel
theorem e_93_71 {d : Nat} {h : mM} {L : mLs} {st : List Value} : ev d 93 71 L st h = ev d 93 72 L (.int 4 :: st) h := ev_of d_93_71 rfl
theorem d_93_72 : decode (cd 93) 72 = .ok (.if_icmp .ne 11, 3) := by rw [cd_93]; decide +kernel
theorem e_93_72 {d : Nat} {h : mM} {L : mLs} {st : List Value} {x y : Int32} : ev d 93 72 L (.int y :: .int x :: st) h = if ¬ x = y then ev d 93 83 L st h else ev d 93 75 L st h := ev_ic (¬ x = y) inferInstance rfl d_93_72 (by decide)
theorem d_93_75 : decode (cd 93) 75 = .ok (.aload_n 0, 1) := by rw [cd_93]; decide +kernel
theorem e_93_75 {d : Nat} {h : mM} {T : mLs} {x : Nat} {st : List Value} : ev d 93 75 ( some (.ref x) :: T) st h = ev d 93 76 ( some (.ref x) :: T) (.ref x :: st) h := ev_of d_93_75 rfl
theorem d_93_76 : decode (cd 93) 76 = .ok (.ldc2_w 130, 3) := by rw [cd_93]; decide +kernel
theorem e_93_76 {d : Nat} {h : mM} {L : mLs} {st : List Value} : ev d 93 76 L st h = ev d 93 79 L (.long (-1000000004) :: st) h := ev_of d_93_76 rfl
theorem d_93_79 : decode (cd 93) 79 = .ok (.invokevirtual 123, 3) := by rw [cd_93]; decide +kernel
theorem e_93_79 {d : Nat} {h : mM} {L : mLs} {st : List Value} {a : Nat} {x0 : Int64} (hc : mCat st ≤ 8) : ev (d + 1) 93 79 L (.long x0 :: .ref a :: st) h = if mK h a = 10 then cV (ev d 79 0 [some (.ref a), some (.long x0), none] [] h) (fun v h1 => ev (d + 1) 93 82 L (v ++ st) h1) else none := ev_cv (mj := 79) (as := [.long x0]) (rest := st) d_93_79 (by decide +kernel) rfl rfl (by show _ ≤ List.length _; simp only [List.length_cons]; have : na 79 = 1 := rfl; omega) rfl (Nat.le_of_ble_eq_true rfl) hc
theorem d_93_82 : decode (cd 93) 82 = .ok (.lreturn, 1) := by rw [cd_93]; decide +kernel
theorem e_93_82 {d : Nat} {h : mM} {L : mLs} {v : Int64} : ev d 93 82 L [.long v] h = some (some (.long v), h) := ev_rl d_93_82 (by decide +kernel)
theorem d_93_83 : decode (cd 93) 83 = .ok (.aload_n 0, 1) := by rw [cd_93]; decide +kernel
theorem e_93_83 {d : Nat} {h : mM} {T : mLs} {x : Nat} {st : List Value} : ev d 93 83 ( some (.ref x) :: T) st h = ev d 93 84 ( some (.ref x) :: T) (.ref x :: st) h := ev_of d_93_83 rfl
theorem d_93_84 : decode (cd 93) 84 = .ok (.getfield 41, 3) := by rw [cd_93]; decide +kernel
theorem e_93_84 {d : Nat} {h : mM} {L : mLs} {st : List Value} {a : Nat} : ev d 93 84 L (.ref a :: st) h = if mK h a = 10 then oB (mR h a 14) (fun b => ev d 93 87 L (.ref b :: st) h) else none := ev_gR d_93_84 (by decide +kernel) (by decide +kernel)
theorem d_93_87 : decode (cd 93) 87 = .ok (.aload_n 0, 1) := by rw [cd_93]; decide +kernel
theorem e_93_87 {d : Nat} {h : mM} {T : mLs} {x : Nat} {st : List Value} : ev d 93 87 ( some (.ref x) :: T) st h = ev d 93 88 ( some (.ref x) :: T) (.ref x :: st) h := ev_of d_93_87 rfl
theorem d_93_88 : decode (cd 93) 88 = .ok (.getfield 118, 3) := by rw [cd_93]; decide +kernel
theorem e_93_88 {d : Nat} {h : mM} {L : mLs} {st : List Value} {a : Nat} : ev d 93 88 L (.ref a :: st) h = if mK h a = 10 then ev d 93 91 L (.int (mI h a 13) :: st) h else none := ev_gI d_93_88 (by decide +kernel) (by decide +kernel)
theorem d_93_91 : decode (cd 93) 91 = .ok (.iload_n 1, 1) := by rw [cd_93]; decide +kernel
theorem e_93_91 {d : Nat} {h : mM} {o0 : Option Value} {T : mLs} {x : Int32} {st : List Value} : ev d 93 91 (o0 :: some (.int x) :: T) st h = ev d 93 92 (o0 :: some (.int x) :: T) (.int x :: st) h := ev_of d_93_91 rfl
theorem d_93_92 : decode (cd 93) 92 = .ok (.iastore, 1) := by rw [cd_93]; decide +kernel
theorem e_93_92 {d : Nat} {h : mM} {L : mLs} {st : List Value} {a : Nat} {i v : Int32} : ev d 93 92 L (.int v :: .int i :: .ref a :: st) h = if mK h a = 11 ∧ ixOK i (mL h a) = true then ev d 93 93 L st (wI h a i.toNatClampNeg v) else none := ev_is d_93_92
theorem d_93_93 : decode (cd 93) 93 = .ok (.aload_n 0, 1) := by rw [cd_93]; decide +kernel
theorem e_93_93 {d : Nat} {h : mM} {T : mLs} {x : Nat} {st : List Value} : ev d 93 93 ( some (.ref x) :: T) st h = ev d 93 94 ( some (.ref x) :: T) (.ref x :: st) h := ev_of d_93_93 rfl
theorem d_93_94 : decode (cd 93) 94 = .ok (.getfield 44, 3) := by rw [cd_93]; decide +kernel
theorem e_93_94 {d : Nat} {h : mM} {L : mLs} {st : List Value} {a : Nat} : ev d 93 94 L (.ref a :: st) h = if mK h a = 10 then oB (mR h a 15) (fun b => ev d 93 97 L (.ref b :: st) h) else none := ev_gR d_93_94 (by decide +kernel) (by decide +kernel)
theorem d_93_97 : decode (cd 93) 97 = .ok (.aload_n 0, 1) := by rw [cd_93]; decide +kernel
theorem e_93_97 {d : Nat} {h : mM} {T : mLs} {x : Nat} {st : List Value} : ev d 93 97 ( some (.ref x) :: T) st h = ev d 93 98 ( some (.ref x) :: T) (.ref x :: st) h := ev_of d_93_97 rfl
theorem d_93_98 : decode (cd 93) 98 = .ok (.getfield 118, 3) := by rw [cd_93]; decide +kernel
theorem e_93_98 {d : Nat} {h : mM} {L : mLs} {st : List Value} {a : Nat} : ev d 93 98 L (.ref a :: st) h = if mK h a = 10 then ev d 93 101 L (.int (mI h a 13) :: st) h else none := ev_gI d_93_98 (by decide +kernel) (by decide +kernel)
theorem d_93_101 : decode (cd 93) 101 = .ok (.iload_n 2, 1) := by rw [cd_93]; decide +kernel
theorem e_93_101 {d : Nat} {h : mM} {o0 o1 : Option Value} {T : mLs} {x : Int32} {st : List Value} : ev d 93 101 (o0 :: o1 :: some (.int x) :: T) st h = ev d 93 102 (o0 :: o1 :: some (.int x) :: T) (.int x :: st) h := ev_of d_93_101 rfl
theorem d_93_102 : decode (cd 93) 102 = .ok (.iastore, 1) := by rw [cd_93]; decide +kernel
theorem e_93_102 {d : Nat} {h : mM} {L : mLs} {st : List Value} {a : Nat} {i v : Int32} : ev d 93 102 L (.int v :: .int i :: .ref a :: st) h = if mK h a = 11 ∧ ixOK i (mL h a) = true then ev d 93 103 L st (wI h a i.toNatClampNeg v) else none := ev_is d_93_102
theorem d_93_103 : decode (cd 93) 103 = .ok (.aload_n 0, 1) := by rw [cd_93]; decide +kernel
theorem e_93_103 {d : Nat} {h : mM} {T : mLs} {x : Nat} {st : List Value} : ev d 93 103 ( some (.ref x) :: T) st h = ev d 93 104 ( some (.ref x) :: T) (.ref x :: st) h := ev_of d_93_103 rfl
theorem d_93_104 : decode (cd 93) 104 = .ok (.getfield 47, 3) := by rw [cd_93]; decide +kernel
theorem e_93_104 {d : Nat} {h : mM} {L : mLs} {st : List Value} {a : Nat} : ev d 93 104 L (.ref a :: st) h = if mK h a = 10 then oB (mR h a 16) (fun b => ev d 93 107 L (.ref b :: st) h) else none := ev_gR d_93_104 (by decide +kernel) (by decide +kernel)
theorem d_93_107 : decode (cd 93) 107 = .ok (.aload_n 0, 1) := by rw [cd_93]; decide +kernel
theorem e_93_107 {d : Nat} {h : mM} {T : mLs} {x : Nat} {st : List Value} : ev d 93 107 ( some (.ref x) :: T) st h = ev d 93 108 ( some (.ref x) :: T) (.ref x :: st) h := ev_of d_93_107 rfl
theorem d_93_108 : decode (cd 93) 108 = .ok (.getfield 118, 3) := by rw [cd_93]; decide +kernel
theorem e_93_108 {d : Nat} {h : mM} {L : mLs} {st : List Value} {a : Nat} : ev d 93 108 L (.ref a :: st) h = if mK h a = 10 then ev d 93 111 L (.int (mI h a 13) :: st) h else none := ev_gI d_93_108 (by decide +kernel) (by decide +kernel)
theorem d_93_111 : decode (cd 93) 111 = .ok (.iload_n 3, 1) := by rw [cd_93]; decide +kernel
theorem e_93_111 {d : Nat} {h : mM} {o0 o1 o2 : Option Value} {T : mLs} {x : Int32} {st : List Value} : ev d 93 111 (o0 :: o1 :: o2 :: some (.int x) :: T) st h = ev d 93 112 (o0 :: o1 :: o2 :: some (.int x) :: T) (.int x :: st) h := ev_of d_93_111 rfl
theorem d_93_112 : decode (cd 93) 112 = .ok (.iastore, 1) := by rw [cd_93]; decide +kernel
theorem e_93_112 {d : Nat} {h : mM} {L : mLs} {st : List Value} {a : Nat} {i v : Int32} : ev d 93 112 L (.int v :: .int i :: .ref a :: st) h = if mK h a = 11 ∧ ixOK i (mL h a) = true then ev d 93 113 L st (wI h a i.toNatClampNeg v) else none := ev_is d_93_112
theorem d_93_113 : decode (cd 93) 113 = .ok (.aload_n 0, 1) := by rw [cd_93]; decide +kernel
theorem e_93_113 {d : Nat} {h : mM} {T : mLs} {x : Nat} {st : List Value} : ev d 93 113 ( some (.ref x) :: T) st h = ev d 93 114 ( some (.ref x) :: T) (.ref x :: st) h := ev_of d_93_113 rfl
theorem d_93_114 : decode (cd 93) 114 = .ok (.getfield 50, 3) := by rw [cd_93]; decide +kernel
theorem e_93_114 {d : Nat} {h : mM} {L : mLs} {st : List Value} {a : Nat} : ev d 93 114 L (.ref a :: st) h = if mK h a = 10 then oB (mR h a 17) (fun b => ev d 93 117 L (.ref b :: st) h) else none := ev_gR d_93_114 (by decide +kernel) (by decide +kernel)
theorem d_93_117 : decode (cd 93) 117 = .ok (.aload_n 0, 1) := by rw [cd_93]; decide +kernel
theorem e_93_117 {d : Nat} {h : mM} {T : mLs} {x : Nat} {st : List Value} : ev d 93 117 ( some (.ref x) :: T) st h = ev d 93 118 ( some (.ref x) :: T) (.ref x :: st) h := ev_of d_93_117 rfl
theorem d_93_118 : decode (cd 93) 118 = .ok (.getfield 118, 3) := by rw [cd_93]; decide +kernel
theorem e_93_118 {d : Nat} {h : mM} {L : mLs} {st : List Value} {a : Nat} : ev d 93 118 L (.ref a :: st) h = if mK h a = 10 then ev d 93 121 L (.int (mI h a 13) :: st) h else none := ev_gI d_93_118 (by decide +kernel) (by decide +kernel)
theorem d_93_121 : decode (cd 93) 121 = .ok (.iload 4, 2) := by rw [cd_93]; decide +kernel
theorem e_93_121 {d : Nat} {h : mM} {o0 o1 o2 o3 : Option Value} {T : mLs} {x : Int32} {st : List Value} : ev d 93 121 (o0 :: o1 :: o2 :: o3 :: some (.int x) :: T) st h = ev d 93 123 (o0 :: o1 :: o2 :: o3 :: some (.int x) :: T) (.int x :: st) h := ev_of d_93_121 rfl
theorem d_93_123 : decode (cd 93) 123 = .ok (.iastore, 1) := by rw [cd_93]; decide +kernel
theorem e_93_123 {d : Nat} {h : mM} {L : mLs} {st : List Value} {a : Nat} {i v : Int32} : ev d 93 123 L (.int v :: .int i :: .ref a :: st) h = if mK h a = 11 ∧ ixOK i (mL h a) = true then ev d 93 124 L st (wI h a i.toNatClampNeg v) else none := ev_is d_93_123
theorem d_93_124 : decode (cd 93) 124 = .ok (.aload_n 0, 1) := by rw [cd_93]; decide +kernel
theorem e_93_124 {d : Nat} {h : mM} {T : mLs} {x : Nat} {st : List Value} : ev d 93 124 ( some (.ref x) :: T) st h = ev d 93 125 ( some (.ref x) :: T) (.ref x :: st) h := ev_of d_93_124 rfl
theorem d_93_125 : decode (cd 93) 125 = .ok (.getfield 53, 3) := by rw [cd_93]; decide +kernel
theorem e_93_125 {d : Nat} {h : mM} {L : mLs} {st : List Value} {a : Nat} : ev d 93 125 L (.ref a :: st) h = if mK h a = 10 then oB (mR h a 18) (fun b => ev d 93 128 L (.ref b :: st) h) else none := ev_gR d_93_125 (by decide +kernel) (by decide +kernel)
theorem d_93_128 : decode (cd 93) 128 = .ok (.aload_n 0, 1) := by rw [cd_93]; decide +kernel
theorem e_93_128 {d : Nat} {h : mM} {T : mLs} {x : Nat} {st : List Value} : ev d 93 128 ( some (.ref x) :: T) st h = ev d 93 129 ( some (.ref x) :: T) (.ref x :: st) h := ev_of d_93_128 rfl
theorem d_93_129 : decode (cd 93) 129 = .ok (.getfield 118, 3) := by rw [cd_93]; decide +kernel
theorem e_93_129 {d : Nat} {h : mM} {L : mLs} {st : List Value} {a : Nat} : ev d 93 129 L (.ref a :: st) h = if mK h a = 10 then ev d 93 132 L (.int (mI h a 13) :: st) h else none := ev_gI d_93_129 (by decide +kernel) (by decide +kernel)
theorem d_93_132 : decode (cd 93) 132 = .ok (.iload 5, 2) := by rw [cd_93]; decide +kernel
theorem e_93_132 {d : Nat} {h : mM} {o0 o1 o2 o3 o4 : Option Value} {T : mLs} {x : Int32} {st : List Value} : ev d 93 132 (o0 :: o1 :: o2 :: o3 :: o4 :: some (.int x) :: T) st h = ev d 93 134 (o0 :: o1 :: o2 :: o3 :: o4 :: some (.int x) :: T) (.int x :: st) h := ev_of d_93_132 rfl
theorem d_93_134 : decode (cd 93) 134 = .ok (.iastore, 1) := by rw [cd_93]; decide +kernel
theorem e_93_134 {d : Nat} {h : mM} {L : mLs} {st : List Value} {a : Nat} {i v : Int32} : ev d 93 134 L (.int v :: .int i :: .ref a :: st) h = if mK h a = 11 ∧ ixOK i (mL h a) = true then ev d 93 135 L st (wI h a i.toNatClampNeg v) else none := ev_is d_93_134
theorem d_93_135 : decode (cd 93) 135 = .ok (.aload_n 0, 1) := by rw [cd_93]; decide +kernel
theorem e_93_135 {d : Nat} {h : mM} {T : mLs} {x : Nat} {st : List Value} : ev d 93 135 ( some (.ref x) :: T) st h = ev d 93 136 ( some (.ref x) :: T) (.ref x :: st) h := ev_of d_93_135 rfl
theorem d_93_136 : decode (cd 93) 136 = .ok (.dup, 1) := by rw [cd_93]; decide +kernel
theorem e_93_136r {d : Nat} {h : mM} {L : mLs} {st : List Value} {a : Nat} : ev d 93 136 L (.ref a :: st) h = ev d 93 137 L (.ref a :: .ref a :: st) h := ev_of d_93_136 rfl
theorem e_93_136i {d : Nat} {h : mM} {L : mLs} {st : List Value} {x : Int32} : ev d 93 136 L (.int x :: st) h = ev d 93 137 L (.int x :: .int x :: st) h := ev_of d_93_136 rfl
theorem d_93_137 : decode (cd 93) 137 = .ok (.getfield 118, 3) := by rw [cd_93]; decide +kernel
theorem e_93_137 {d : Nat} {h : mM} {L : mLs} {st : List Value} {a : Nat} : ev d 93 137 L (.ref a :: st) h = if mK h a = 10 then ev d 93 140 L (.int (mI h a 13) :: st) h else none := ev_gI d_93_137 (by decide +kernel) (by decide +kernel)
theorem d_93_140 : decode (cd 93) 140 = .ok (.iconst 1, 1) := by rw [cd_93]; decide +kernel
theorem e_93_140 {d : Nat} {h : mM} {L : mLs} {st : List Value} : ev d 93 140 L st h = ev d 93 141 L (.int 1 :: st) h := ev_of d_93_140 rfl
theorem d_93_141 : decode (cd 93) 141 = .ok (.iadd, 1) := by rw [cd_93]; decide +kernel
theorem e_93_141 {d : Nat} {h : mM} {L : mLs} {st : List Value} {x y : Int32} : ev d 93 141 L (.int y :: .int x :: st) h = ev d 93 142 L (.int (x + y) :: st) h := ev_of d_93_141 rfl
theorem d_93_142 : decode (cd 93) 142 = .ok (.putfield 118, 3) := by rw [cd_93]; decide +kernel
theorem e_93_142 {d : Nat} {h : mM} {L : mLs} {st : List Value} {a : Nat} {v : Int32} : ev d 93 142 L (.int v :: .ref a :: st) h = if mK h a = 10 then ev d 93 145 L st (wI h a 13 v) else none := ev_pI d_93_142 (by decide +kernel) (by decide +kernel) (by decide +kernel)
theorem d_93_145 : decode (cd 93) 145 = .ok (.aload_n 0, 1) := by rw [cd_93]; decide +kernel
theorem e_93_145 {d : Nat} {h : mM} {T : mLs} {x : Nat} {st : List Value} : ev d 93 145 ( some (.ref x) :: T) st h = ev d 93 146 ( some (.ref x) :: T) (.ref x :: st) h := ev_of d_93_145 rfl
theorem d_93_146 : decode (cd 93) 146 = .ok (.getfield 118, 3) := by rw [cd_93]; decide +kernel
theorem e_93_146 {d : Nat} {h : mM} {L : mLs} {st : List Value} {a : Nat} : ev d 93 146 L (.ref a :: st) h = if mK h a = 10 then ev d 93 149 L (.int (mI h a 13) :: st) h else none := ev_gI d_93_146 (by decide +kernel) (by decide +kernel)
theorem d_93_149 : decode (cd 93) 149 = .ok (.iconst 1, 1) := by rw [cd_93]; decide +kernel
theorem e_93_149 {d : Nat} {h : mM} {L : mLs} {st : List Value} : ev d 93 149 L st h = ev d 93 150 L (.int 1 :: st) h := ev_of d_93_149 rfl
theorem d_93_150 : decode (cd 93) 150 = .ok (.isub, 1) := by rw [cd_93]; decide +kernel
theorem e_93_150 {d : Nat} {h : mM} {L : mLs} {st : List Value} {x y : Int32} : ev d 93 150 L (.int y :: .int x :: st) h = ev d 93 151 L (.int (x - y) :: st) h := ev_of d_93_150 rfl
theorem d_93_151 : decode (cd 93) 151 = .ok (.i2l, 1) := by rw [cd_93]; decide +kernel
theorem e_93_151 {d : Nat} {h : mM} {L : mLs} {st : List Value} {x : Int32} : ev d 93 151 L (.int x :: st) h = ev d 93 152 L (.long x.toInt64 :: st) h := ev_of d_93_151 rfl
theorem d_93_152 : decode (cd 93) 152 = .ok (.lreturn, 1) := by rw [cd_93]; decide +kernel
theorem e_93_152 {d : Nat} {h : mM} {L : mLs} {v : Int64} : ev d 93 152 L [.long v] h = some (some (.long v), h) := ev_rl d_93_152 (by decide +kernel)
-- 94: Model.as
theorem cd_94 : cd 94 = prog_12_method_17_code := rfl
theorem d_94_0 : decode (cd 94) 0 = .ok (.aload_n 0, 1) := by rw [cd_94]; decide +kernel
theorem e_94_0 {d : Nat} {h : mM} {T : mLs} {x : Nat} {st : List Value} : ev d 94 0 ( some (.ref x) :: T) st h = ev d 94 1 ( some (.ref x) :: T) (.ref x :: st) h := ev_of d_94_0 rfl
theorem d_94_1 : decode (cd 94) 1 = .ok (.iload_n 1, 1) := by rw [cd_94]; decide +kernel
theorem e_94_1 {d : Nat} {h : mM} {o0 : Option Value} {T : mLs} {x : Int32} {st : List Value} : ev d 94 1 (o0 :: some (.int x) :: T) st h = ev d 94 2 (o0 :: some (.int x) :: T) (.int x :: st) h := ev_of d_94_1 rfl
theorem d_94_2 : decode (cd 94) 2 = .ok (.invokevirtual 139, 3) := by rw [cd_94]; decide +kernel
theorem e_94_2 {d : Nat} {h : mM} {L : mLs} {st : List Value} {a : Nat} {x0 : Int32} (hc : mCat st ≤ 8) : ev (d + 1) 94 2 L (.int x0 :: .ref a :: st) h = if mK h a = 10 then cV (ev d 82 0 [some (.ref a), some (.int x0)] [] h) (fun v h1 => ev (d + 1) 94 5 L (v ++ st) h1) else none := ev_cv (mj := 82) (as := [.int x0]) (rest := st) d_94_2 (by decide +kernel) rfl rfl (by show _ ≤ List.length _; simp only [List.length_cons]; have : na 82 = 1 := rfl; omega) rfl (Nat.le_of_ble_eq_true rfl) hc
theorem d_94_5 : decode (cd 94) 5 = .ok (.ifCond .eq 12, 3) := by rw [cd_94]; decide +kernel
theorem e_94_5 {d : Nat} {h : mM} {L : mLs} {st : List Value} {x : Int32} : ev d 94 5 L (.int x :: st) h = if x = 0 then ev d 94 17 L st h else ev d 94 8 L st h := ev_if (x = 0) inferInstance rfl d_94_5 (by decide)
theorem d_94_8 : decode (cd 94) 8 = .ok (.iload_n 2, 1) := by rw [cd_94]; decide +kernel
theorem e_94_8 {d : Nat} {h : mM} {o0 o1 : Option Value} {T : mLs} {x : Int32} {st : List Value} : ev d 94 8 (o0 :: o1 :: some (.int x) :: T) st h = ev d 94 9 (o0 :: o1 :: some (.int x) :: T) (.int x :: st) h := ev_of d_94_8 rfl
theorem d_94_9 : decode (cd 94) 9 = .ok (.iconst 0, 1) := by rw [cd_94]; decide +kernel
theorem e_94_9 {d : Nat} {h : mM} {L : mLs} {st : List Value} : ev d 94 9 L st h = ev d 94 10 L (.int 0 :: st) h := ev_of d_94_9 rfl
theorem d_94_10 : decode (cd 94) 10 = .ok (.iconst 2, 1) := by rw [cd_94]; decide +kernel
theorem e_94_10 {d : Nat} {h : mM} {L : mLs} {st : List Value} : ev d 94 10 L st h = ev d 94 11 L (.int 2 :: st) h := ev_of d_94_10 rfl
theorem d_94_11 : decode (cd 94) 11 = .ok (.invokestatic 114, 3) := by rw [cd_94]; decide +kernel
theorem e_94_11 {d : Nat} {h : mM} {L : mLs} {st : List Value} {x0 : Int32} {x1 : Int32} {x2 : Int32} (hc : mCat st ≤ 8) : ev (d + 1) 94 11 L (.int x2 :: .int x1 :: .int x0 :: st) h = cV (ev d 80 0 [some (.int x0), some (.int x1), some (.int x2)] [] h) (fun v h1 => ev (d + 1) 94 14 L (v ++ st) h1) := ev_cs (kd := 1) (mj := 80) (as := [.int x0, .int x1, .int x2]) (rest := st) d_94_11 (by decide +kernel) (by decide) rfl rfl (by show _ ≤ List.length _; simp only [List.length_cons]; have : na 80 = 3 := rfl; omega) rfl (Nat.le_of_ble_eq_true rfl) hc
theorem d_94_14 : decode (cd 94) 14 = .ok (.ifCond .ne 11, 3) := by rw [cd_94]; decide +kernel
theorem e_94_14 {d : Nat} {h : mM} {L : mLs} {st : List Value} {x : Int32} : ev d 94 14 L (.int x :: st) h = if ¬ x = 0 then ev d 94 25 L st h else ev d 94 17 L st h := ev_if (¬ x = 0) inferInstance rfl d_94_14 (by decide)
theorem d_94_17 : decode (cd 94) 17 = .ok (.aload_n 0, 1) := by rw [cd_94]; decide +kernel
theorem e_94_17 {d : Nat} {h : mM} {T : mLs} {x : Nat} {st : List Value} : ev d 94 17 ( some (.ref x) :: T) st h = ev d 94 18 ( some (.ref x) :: T) (.ref x :: st) h := ev_of d_94_17 rfl
theorem d_94_18 : decode (cd 94) 18 = .ok (.ldc2_w 121, 3) := by rw [cd_94]; decide +kernel
theorem e_94_18 {d : Nat} {h : mM} {L : mLs} {st : List Value} : ev d 94 18 L st h = ev d 94 21 L (.long (-1000000001) :: st) h := ev_of d_94_18 rfl
theorem d_94_21 : decode (cd 94) 21 = .ok (.invokevirtual 123, 3) := by rw [cd_94]; decide +kernel
theorem e_94_21 {d : Nat} {h : mM} {L : mLs} {st : List Value} {a : Nat} {x0 : Int64} (hc : mCat st ≤ 8) : ev (d + 1) 94 21 L (.long x0 :: .ref a :: st) h = if mK h a = 10 then cV (ev d 79 0 [some (.ref a), some (.long x0), none] [] h) (fun v h1 => ev (d + 1) 94 24 L (v ++ st) h1) else none := ev_cv (mj := 79) (as := [.long x0]) (rest := st) d_94_21 (by decide +kernel) rfl rfl (by show _ ≤ List.length _; simp only [List.length_cons]; have : na 79 = 1 := rfl; omega) rfl (Nat.le_of_ble_eq_true rfl) hc
theorem d_94_24 : decode (cd 94) 24 = .ok (.lreturn, 1) := by rw [cd_94]; decide +kernel
theorem e_94_24 {d : Nat} {h : mM} {L : mLs} {v : Int64} : ev d 94 24 L [.long v] h = some (some (.long v), h) := ev_rl d_94_24 (by decide +kernel)
theorem d_94_25 : decode (cd 94) 25 = .ok (.iload_n 2, 1) := by rw [cd_94]; decide +kernel
theorem e_94_25 {d : Nat} {h : mM} {o0 o1 : Option Value} {T : mLs} {x : Int32} {st : List Value} : ev d 94 25 (o0 :: o1 :: some (.int x) :: T) st h = ev d 94 26 (o0 :: o1 :: some (.int x) :: T) (.int x :: st) h := ev_of d_94_25 rfl
theorem d_94_26 : decode (cd 94) 26 = .ok (.ifCond .eq 13, 3) := by rw [cd_94]; decide +kernel
theorem e_94_26 {d : Nat} {h : mM} {L : mLs} {st : List Value} {x : Int32} : ev d 94 26 L (.int x :: st) h = if x = 0 then ev d 94 39 L st h else ev d 94 29 L st h := ev_if (x = 0) inferInstance rfl d_94_26 (by decide)
theorem d_94_29 : decode (cd 94) 29 = .ok (.aload_n 0, 1) := by rw [cd_94]; decide +kernel
theorem e_94_29 {d : Nat} {h : mM} {T : mLs} {x : Nat} {st : List Value} : ev d 94 29 ( some (.ref x) :: T) st h = ev d 94 30 ( some (.ref x) :: T) (.ref x :: st) h := ev_of d_94_29 rfl
theorem d_94_30 : decode (cd 94) 30 = .ok (.getfield 41, 3) := by rw [cd_94]; decide +kernel
theorem e_94_30 {d : Nat} {h : mM} {L : mLs} {st : List Value} {a : Nat} : ev d 94 30 L (.ref a :: st) h = if mK h a = 10 then oB (mR h a 14) (fun b => ev d 94 33 L (.ref b :: st) h) else none := ev_gR d_94_30 (by decide +kernel) (by decide +kernel)
theorem d_94_33 : decode (cd 94) 33 = .ok (.iload_n 1, 1) := by rw [cd_94]; decide +kernel
theorem e_94_33 {d : Nat} {h : mM} {o0 : Option Value} {T : mLs} {x : Int32} {st : List Value} : ev d 94 33 (o0 :: some (.int x) :: T) st h = ev d 94 34 (o0 :: some (.int x) :: T) (.int x :: st) h := ev_of d_94_33 rfl
theorem d_94_34 : decode (cd 94) 34 = .ok (.iaload, 1) := by rw [cd_94]; decide +kernel
theorem e_94_34 {d : Nat} {h : mM} {L : mLs} {st : List Value} {a : Nat} {i : Int32} : ev d 94 34 L (.int i :: .ref a :: st) h = if (mK h a = 11 ∨ mK h a = 19) ∧ ixOK i (mL h a) = true then ev d 94 35 L (.int (mI h a i.toNatClampNeg) :: st) h else none := ev_ia d_94_34
theorem d_94_35 : decode (cd 94) 35 = .ok (.iload_n 2, 1) := by rw [cd_94]; decide +kernel
theorem e_94_35 {d : Nat} {h : mM} {o0 o1 : Option Value} {T : mLs} {x : Int32} {st : List Value} : ev d 94 35 (o0 :: o1 :: some (.int x) :: T) st h = ev d 94 36 (o0 :: o1 :: some (.int x) :: T) (.int x :: st) h := ev_of d_94_35 rfl
theorem d_94_36 : decode (cd 94) 36 = .ok (.if_icmp .ne 13, 3) := by rw [cd_94]; decide +kernel
theorem e_94_36 {d : Nat} {h : mM} {L : mLs} {st : List Value} {x y : Int32} : ev d 94 36 L (.int y :: .int x :: st) h = if ¬ x = y then ev d 94 49 L st h else ev d 94 39 L st h := ev_ic (¬ x = y) inferInstance rfl d_94_36 (by decide)
theorem d_94_39 : decode (cd 94) 39 = .ok (.aload_n 0, 1) := by rw [cd_94]; decide +kernel
theorem e_94_39 {d : Nat} {h : mM} {T : mLs} {x : Nat} {st : List Value} : ev d 94 39 ( some (.ref x) :: T) st h = ev d 94 40 ( some (.ref x) :: T) (.ref x :: st) h := ev_of d_94_39 rfl
theorem d_94_40 : decode (cd 94) 40 = .ok (.getfield 47, 3) := by rw [cd_94]; decide +kernel
theorem e_94_40 {d : Nat} {h : mM} {L : mLs} {st : List Value} {a : Nat} : ev d 94 40 L (.ref a :: st) h = if mK h a = 10 then oB (mR h a 16) (fun b => ev d 94 43 L (.ref b :: st) h) else none := ev_gR d_94_40 (by decide +kernel) (by decide +kernel)
theorem d_94_43 : decode (cd 94) 43 = .ok (.iload_n 1, 1) := by rw [cd_94]; decide +kernel
theorem e_94_43 {d : Nat} {h : mM} {o0 : Option Value} {T : mLs} {x : Int32} {st : List Value} : ev d 94 43 (o0 :: some (.int x) :: T) st h = ev d 94 44 (o0 :: some (.int x) :: T) (.int x :: st) h := ev_of d_94_43 rfl
theorem d_94_44 : decode (cd 94) 44 = .ok (.iaload, 1) := by rw [cd_94]; decide +kernel
theorem e_94_44 {d : Nat} {h : mM} {L : mLs} {st : List Value} {a : Nat} {i : Int32} : ev d 94 44 L (.int i :: .ref a :: st) h = if (mK h a = 11 ∨ mK h a = 19) ∧ ixOK i (mL h a) = true then ev d 94 45 L (.int (mI h a i.toNatClampNeg) :: st) h else none := ev_ia d_94_44
theorem d_94_45 : decode (cd 94) 45 = .ok (.i2l, 1) := by rw [cd_94]; decide +kernel
theorem e_94_45 {d : Nat} {h : mM} {L : mLs} {st : List Value} {x : Int32} : ev d 94 45 L (.int x :: st) h = ev d 94 46 L (.long x.toInt64 :: st) h := ev_of d_94_45 rfl
theorem d_94_46 : decode (cd 94) 46 = .ok (.goto 10, 3) := by rw [cd_94]; decide +kernel
theorem e_94_46 {d : Nat} {h : mM} {L : mLs} {st : List Value} : ev d 94 46 L st h = ev d 94 56 L st h := ev_go d_94_46 (by decide)
theorem d_94_49 : decode (cd 94) 49 = .ok (.aload_n 0, 1) := by rw [cd_94]; decide +kernel
theorem e_94_49 {d : Nat} {h : mM} {T : mLs} {x : Nat} {st : List Value} : ev d 94 49 ( some (.ref x) :: T) st h = ev d 94 50 ( some (.ref x) :: T) (.ref x :: st) h := ev_of d_94_49 rfl
theorem d_94_50 : decode (cd 94) 50 = .ok (.ldc2_w 142, 3) := by rw [cd_94]; decide +kernel
theorem e_94_50 {d : Nat} {h : mM} {L : mLs} {st : List Value} : ev d 94 50 L st h = ev d 94 53 L (.long (-1000000005) :: st) h := ev_of d_94_50 rfl
theorem d_94_53 : decode (cd 94) 53 = .ok (.invokevirtual 123, 3) := by rw [cd_94]; decide +kernel
theorem e_94_53 {d : Nat} {h : mM} {L : mLs} {st : List Value} {a : Nat} {x0 : Int64} (hc : mCat st ≤ 8) : ev (d + 1) 94 53 L (.long x0 :: .ref a :: st) h = if mK h a = 10 then cV (ev d 79 0 [some (.ref a), some (.long x0), none] [] h) (fun v h1 => ev (d + 1) 94 56 L (v ++ st) h1) else none := ev_cv (mj := 79) (as := [.long x0]) (rest := st) d_94_53 (by decide +kernel) rfl rfl (by show _ ≤ List.length _; simp only [List.length_cons]; have : na 79 = 1 := rfl; omega) rfl (Nat.le_of_ble_eq_true rfl) hc
theorem d_94_56 : decode (cd 94) 56 = .ok (.lreturn, 1) := by rw [cd_94]; decide +kernel
theorem e_94_56 {d : Nat} {h : mM} {L : mLs} {v : Int64} : ev d 94 56 L [.long v] h = some (some (.long v), h) := ev_rl d_94_56 (by decide +kernel)
-- 95: Model.stone
theorem cd_95 : cd 95 = prog_12_method_18_code := rfl
theorem d_95_0 : decode (cd 95) 0 = .ok (.aload_n 0, 1) := by rw [cd_95]; decide +kernel
theorem e_95_0 {d : Nat} {h : mM} {T : mLs} {x : Nat} {st : List Value} : ev d 95 0 ( some (.ref x) :: T) st h = ev d 95 1 ( some (.ref x) :: T) (.ref x :: st) h := ev_of d_95_0 rfl
theorem d_95_1 : decode (cd 95) 1 = .ok (.iload_n 1, 1) := by rw [cd_95]; decide +kernel
theorem e_95_1 {d : Nat} {h : mM} {o0 : Option Value} {T : mLs} {x : Int32} {st : List Value} : ev d 95 1 (o0 :: some (.int x) :: T) st h = ev d 95 2 (o0 :: some (.int x) :: T) (.int x :: st) h := ev_of d_95_1 rfl
theorem d_95_2 : decode (cd 95) 2 = .ok (.invokevirtual 139, 3) := by rw [cd_95]; decide +kernel
theorem e_95_2 {d : Nat} {h : mM} {L : mLs} {st : List Value} {a : Nat} {x0 : Int32} (hc : mCat st ≤ 8) : ev (d + 1) 95 2 L (.int x0 :: .ref a :: st) h = if mK h a = 10 then cV (ev d 82 0 [some (.ref a), some (.int x0)] [] h) (fun v h1 => ev (d + 1) 95 5 L (v ++ st) h1) else none := ev_cv (mj := 82) (as := [.int x0]) (rest := st) d_95_2 (by decide +kernel) rfl rfl (by show _ ≤ List.length _; simp only [List.length_cons]; have : na 82 = 1 := rfl; omega) rfl (Nat.le_of_ble_eq_true rfl) hc
theorem d_95_5 : decode (cd 95) 5 = .ok (.ifCond .eq 48, 3) := by rw [cd_95]; decide +kernel
theorem e_95_5 {d : Nat} {h : mM} {L : mLs} {st : List Value} {x : Int32} : ev d 95 5 L (.int x :: st) h = if x = 0 then ev d 95 53 L st h else ev d 95 8 L st h := ev_if (x = 0) inferInstance rfl d_95_5 (by decide)
theorem d_95_8 : decode (cd 95) 8 = .ok (.iload_n 2, 1) := by rw [cd_95]; decide +kernel
theorem e_95_8 {d : Nat} {h : mM} {o0 o1 : Option Value} {T : mLs} {x : Int32} {st : List Value} : ev d 95 8 (o0 :: o1 :: some (.int x) :: T) st h = ev d 95 9 (o0 :: o1 :: some (.int x) :: T) (.int x :: st) h := ev_of d_95_8 rfl
theorem d_95_9 : decode (cd 95) 9 = .ok (.iconst 1, 1) := by rw [cd_95]; decide +kernel
theorem e_95_9 {d : Nat} {h : mM} {L : mLs} {st : List Value} : ev d 95 9 L st h = ev d 95 10 L (.int 1 :: st) h := ev_of d_95_9 rfl
theorem d_95_10 : decode (cd 95) 10 = .ok (.sipush 200, 3) := by rw [cd_95]; decide +kernel
theorem e_95_10 {d : Nat} {h : mM} {L : mLs} {st : List Value} : ev d 95 10 L st h = ev d 95 13 L (.int 200 :: st) h := ev_of d_95_10 rfl
theorem d_95_13 : decode (cd 95) 13 = .ok (.invokestatic 114, 3) := by rw [cd_95]; decide +kernel
theorem e_95_13 {d : Nat} {h : mM} {L : mLs} {st : List Value} {x0 : Int32} {x1 : Int32} {x2 : Int32} (hc : mCat st ≤ 8) : ev (d + 1) 95 13 L (.int x2 :: .int x1 :: .int x0 :: st) h = cV (ev d 80 0 [some (.int x0), some (.int x1), some (.int x2)] [] h) (fun v h1 => ev (d + 1) 95 16 L (v ++ st) h1) := ev_cs (kd := 1) (mj := 80) (as := [.int x0, .int x1, .int x2]) (rest := st) d_95_13 (by decide +kernel) (by decide) rfl rfl (by show _ ≤ List.length _; simp only [List.length_cons]; have : na 80 = 3 := rfl; omega) rfl (Nat.le_of_ble_eq_true rfl) hc
theorem d_95_16 : decode (cd 95) 16 = .ok (.ifCond .eq 37, 3) := by rw [cd_95]; decide +kernel
theorem e_95_16 {d : Nat} {h : mM} {L : mLs} {st : List Value} {x : Int32} : ev d 95 16 L (.int x :: st) h = if x = 0 then ev d 95 53 L st h else ev d 95 19 L st h := ev_if (x = 0) inferInstance rfl d_95_16 (by decide)
theorem d_95_19 : decode (cd 95) 19 = .ok (.iload_n 3, 1) := by rw [cd_95]; decide +kernel
theorem e_95_19 {d : Nat} {h : mM} {o0 o1 o2 : Option Value} {T : mLs} {x : Int32} {st : List Value} : ev d 95 19 (o0 :: o1 :: o2 :: some (.int x) :: T) st h = ev d 95 20 (o0 :: o1 :: o2 :: some (.int x) :: T) (.int x :: st) h := ev_of d_95_19 rfl
theorem d_95_20 : decode (cd 95) 20 = .ok (.iconst 1, 1) := by rw [cd_95]; decide +kernel
theorem e_95_20 {d : Nat} {h : mM} {L : mLs} {st : List Value} : ev d 95 20 L st h = ev d 95 21 L (.int 1 :: st) h := ev_of d_95_20 rfl
theorem d_95_21 : decode (cd 95) 21 = .ok (.sipush 1000, 3) := by rw [cd_95]; decide +kernel
theorem e_95_21 {d : Nat} {h : mM} {L : mLs} {st : List Value} : ev d 95 21 L st h = ev d 95 24 L (.int 1000 :: st) h := ev_of d_95_21 rfl
theorem d_95_24 : decode (cd 95) 24 = .ok (.invokestatic 114, 3) := by rw [cd_95]; decide +kernel
theorem e_95_24 {d : Nat} {h : mM} {L : mLs} {st : List Value} {x0 : Int32} {x1 : Int32} {x2 : Int32} (hc : mCat st ≤ 8) : ev (d + 1) 95 24 L (.int x2 :: .int x1 :: .int x0 :: st) h = cV (ev d 80 0 [some (.int x0), some (.int x1), some (.int x2)] [] h) (fun v h1 => ev (d + 1) 95 27 L (v ++ st) h1) := ev_cs (kd := 1) (mj := 80) (as := [.int x0, .int x1, .int x2]) (rest := st) d_95_24 (by decide +kernel) (by decide) rfl rfl (by show _ ≤ List.length _; simp only [List.length_cons]; have : na 80 = 3 := rfl; omega) rfl (Nat.le_of_ble_eq_true rfl) hc
theorem d_95_27 : decode (cd 95) 27 = .ok (.ifCond .eq 26, 3) := by rw [cd_95]; decide +kernel
theorem e_95_27 {d : Nat} {h : mM} {L : mLs} {st : List Value} {x : Int32} : ev d 95 27 L (.int x :: st) h = if x = 0 then ev d 95 53 L st h else ev d 95 30 L st h := ev_if (x = 0) inferInstance rfl d_95_27 (by decide)
theorem d_95_30 : decode (cd 95) 30 = .ok (.iload 4, 2) := by rw [cd_95]; decide +kernel
theorem e_95_30 {d : Nat} {h : mM} {o0 o1 o2 o3 : Option Value} {T : mLs} {x : Int32} {st : List Value} : ev d 95 30 (o0 :: o1 :: o2 :: o3 :: some (.int x) :: T) st h = ev d 95 32 (o0 :: o1 :: o2 :: o3 :: some (.int x) :: T) (.int x :: st) h := ev_of d_95_30 rfl
theorem d_95_32 : decode (cd 95) 32 = .ok (.iconst 1, 1) := by rw [cd_95]; decide +kernel
theorem e_95_32 {d : Nat} {h : mM} {L : mLs} {st : List Value} : ev d 95 32 L st h = ev d 95 33 L (.int 1 :: st) h := ev_of d_95_32 rfl
theorem d_95_33 : decode (cd 95) 33 = .ok (.bipush 20, 2) := by rw [cd_95]; decide +kernel
theorem e_95_33 {d : Nat} {h : mM} {L : mLs} {st : List Value} : ev d 95 33 L st h = ev d 95 35 L (.int 20 :: st) h := ev_of d_95_33 rfl
theorem d_95_35 : decode (cd 95) 35 = .ok (.invokestatic 114, 3) := by rw [cd_95]; decide +kernel
theorem e_95_35 {d : Nat} {h : mM} {L : mLs} {st : List Value} {x0 : Int32} {x1 : Int32} {x2 : Int32} (hc : mCat st ≤ 8) : ev (d + 1) 95 35 L (.int x2 :: .int x1 :: .int x0 :: st) h = cV (ev d 80 0 [some (.int x0), some (.int x1), some (.int x2)] [] h) (fun v h1 => ev (d + 1) 95 38 L (v ++ st) h1) := ev_cs (kd := 1) (mj := 80) (as := [.int x0, .int x1, .int x2]) (rest := st) d_95_35 (by decide +kernel) (by decide) rfl rfl (by show _ ≤ List.length _; simp only [List.length_cons]; have : na 80 = 3 := rfl; omega) rfl (Nat.le_of_ble_eq_true rfl) hc
theorem d_95_38 : decode (cd 95) 38 = .ok (.ifCond .eq 15, 3) := by rw [cd_95]; decide +kernel
theorem e_95_38 {d : Nat} {h : mM} {L : mLs} {st : List Value} {x : Int32} : ev d 95 38 L (.int x :: st) h = if x = 0 then ev d 95 53 L st h else ev d 95 41 L st h := ev_if (x = 0) inferInstance rfl d_95_38 (by decide)
theorem d_95_41 : decode (cd 95) 41 = .ok (.iload 5, 2) := by rw [cd_95]; decide +kernel
theorem e_95_41 {d : Nat} {h : mM} {o0 o1 o2 o3 o4 : Option Value} {T : mLs} {x : Int32} {st : List Value} : ev d 95 41 (o0 :: o1 :: o2 :: o3 :: o4 :: some (.int x) :: T) st h = ev d 95 43 (o0 :: o1 :: o2 :: o3 :: o4 :: some (.int x) :: T) (.int x :: st) h := ev_of d_95_41 rfl
theorem d_95_43 : decode (cd 95) 43 = .ok (.iconst 1, 1) := by rw [cd_95]; decide +kernel
theorem e_95_43 {d : Nat} {h : mM} {L : mLs} {st : List Value} : ev d 95 43 L st h = ev d 95 44 L (.int 1 :: st) h := ev_of d_95_43 rfl
theorem d_95_44 : decode (cd 95) 44 = .ok (.sipush 1000, 3) := by rw [cd_95]; decide +kernel
theorem e_95_44 {d : Nat} {h : mM} {L : mLs} {st : List Value} : ev d 95 44 L st h = ev d 95 47 L (.int 1000 :: st) h := ev_of d_95_44 rfl
theorem d_95_47 : decode (cd 95) 47 = .ok (.invokestatic 114, 3) := by rw [cd_95]; decide +kernel
theorem e_95_47 {d : Nat} {h : mM} {L : mLs} {st : List Value} {x0 : Int32} {x1 : Int32} {x2 : Int32} (hc : mCat st ≤ 8) : ev (d + 1) 95 47 L (.int x2 :: .int x1 :: .int x0 :: st) h = cV (ev d 80 0 [some (.int x0), some (.int x1), some (.int x2)] [] h) (fun v h1 => ev (d + 1) 95 50 L (v ++ st) h1) := ev_cs (kd := 1) (mj := 80) (as := [.int x0, .int x1, .int x2]) (rest := st) d_95_47 (by decide +kernel) (by decide) rfl rfl (by show _ ≤ List.length _; simp only [List.length_cons]; have : na 80 = 3 := rfl; omega) rfl (Nat.le_of_ble_eq_true rfl) hc
theorem d_95_50 : decode (cd 95) 50 = .ok (.ifCond .ne 11, 3) := by rw [cd_95]; decide +kernel
theorem e_95_50 {d : Nat} {h : mM} {L : mLs} {st : List Value} {x : Int32} : ev d 95 50 L (.int x :: st) h = if ¬ x = 0 then ev d 95 61 L st h else ev d 95 53 L st h := ev_if (¬ x = 0) inferInstance rfl d_95_50 (by decide)
theorem d_95_53 : decode (cd 95) 53 = .ok (.aload_n 0, 1) := by rw [cd_95]; decide +kernel
theorem e_95_53 {d : Nat} {h : mM} {T : mLs} {x : Nat} {st : List Value} : ev d 95 53 ( some (.ref x) :: T) st h = ev d 95 54 ( some (.ref x) :: T) (.ref x :: st) h := ev_of d_95_53 rfl
theorem d_95_54 : decode (cd 95) 54 = .ok (.ldc2_w 121, 3) := by rw [cd_95]; decide +kernel
theorem e_95_54 {d : Nat} {h : mM} {L : mLs} {st : List Value} : ev d 95 54 L st h = ev d 95 57 L (.long (-1000000001) :: st) h := ev_of d_95_54 rfl
theorem d_95_57 : decode (cd 95) 57 = .ok (.invokevirtual 123, 3) := by rw [cd_95]; decide +kernel
theorem e_95_57 {d : Nat} {h : mM} {L : mLs} {st : List Value} {a : Nat} {x0 : Int64} (hc : mCat st ≤ 8) : ev (d + 1) 95 57 L (.long x0 :: .ref a :: st) h = if mK h a = 10 then cV (ev d 79 0 [some (.ref a), some (.long x0), none] [] h) (fun v h1 => ev (d + 1) 95 60 L (v ++ st) h1) else none := ev_cv (mj := 79) (as := [.long x0]) (rest := st) d_95_57 (by decide +kernel) rfl rfl (by show _ ≤ List.length _; simp only [List.length_cons]; have : na 79 = 1 := rfl; omega) rfl (Nat.le_of_ble_eq_true rfl) hc
theorem d_95_60 : decode (cd 95) 60 = .ok (.lreturn, 1) := by rw [cd_95]; decide +kernel
theorem e_95_60 {d : Nat} {h : mM} {L : mLs} {v : Int64} : ev d 95 60 L [.long v] h = some (some (.long v), h) := ev_rl d_95_60 (by decide +kernel)
theorem d_95_61 : decode (cd 95) 61 = .ok (.aload_n 0, 1) := by rw [cd_95]; decide +kernel
theorem e_95_61 {d : Nat} {h : mM} {T : mLs} {x : Nat} {st : List Value} : ev d 95 61 ( some (.ref x) :: T) st h = ev d 95 62 ( some (.ref x) :: T) (.ref x :: st) h := ev_of d_95_61 rfl
theorem d_95_62 : decode (cd 95) 62 = .ok (.getfield 56, 3) := by rw [cd_95]; decide +kernel
theorem e_95_62 {d : Nat} {h : mM} {L : mLs} {st : List Value} {a : Nat} : ev d 95 62 L (.ref a :: st) h = if mK h a = 10 then oB (mR h a 19) (fun b => ev d 95 65 L (.ref b :: st) h) else none := ev_gR d_95_62 (by decide +kernel) (by decide +kernel)
theorem d_95_65 : decode (cd 95) 65 = .ok (.iload_n 1, 1) := by rw [cd_95]; decide +kernel
theorem e_95_65 {d : Nat} {h : mM} {o0 : Option Value} {T : mLs} {x : Int32} {st : List Value} : ev d 95 65 (o0 :: some (.int x) :: T) st h = ev d 95 66 (o0 :: some (.int x) :: T) (.int x :: st) h := ev_of d_95_65 rfl
theorem d_95_66 : decode (cd 95) 66 = .ok (.iaload, 1) := by rw [cd_95]; decide +kernel
theorem e_95_66 {d : Nat} {h : mM} {L : mLs} {st : List Value} {a : Nat} {i : Int32} : ev d 95 66 L (.int i :: .ref a :: st) h = if (mK h a = 11 ∨ mK h a = 19) ∧ ixOK i (mL h a) = true then ev d 95 67 L (.int (mI h a i.toNatClampNeg) :: st) h else none := ev_ia d_95_66
theorem d_95_67 : decode (cd 95) 67 = .ok (.iconst 3, 1) := by rw [cd_95]; decide +kernel
theorem e_95_67 {d : Nat} {h : mM} {L : mLs} {st : List Value} : ev d 95 67 L st h = ev d 95 68 L (.int 3 :: st) h := ev_of d_95_67 rfl
theorem d_95_68 : decode (cd 95) 68 = .ok (.if_icmp .ne 11, 3) := by rw [cd_95]; decide +kernel
theorem e_95_68 {d : Nat} {h : mM} {L : mLs} {st : List Value} {x y : Int32} : ev d 95 68 L (.int y :: .int x :: st) h = if ¬ x = y then ev d 95 79 L st h else ev d 95 71 L st h := ev_ic (¬ x = y) inferInstance rfl d_95_68 (by decide)
theorem d_95_71 : decode (cd 95) 71 = .ok (.aload_n 0, 1) := by rw [cd_95]; decide +kernel
theorem e_95_71 {d : Nat} {h : mM} {T : mLs} {x : Nat} {st : List Value} : ev d 95 71 ( some (.ref x) :: T) st h = ev d 95 72 ( some (.ref x) :: T) (.ref x :: st) h := ev_of d_95_71 rfl
theorem d_95_72 : decode (cd 95) 72 = .ok (.ldc2_w 130, 3) := by rw [cd_95]; decide +kernel
theorem e_95_72 {d : Nat} {h : mM} {L : mLs} {st : List Value} : ev d 95 72 L st h = ev d 95 75 L (.long (-1000000004) :: st) h := ev_of d_95_72 rfl
theorem d_95_75 : decode (cd 95) 75 = .ok (.invokevirtual 123, 3) := by rw [cd_95]; decide +kernel
theorem e_95_75 {d : Nat} {h : mM} {L : mLs} {st : List Value} {a : Nat} {x0 : Int64} (hc : mCat st ≤ 8) : ev (d + 1) 95 75 L (.long x0 :: .ref a :: st) h = if mK h a = 10 then cV (ev d 79 0 [some (.ref a), some (.long x0), none] [] h) (fun v h1 => ev (d + 1) 95 78 L (v ++ st) h1) else none := ev_cv (mj := 79) (as := [.long x0]) (rest := st) d_95_75 (by decide +kernel) rfl rfl (by show _ ≤ List.length _; simp only [List.length_cons]; have : na 79 = 1 := rfl; omega) rfl (Nat.le_of_ble_eq_true rfl) hc
theorem d_95_78 : decode (cd 95) 78 = .ok (.lreturn, 1) := by rw [cd_95]; decide +kernel
theorem e_95_78 {d : Nat} {h : mM} {L : mLs} {v : Int64} : ev d 95 78 L [.long v] h = some (some (.long v), h) := ev_rl d_95_78 (by decide +kernel)
theorem d_95_79 : decode (cd 95) 79 = .ok (.iconst 3, 1) := by rw [cd_95]; decide +kernel
theorem e_95_79 {d : Nat} {h : mM} {L : mLs} {st : List Value} : ev d 95 79 L st h = ev d 95 80 L (.int 3 :: st) h := ev_of d_95_79 rfl
theorem d_95_80 : decode (cd 95) 80 = .ok (.iload_n 1, 1) := by rw [cd_95]; decide +kernel
theorem e_95_80 {d : Nat} {h : mM} {o0 : Option Value} {T : mLs} {x : Int32} {st : List Value} : ev d 95 80 (o0 :: some (.int x) :: T) st h = ev d 95 81 (o0 :: some (.int x) :: T) (.int x :: st) h := ev_of d_95_80 rfl
theorem d_95_81 : decode (cd 95) 81 = .ok (.imul, 1) := by rw [cd_95]; decide +kernel
theorem e_95_81 {d : Nat} {h : mM} {L : mLs} {st : List Value} {x y : Int32} : ev d 95 81 L (.int y :: .int x :: st) h = ev d 95 82 L (.int (x * y) :: st) h := ev_of d_95_81 rfl
theorem d_95_82 : decode (cd 95) 82 = .ok (.aload_n 0, 1) := by rw [cd_95]; decide +kernel
theorem e_95_82 {d : Nat} {h : mM} {T : mLs} {x : Nat} {st : List Value} : ev d 95 82 ( some (.ref x) :: T) st h = ev d 95 83 ( some (.ref x) :: T) (.ref x :: st) h := ev_of d_95_82 rfl
theorem d_95_83 : decode (cd 95) 83 = .ok (.getfield 56, 3) := by rw [cd_95]; decide +kernel
theorem e_95_83 {d : Nat} {h : mM} {L : mLs} {st : List Value} {a : Nat} : ev d 95 83 L (.ref a :: st) h = if mK h a = 10 then oB (mR h a 19) (fun b => ev d 95 86 L (.ref b :: st) h) else none := ev_gR d_95_83 (by decide +kernel) (by decide +kernel)
theorem d_95_86 : decode (cd 95) 86 = .ok (.iload_n 1, 1) := by rw [cd_95]; decide +kernel
theorem e_95_86 {d : Nat} {h : mM} {o0 : Option Value} {T : mLs} {x : Int32} {st : List Value} : ev d 95 86 (o0 :: some (.int x) :: T) st h = ev d 95 87 (o0 :: some (.int x) :: T) (.int x :: st) h := ev_of d_95_86 rfl
theorem d_95_87 : decode (cd 95) 87 = .ok (.iaload, 1) := by rw [cd_95]; decide +kernel
theorem e_95_87 {d : Nat} {h : mM} {L : mLs} {st : List Value} {a : Nat} {i : Int32} : ev d 95 87 L (.int i :: .ref a :: st) h = if (mK h a = 11 ∨ mK h a = 19) ∧ ixOK i (mL h a) = true then ev d 95 88 L (.int (mI h a i.toNatClampNeg) :: st) h else none := ev_ia d_95_87
theorem d_95_88 : decode (cd 95) 88 = .ok (.iadd, 1) := by rw [cd_95]; decide +kernel
theorem e_95_88 {d : Nat} {h : mM} {L : mLs} {st : List Value} {x y : Int32} : ev d 95 88 L (.int y :: .int x :: st) h = ev d 95 89 L (.int (x + y) :: st) h := ev_of d_95_88 rfl
theorem d_95_89 : decode (cd 95) 89 = .ok (.istore 6, 2) := by rw [cd_95]; decide +kernel
theorem e_95_89 {d : Nat} {h : mM} {o0 o1 o2 o3 o4 o5 o6 : Option Value} {T : mLs} {x : Int32} {st : List Value} (hl : mLong o5 = false) : ev d 95 89 (o0 :: o1 :: o2 :: o3 :: o4 :: o5 :: o6 :: T) (.int x :: st) h = ev d 95 91 (o0 :: o1 :: o2 :: o3 :: o4 :: o5 :: some (.int x) :: T) st h := ev_st_i d_95_89 (by decide +kernel) (mS1_s (j := 5) hl)
theorem d_95_91 : decode (cd 95) 91 = .ok (.aload_n 0, 1) := by rw [cd_95]; decide +kernel
theorem e_95_91 {d : Nat} {h : mM} {T : mLs} {x : Nat} {st : List Value} : ev d 95 91 ( some (.ref x) :: T) st h = ev d 95 92 ( some (.ref x) :: T) (.ref x :: st) h := ev_of d_95_91 rfl
theorem d_95_92 : decode (cd 95) 92 = .ok (.getfield 59, 3) := by rw [cd_95]; decide +kernel
theorem e_95_92 {d : Nat} {h : mM} {L : mLs} {st : List Value} {a : Nat} : ev d 95 92 L (.ref a :: st) h = if mK h a = 10 then oB (mR h a 20) (fun b => ev d 95 95 L (.ref b :: st) h) else none := ev_gR d_95_92 (by decide +kernel) (by decide +kernel)
theorem d_95_95 : decode (cd 95) 95 = .ok (.iload 6, 2) := by rw [cd_95]; decide +kernel
theorem e_95_95 {d : Nat} {h : mM} {o0 o1 o2 o3 o4 o5 : Option Value} {T : mLs} {x : Int32} {st : List Value} : ev d 95 95 (o0 :: o1 :: o2 :: o3 :: o4 :: o5 :: some (.int x) :: T) st h = ev d 95 97 (o0 :: o1 :: o2 :: o3 :: o4 :: o5 :: some (.int x) :: T) (.int x :: st) h := ev_of d_95_95 rfl
theorem d_95_97 : decode (cd 95) 97 = .ok (.iload_n 2, 1) := by rw [cd_95]; decide +kernel
theorem e_95_97 {d : Nat} {h : mM} {o0 o1 : Option Value} {T : mLs} {x : Int32} {st : List Value} : ev d 95 97 (o0 :: o1 :: some (.int x) :: T) st h = ev d 95 98 (o0 :: o1 :: some (.int x) :: T) (.int x :: st) h := ev_of d_95_97 rfl
theorem d_95_98 : decode (cd 95) 98 = .ok (.iastore, 1) := by rw [cd_95]; decide +kernel
theorem e_95_98 {d : Nat} {h : mM} {L : mLs} {st : List Value} {a : Nat} {i v : Int32} : ev d 95 98 L (.int v :: .int i :: .ref a :: st) h = if mK h a = 11 ∧ ixOK i (mL h a) = true then ev d 95 99 L st (wI h a i.toNatClampNeg v) else none := ev_is d_95_98
theorem d_95_99 : decode (cd 95) 99 = .ok (.aload_n 0, 1) := by rw [cd_95]; decide +kernel
theorem e_95_99 {d : Nat} {h : mM} {T : mLs} {x : Nat} {st : List Value} : ev d 95 99 ( some (.ref x) :: T) st h = ev d 95 100 ( some (.ref x) :: T) (.ref x :: st) h := ev_of d_95_99 rfl
theorem d_95_100 : decode (cd 95) 100 = .ok (.getfield 62, 3) := by rw [cd_95]; decide +kernel
theorem e_95_100 {d : Nat} {h : mM} {L : mLs} {st : List Value} {a : Nat} : ev d 95 100 L (.ref a :: st) h = if mK h a = 10 then oB (mR h a 21) (fun b => ev d 95 103 L (.ref b :: st) h) else none := ev_gR d_95_100 (by decide +kernel) (by decide +kernel)
theorem d_95_103 : decode (cd 95) 103 = .ok (.iload 6, 2) := by rw [cd_95]; decide +kernel
theorem e_95_103 {d : Nat} {h : mM} {o0 o1 o2 o3 o4 o5 : Option Value} {T : mLs} {x : Int32} {st : List Value} : ev d 95 103 (o0 :: o1 :: o2 :: o3 :: o4 :: o5 :: some (.int x) :: T) st h = ev d 95 105 (o0 :: o1 :: o2 :: o3 :: o4 :: o5 :: some (.int x) :: T) (.int x :: st) h := ev_of d_95_103 rfl
theorem d_95_105 : decode (cd 95) 105 = .ok (.iload_n 3, 1) := by rw [cd_95]; decide +kernel
theorem e_95_105 {d : Nat} {h : mM} {o0 o1 o2 : Option Value} {T : mLs} {x : Int32} {st : List Value} : ev d 95 105 (o0 :: o1 :: o2 :: some (.int x) :: T) st h = ev d 95 106 (o0 :: o1 :: o2 :: some (.int x) :: T) (.int x :: st) h := ev_of d_95_105 rfl
theorem d_95_106 : decode (cd 95) 106 = .ok (.iastore, 1) := by rw [cd_95]; decide +kernel
theorem e_95_106 {d : Nat} {h : mM} {L : mLs} {st : List Value} {a : Nat} {i v : Int32} : ev d 95 106 L (.int v :: .int i :: .ref a :: st) h = if mK h a = 11 ∧ ixOK i (mL h a) = true then ev d 95 107 L st (wI h a i.toNatClampNeg v) else none := ev_is d_95_106
theorem d_95_107 : decode (cd 95) 107 = .ok (.aload_n 0, 1) := by rw [cd_95]; decide +kernel
theorem e_95_107 {d : Nat} {h : mM} {T : mLs} {x : Nat} {st : List Value} : ev d 95 107 ( some (.ref x) :: T) st h = ev d 95 108 ( some (.ref x) :: T) (.ref x :: st) h := ev_of d_95_107 rfl
theorem d_95_108 : decode (cd 95) 108 = .ok (.getfield 65, 3) := by rw [cd_95]; decide +kernel
theorem e_95_108 {d : Nat} {h : mM} {L : mLs} {st : List Value} {a : Nat} : ev d 95 108 L (.ref a :: st) h = if mK h a = 10 then oB (mR h a 22) (fun b => ev d 95 111 L (.ref b :: st) h) else none := ev_gR d_95_108 (by decide +kernel) (by decide +kernel)
theorem d_95_111 : decode (cd 95) 111 = .ok (.iload 6, 2) := by rw [cd_95]; decide +kernel
theorem e_95_111 {d : Nat} {h : mM} {o0 o1 o2 o3 o4 o5 : Option Value} {T : mLs} {x : Int32} {st : List Value} : ev d 95 111 (o0 :: o1 :: o2 :: o3 :: o4 :: o5 :: some (.int x) :: T) st h = ev d 95 113 (o0 :: o1 :: o2 :: o3 :: o4 :: o5 :: some (.int x) :: T) (.int x :: st) h := ev_of d_95_111 rfl
theorem d_95_113 : decode (cd 95) 113 = .ok (.iload 4, 2) := by rw [cd_95]; decide +kernel
theorem e_95_113 {d : Nat} {h : mM} {o0 o1 o2 o3 : Option Value} {T : mLs} {x : Int32} {st : List Value} : ev d 95 113 (o0 :: o1 :: o2 :: o3 :: some (.int x) :: T) st h = ev d 95 115 (o0 :: o1 :: o2 :: o3 :: some (.int x) :: T) (.int x :: st) h := ev_of d_95_113 rfl
theorem d_95_115 : decode (cd 95) 115 = .ok (.iastore, 1) := by rw [cd_95]; decide +kernel
theorem e_95_115 {d : Nat} {h : mM} {L : mLs} {st : List Value} {a : Nat} {i v : Int32} : ev d 95 115 L (.int v :: .int i :: .ref a :: st) h = if mK h a = 11 ∧ ixOK i (mL h a) = true then ev d 95 116 L st (wI h a i.toNatClampNeg v) else none := ev_is d_95_115
theorem d_95_116 : decode (cd 95) 116 = .ok (.aload_n 0, 1) := by rw [cd_95]; decide +kernel
theorem e_95_116 {d : Nat} {h : mM} {T : mLs} {x : Nat} {st : List Value} : ev d 95 116 ( some (.ref x) :: T) st h = ev d 95 117 ( some (.ref x) :: T) (.ref x :: st) h := ev_of d_95_116 rfl
theorem d_95_117 : decode (cd 95) 117 = .ok (.getfield 68, 3) := by rw [cd_95]; decide +kernel
theorem e_95_117 {d : Nat} {h : mM} {L : mLs} {st : List Value} {a : Nat} : ev d 95 117 L (.ref a :: st) h = if mK h a = 10 then oB (mR h a 23) (fun b => ev d 95 120 L (.ref b :: st) h) else none := ev_gR d_95_117 (by decide +kernel) (by decide +kernel)
theorem d_95_120 : decode (cd 95) 120 = .ok (.iload 6, 2) := by rw [cd_95]; decide +kernel
theorem e_95_120 {d : Nat} {h : mM} {o0 o1 o2 o3 o4 o5 : Option Value} {T : mLs} {x : Int32} {st : List Value} : ev d 95 120 (o0 :: o1 :: o2 :: o3 :: o4 :: o5 :: some (.int x) :: T) st h = ev d 95 122 (o0 :: o1 :: o2 :: o3 :: o4 :: o5 :: some (.int x) :: T) (.int x :: st) h := ev_of d_95_120 rfl
theorem d_95_122 : decode (cd 95) 122 = .ok (.iload 5, 2) := by rw [cd_95]; decide +kernel
theorem e_95_122 {d : Nat} {h : mM} {o0 o1 o2 o3 o4 : Option Value} {T : mLs} {x : Int32} {st : List Value} : ev d 95 122 (o0 :: o1 :: o2 :: o3 :: o4 :: some (.int x) :: T) st h = ev d 95 124 (o0 :: o1 :: o2 :: o3 :: o4 :: some (.int x) :: T) (.int x :: st) h := ev_of d_95_122 rfl
theorem d_95_124 : decode (cd 95) 124 = .ok (.iastore, 1) := by rw [cd_95]; decide +kernel
theorem e_95_124 {d : Nat} {h : mM} {L : mLs} {st : List Value} {a : Nat} {i v : Int32} : ev d 95 124 L (.int v :: .int i :: .ref a :: st) h = if mK h a = 11 ∧ ixOK i (mL h a) = true then ev d 95 125 L st (wI h a i.toNatClampNeg v) else none := ev_is d_95_124
theorem d_95_125 : decode (cd 95) 125 = .ok (.aload_n 0, 1) := by rw [cd_95]; decide +kernel
theorem e_95_125 {d : Nat} {h : mM} {T : mLs} {x : Nat} {st : List Value} : ev d 95 125 ( some (.ref x) :: T) st h = ev d 95 126 ( some (.ref x) :: T) (.ref x :: st) h := ev_of d_95_125 rfl
theorem d_95_126 : decode (cd 95) 126 = .ok (.dup, 1) := by rw [cd_95]; decide +kernel
theorem e_95_126r {d : Nat} {h : mM} {L : mLs} {st : List Value} {a : Nat} : ev d 95 126 L (.ref a :: st) h = ev d 95 127 L (.ref a :: .ref a :: st) h := ev_of d_95_126 rfl
theorem e_95_126i {d : Nat} {h : mM} {L : mLs} {st : List Value} {x : Int32} : ev d 95 126 L (.int x :: st) h = ev d 95 127 L (.int x :: .int x :: st) h := ev_of d_95_126 rfl
theorem d_95_127 : decode (cd 95) 127 = .ok (.getfield 144, 3) := by rw [cd_95]; decide +kernel
theorem e_95_127 {d : Nat} {h : mM} {L : mLs} {st : List Value} {a : Nat} : ev d 95 127 L (.ref a :: st) h = if mK h a = 10 then ev d 95 130 L (.int (mI h a 24) :: st) h else none := ev_gI d_95_127 (by decide +kernel) (by decide +kernel)
theorem d_95_130 : decode (cd 95) 130 = .ok (.iconst 1, 1) := by rw [cd_95]; decide +kernel
theorem e_95_130 {d : Nat} {h : mM} {L : mLs} {st : List Value} : ev d 95 130 L st h = ev d 95 131 L (.int 1 :: st) h := ev_of d_95_130 rfl
theorem d_95_131 : decode (cd 95) 131 = .ok (.iload 6, 2) := by rw [cd_95]; decide +kernel
theorem e_95_131 {d : Nat} {h : mM} {o0 o1 o2 o3 o4 o5 : Option Value} {T : mLs} {x : Int32} {st : List Value} : ev d 95 131 (o0 :: o1 :: o2 :: o3 :: o4 :: o5 :: some (.int x) :: T) st h = ev d 95 133 (o0 :: o1 :: o2 :: o3 :: o4 :: o5 :: some (.int x) :: T) (.int x :: st) h := ev_of d_95_131 rfl
theorem d_95_133 : decode (cd 95) 133 = .ok (.ishl, 1) := by rw [cd_95]; decide +kernel
theorem e_95_133 {d : Nat} {h : mM} {L : mLs} {st : List Value} {x y : Int32} : ev d 95 133 L (.int y :: .int x :: st) h = ev d 95 134 L (.int (x <<< (y &&& 31)) :: st) h := ev_of d_95_133 rfl
theorem d_95_134 : decode (cd 95) 134 = .ok (.ior, 1) := by rw [cd_95]; decide +kernel
theorem e_95_134 {d : Nat} {h : mM} {L : mLs} {st : List Value} {x y : Int32} : ev d 95 134 L (.int y :: .int x :: st) h = ev d 95 135 L (.int (x ||| y) :: st) h := ev_of d_95_134 rfl
theorem d_95_135 : decode (cd 95) 135 = .ok (.putfield 144, 3) := by rw [cd_95]; decide +kernel
theorem e_95_135 {d : Nat} {h : mM} {L : mLs} {st : List Value} {a : Nat} {v : Int32} : ev d 95 135 L (.int v :: .ref a :: st) h = if mK h a = 10 then ev d 95 138 L st (wI h a 24 v) else none := ev_pI d_95_135 (by decide +kernel) (by decide +kernel) (by decide +kernel)
theorem d_95_138 : decode (cd 95) 138 = .ok (.aload_n 0, 1) := by rw [cd_95]; decide +kernel
theorem e_95_138 {d : Nat} {h : mM} {T : mLs} {x : Nat} {st : List Value} : ev d 95 138 ( some (.ref x) :: T) st h = ev d 95 139 ( some (.ref x) :: T) (.ref x :: st) h := ev_of d_95_138 rfl
theorem d_95_139 : decode (cd 95) 139 = .ok (.getfield 56, 3) := by rw [cd_95]; decide +kernel
theorem e_95_139 {d : Nat} {h : mM} {L : mLs} {st : List Value} {a : Nat} : ev d 95 139 L (.ref a :: st) h = if mK h a = 10 then oB (mR h a 19) (fun b => ev d 95 142 L (.ref b :: st) h) else none := ev_gR d_95_139 (by decide +kernel) (by decide +kernel)
theorem d_95_142 : decode (cd 95) 142 = .ok (.iload_n 1, 1) := by rw [cd_95]; decide +kernel
theorem e_95_142 {d : Nat} {h : mM} {o0 : Option Value} {T : mLs} {x : Int32} {st : List Value} : ev d 95 142 (o0 :: some (.int x) :: T) st h = ev d 95 143 (o0 :: some (.int x) :: T) (.int x :: st) h := ev_of d_95_142 rfl
theorem d_95_143 : decode (cd 95) 143 = .ok (.dup2, 1) := by rw [cd_95]; decide +kernel
theorem e_95_143 {d : Nat} {h : mM} {L : mLs} {st : List Value} {a : Nat} {i : Int32} : ev d 95 143 L (.int i :: .ref a :: st) h = ev d 95 144 L (.int i :: .ref a :: .int i :: .ref a :: st) h := ev_of d_95_143 rfl
theorem d_95_144 : decode (cd 95) 144 = .ok (.iaload, 1) := by rw [cd_95]; decide +kernel
theorem e_95_144 {d : Nat} {h : mM} {L : mLs} {st : List Value} {a : Nat} {i : Int32} : ev d 95 144 L (.int i :: .ref a :: st) h = if (mK h a = 11 ∨ mK h a = 19) ∧ ixOK i (mL h a) = true then ev d 95 145 L (.int (mI h a i.toNatClampNeg) :: st) h else none := ev_ia d_95_144
theorem d_95_145 : decode (cd 95) 145 = .ok (.iconst 1, 1) := by rw [cd_95]; decide +kernel
theorem e_95_145 {d : Nat} {h : mM} {L : mLs} {st : List Value} : ev d 95 145 L st h = ev d 95 146 L (.int 1 :: st) h := ev_of d_95_145 rfl
theorem d_95_146 : decode (cd 95) 146 = .ok (.iadd, 1) := by rw [cd_95]; decide +kernel
theorem e_95_146 {d : Nat} {h : mM} {L : mLs} {st : List Value} {x y : Int32} : ev d 95 146 L (.int y :: .int x :: st) h = ev d 95 147 L (.int (x + y) :: st) h := ev_of d_95_146 rfl
theorem d_95_147 : decode (cd 95) 147 = .ok (.iastore, 1) := by rw [cd_95]; decide +kernel
theorem e_95_147 {d : Nat} {h : mM} {L : mLs} {st : List Value} {a : Nat} {i v : Int32} : ev d 95 147 L (.int v :: .int i :: .ref a :: st) h = if mK h a = 11 ∧ ixOK i (mL h a) = true then ev d 95 148 L st (wI h a i.toNatClampNeg v) else none := ev_is d_95_147
theorem d_95_148 : decode (cd 95) 148 = .ok (.aload_n 0, 1) := by rw [cd_95]; decide +kernel
theorem e_95_148 {d : Nat} {h : mM} {T : mLs} {x : Nat} {st : List Value} : ev d 95 148 ( some (.ref x) :: T) st h = ev d 95 149 ( some (.ref x) :: T) (.ref x :: st) h := ev_of d_95_148 rfl
theorem d_95_149 : decode (cd 95) 149 = .ok (.getfield 56, 3) := by rw [cd_95]; decide +kernel
theorem e_95_149 {d : Nat} {h : mM} {L : mLs} {st : List Value} {a : Nat} : ev d 95 149 L (.ref a :: st) h = if mK h a = 10 then oB (mR h a 19) (fun b => ev d 95 152 L (.ref b :: st) h) else none := ev_gR d_95_149 (by decide +kernel) (by decide +kernel)
theorem d_95_152 : decode (cd 95) 152 = .ok (.iload_n 1, 1) := by rw [cd_95]; decide +kernel
theorem e_95_152 {d : Nat} {h : mM} {o0 : Option Value} {T : mLs} {x : Int32} {st : List Value} : ev d 95 152 (o0 :: some (.int x) :: T) st h = ev d 95 153 (o0 :: some (.int x) :: T) (.int x :: st) h := ev_of d_95_152 rfl
theorem d_95_153 : decode (cd 95) 153 = .ok (.iaload, 1) := by rw [cd_95]; decide +kernel
theorem e_95_153 {d : Nat} {h : mM} {L : mLs} {st : List Value} {a : Nat} {i : Int32} : ev d 95 153 L (.int i :: .ref a :: st) h = if (mK h a = 11 ∨ mK h a = 19) ∧ ixOK i (mL h a) = true then ev d 95 154 L (.int (mI h a i.toNatClampNeg) :: st) h else none := ev_ia d_95_153
theorem d_95_154 : decode (cd 95) 154 = .ok (.iconst 1, 1) := by rw [cd_95]; decide +kernel
theorem e_95_154 {d : Nat} {h : mM} {L : mLs} {st : List Value} : ev d 95 154 L st h = ev d 95 155 L (.int 1 :: st) h := ev_of d_95_154 rfl
theorem d_95_155 : decode (cd 95) 155 = .ok (.isub, 1) := by rw [cd_95]; decide +kernel
theorem e_95_155 {d : Nat} {h : mM} {L : mLs} {st : List Value} {x y : Int32} : ev d 95 155 L (.int y :: .int x :: st) h = ev d 95 156 L (.int (x - y) :: st) h := ev_of d_95_155 rfl
theorem d_95_156 : decode (cd 95) 156 = .ok (.i2l, 1) := by rw [cd_95]; decide +kernel
theorem e_95_156 {d : Nat} {h : mM} {L : mLs} {st : List Value} {x : Int32} : ev d 95 156 L (.int x :: st) h = ev d 95 157 L (.long x.toInt64 :: st) h := ev_of d_95_156 rfl
theorem d_95_157 : decode (cd 95) 157 = .ok (.lreturn, 1) := by rw [cd_95]; decide +kernel
theorem e_95_157 {d : Nat} {h : mM} {L : mLs} {v : Int64} : ev d 95 157 L [.long v] h = some (some (.long v), h) := ev_rl d_95_157 (by decide +kernel)
-- 96: Model.on
theorem cd_96 : cd 96 = prog_12_method_19_code := rfl
theorem d_96_0 : decode (cd 96) 0 = .ok (.aload_n 0, 1) := by rw [cd_96]; decide +kernel
theorem e_96_0 {d : Nat} {h : mM} {T : mLs} {x : Nat} {st : List Value} : ev d 96 0 ( some (.ref x) :: T) st h = ev d 96 1 ( some (.ref x) :: T) (.ref x :: st) h := ev_of d_96_0 rfl
theorem d_96_1 : decode (cd 96) 1 = .ok (.iload_n 1, 1) := by rw [cd_96]; decide +kernel
theorem e_96_1 {d : Nat} {h : mM} {o0 : Option Value} {T : mLs} {x : Int32} {st : List Value} : ev d 96 1 (o0 :: some (.int x) :: T) st h = ev d 96 2 (o0 :: some (.int x) :: T) (.int x :: st) h := ev_of d_96_1 rfl
theorem d_96_2 : decode (cd 96) 2 = .ok (.invokevirtual 139, 3) := by rw [cd_96]; decide +kernel
theorem e_96_2 {d : Nat} {h : mM} {L : mLs} {st : List Value} {a : Nat} {x0 : Int32} (hc : mCat st ≤ 8) : ev (d + 1) 96 2 L (.int x0 :: .ref a :: st) h = if mK h a = 10 then cV (ev d 82 0 [some (.ref a), some (.int x0)] [] h) (fun v h1 => ev (d + 1) 96 5 L (v ++ st) h1) else none := ev_cv (mj := 82) (as := [.int x0]) (rest := st) d_96_2 (by decide +kernel) rfl rfl (by show _ ≤ List.length _; simp only [List.length_cons]; have : na 82 = 1 := rfl; omega) rfl (Nat.le_of_ble_eq_true rfl) hc
theorem d_96_5 : decode (cd 96) 5 = .ok (.ifCond .eq 28, 3) := by rw [cd_96]; decide +kernel
theorem e_96_5 {d : Nat} {h : mM} {L : mLs} {st : List Value} {x : Int32} : ev d 96 5 L (.int x :: st) h = if x = 0 then ev d 96 33 L st h else ev d 96 8 L st h := ev_if (x = 0) inferInstance rfl d_96_5 (by decide)
theorem d_96_8 : decode (cd 96) 8 = .ok (.iload_n 2, 1) := by rw [cd_96]; decide +kernel
theorem e_96_8 {d : Nat} {h : mM} {o0 o1 : Option Value} {T : mLs} {x : Int32} {st : List Value} : ev d 96 8 (o0 :: o1 :: some (.int x) :: T) st h = ev d 96 9 (o0 :: o1 :: some (.int x) :: T) (.int x :: st) h := ev_of d_96_8 rfl
theorem d_96_9 : decode (cd 96) 9 = .ok (.iconst 0, 1) := by rw [cd_96]; decide +kernel
theorem e_96_9 {d : Nat} {h : mM} {L : mLs} {st : List Value} : ev d 96 9 L st h = ev d 96 10 L (.int 0 :: st) h := ev_of d_96_9 rfl
theorem d_96_10 : decode (cd 96) 10 = .ok (.aload_n 0, 1) := by rw [cd_96]; decide +kernel
theorem e_96_10 {d : Nat} {h : mM} {T : mLs} {x : Nat} {st : List Value} : ev d 96 10 ( some (.ref x) :: T) st h = ev d 96 11 ( some (.ref x) :: T) (.ref x :: st) h := ev_of d_96_10 rfl
theorem d_96_11 : decode (cd 96) 11 = .ok (.getfield 56, 3) := by rw [cd_96]; decide +kernel
theorem e_96_11 {d : Nat} {h : mM} {L : mLs} {st : List Value} {a : Nat} : ev d 96 11 L (.ref a :: st) h = if mK h a = 10 then oB (mR h a 19) (fun b => ev d 96 14 L (.ref b :: st) h) else none := ev_gR d_96_11 (by decide +kernel) (by decide +kernel)
theorem d_96_14 : decode (cd 96) 14 = .ok (.iload_n 1, 1) := by rw [cd_96]; decide +kernel
theorem e_96_14 {d : Nat} {h : mM} {o0 : Option Value} {T : mLs} {x : Int32} {st : List Value} : ev d 96 14 (o0 :: some (.int x) :: T) st h = ev d 96 15 (o0 :: some (.int x) :: T) (.int x :: st) h := ev_of d_96_14 rfl
theorem d_96_15 : decode (cd 96) 15 = .ok (.iaload, 1) := by rw [cd_96]; decide +kernel
theorem e_96_15 {d : Nat} {h : mM} {L : mLs} {st : List Value} {a : Nat} {i : Int32} : ev d 96 15 L (.int i :: .ref a :: st) h = if (mK h a = 11 ∨ mK h a = 19) ∧ ixOK i (mL h a) = true then ev d 96 16 L (.int (mI h a i.toNatClampNeg) :: st) h else none := ev_ia d_96_15
theorem d_96_16 : decode (cd 96) 16 = .ok (.iconst 1, 1) := by rw [cd_96]; decide +kernel
theorem e_96_16 {d : Nat} {h : mM} {L : mLs} {st : List Value} : ev d 96 16 L st h = ev d 96 17 L (.int 1 :: st) h := ev_of d_96_16 rfl
theorem d_96_17 : decode (cd 96) 17 = .ok (.isub, 1) := by rw [cd_96]; decide +kernel
theorem e_96_17 {d : Nat} {h : mM} {L : mLs} {st : List Value} {x y : Int32} : ev d 96 17 L (.int y :: .int x :: st) h = ev d 96 18 L (.int (x - y) :: st) h := ev_of d_96_17 rfl
theorem d_96_18 : decode (cd 96) 18 = .ok (.invokestatic 114, 3) := by rw [cd_96]; decide +kernel
theorem e_96_18 {d : Nat} {h : mM} {L : mLs} {st : List Value} {x0 : Int32} {x1 : Int32} {x2 : Int32} (hc : mCat st ≤ 8) : ev (d + 1) 96 18 L (.int x2 :: .int x1 :: .int x0 :: st) h = cV (ev d 80 0 [some (.int x0), some (.int x1), some (.int x2)] [] h) (fun v h1 => ev (d + 1) 96 21 L (v ++ st) h1) := ev_cs (kd := 1) (mj := 80) (as := [.int x0, .int x1, .int x2]) (rest := st) d_96_18 (by decide +kernel) (by decide) rfl rfl (by show _ ≤ List.length _; simp only [List.length_cons]; have : na 80 = 3 := rfl; omega) rfl (Nat.le_of_ble_eq_true rfl) hc
theorem d_96_21 : decode (cd 96) 21 = .ok (.ifCond .eq 12, 3) := by rw [cd_96]; decide +kernel
theorem e_96_21 {d : Nat} {h : mM} {L : mLs} {st : List Value} {x : Int32} : ev d 96 21 L (.int x :: st) h = if x = 0 then ev d 96 33 L st h else ev d 96 24 L st h := ev_if (x = 0) inferInstance rfl d_96_21 (by decide)
theorem d_96_24 : decode (cd 96) 24 = .ok (.iload_n 3, 1) := by rw [cd_96]; decide +kernel
theorem e_96_24 {d : Nat} {h : mM} {o0 o1 o2 : Option Value} {T : mLs} {x : Int32} {st : List Value} : ev d 96 24 (o0 :: o1 :: o2 :: some (.int x) :: T) st h = ev d 96 25 (o0 :: o1 :: o2 :: some (.int x) :: T) (.int x :: st) h := ev_of d_96_24 rfl
theorem d_96_25 : decode (cd 96) 25 = .ok (.iconst 0, 1) := by rw [cd_96]; decide +kernel
theorem e_96_25 {d : Nat} {h : mM} {L : mLs} {st : List Value} : ev d 96 25 L st h = ev d 96 26 L (.int 0 :: st) h := ev_of d_96_25 rfl
theorem d_96_26 : decode (cd 96) 26 = .ok (.iconst 1, 1) := by rw [cd_96]; decide +kernel
theorem e_96_26 {d : Nat} {h : mM} {L : mLs} {st : List Value} : ev d 96 26 L st h = ev d 96 27 L (.int 1 :: st) h := ev_of d_96_26 rfl
theorem d_96_27 : decode (cd 96) 27 = .ok (.invokestatic 114, 3) := by rw [cd_96]; decide +kernel
theorem e_96_27 {d : Nat} {h : mM} {L : mLs} {st : List Value} {x0 : Int32} {x1 : Int32} {x2 : Int32} (hc : mCat st ≤ 8) : ev (d + 1) 96 27 L (.int x2 :: .int x1 :: .int x0 :: st) h = cV (ev d 80 0 [some (.int x0), some (.int x1), some (.int x2)] [] h) (fun v h1 => ev (d + 1) 96 30 L (v ++ st) h1) := ev_cs (kd := 1) (mj := 80) (as := [.int x0, .int x1, .int x2]) (rest := st) d_96_27 (by decide +kernel) (by decide) rfl rfl (by show _ ≤ List.length _; simp only [List.length_cons]; have : na 80 = 3 := rfl; omega) rfl (Nat.le_of_ble_eq_true rfl) hc
theorem d_96_30 : decode (cd 96) 30 = .ok (.ifCond .ne 11, 3) := by rw [cd_96]; decide +kernel
theorem e_96_30 {d : Nat} {h : mM} {L : mLs} {st : List Value} {x : Int32} : ev d 96 30 L (.int x :: st) h = if ¬ x = 0 then ev d 96 41 L st h else ev d 96 33 L st h := ev_if (¬ x = 0) inferInstance rfl d_96_30 (by decide)
theorem d_96_33 : decode (cd 96) 33 = .ok (.aload_n 0, 1) := by rw [cd_96]; decide +kernel
theorem e_96_33 {d : Nat} {h : mM} {T : mLs} {x : Nat} {st : List Value} : ev d 96 33 ( some (.ref x) :: T) st h = ev d 96 34 ( some (.ref x) :: T) (.ref x :: st) h := ev_of d_96_33 rfl
theorem d_96_34 : decode (cd 96) 34 = .ok (.ldc2_w 121, 3) := by rw [cd_96]; decide +kernel
theorem e_96_34 {d : Nat} {h : mM} {L : mLs} {st : List Value} : ev d 96 34 L st h = ev d 96 37 L (.long (-1000000001) :: st) h := ev_of d_96_34 rfl
theorem d_96_37 : decode (cd 96) 37 = .ok (.invokevirtual 123, 3) := by rw [cd_96]; decide +kernel
theorem e_96_37 {d : Nat} {h : mM} {L : mLs} {st : List Value} {a : Nat} {x0 : Int64} (hc : mCat st ≤ 8) : ev (d + 1) 96 37 L (.long x0 :: .ref a :: st) h = if mK h a = 10 then cV (ev d 79 0 [some (.ref a), some (.long x0), none] [] h) (fun v h1 => ev (d + 1) 96 40 L (v ++ st) h1) else none := ev_cv (mj := 79) (as := [.long x0]) (rest := st) d_96_37 (by decide +kernel) rfl rfl (by show _ ≤ List.length _; simp only [List.length_cons]; have : na 79 = 1 := rfl; omega) rfl (Nat.le_of_ble_eq_true rfl) hc
theorem d_96_40 : decode (cd 96) 40 = .ok (.lreturn, 1) := by rw [cd_96]; decide +kernel
theorem e_96_40 {d : Nat} {h : mM} {L : mLs} {v : Int64} : ev d 96 40 L [.long v] h = some (some (.long v), h) := ev_rl d_96_40 (by decide +kernel)
theorem d_96_41 : decode (cd 96) 41 = .ok (.iconst 3, 1) := by rw [cd_96]; decide +kernel
theorem e_96_41 {d : Nat} {h : mM} {L : mLs} {st : List Value} : ev d 96 41 L st h = ev d 96 42 L (.int 3 :: st) h := ev_of d_96_41 rfl
theorem d_96_42 : decode (cd 96) 42 = .ok (.iload_n 1, 1) := by rw [cd_96]; decide +kernel
theorem e_96_42 {d : Nat} {h : mM} {o0 : Option Value} {T : mLs} {x : Int32} {st : List Value} : ev d 96 42 (o0 :: some (.int x) :: T) st h = ev d 96 43 (o0 :: some (.int x) :: T) (.int x :: st) h := ev_of d_96_42 rfl
theorem d_96_43 : decode (cd 96) 43 = .ok (.imul, 1) := by rw [cd_96]; decide +kernel
theorem e_96_43 {d : Nat} {h : mM} {L : mLs} {st : List Value} {x y : Int32} : ev d 96 43 L (.int y :: .int x :: st) h = ev d 96 44 L (.int (x * y) :: st) h := ev_of d_96_43 rfl
theorem d_96_44 : decode (cd 96) 44 = .ok (.iload_n 2, 1) := by rw [cd_96]; decide +kernel
theorem e_96_44 {d : Nat} {h : mM} {o0 o1 : Option Value} {T : mLs} {x : Int32} {st : List Value} : ev d 96 44 (o0 :: o1 :: some (.int x) :: T) st h = ev d 96 45 (o0 :: o1 :: some (.int x) :: T) (.int x :: st) h := ev_of d_96_44 rfl
theorem d_96_45 : decode (cd 96) 45 = .ok (.iadd, 1) := by rw [cd_96]; decide +kernel
theorem e_96_45 {d : Nat} {h : mM} {L : mLs} {st : List Value} {x y : Int32} : ev d 96 45 L (.int y :: .int x :: st) h = ev d 96 46 L (.int (x + y) :: st) h := ev_of d_96_45 rfl
theorem d_96_46 : decode (cd 96) 46 = .ok (.istore 4, 2) := by rw [cd_96]; decide +kernel
theorem e_96_46 {d : Nat} {h : mM} {o0 o1 o2 o3 o4 : Option Value} {T : mLs} {x : Int32} {st : List Value} (hl : mLong o3 = false) : ev d 96 46 (o0 :: o1 :: o2 :: o3 :: o4 :: T) (.int x :: st) h = ev d 96 48 (o0 :: o1 :: o2 :: o3 :: some (.int x) :: T) st h := ev_st_i d_96_46 (by decide +kernel) (mS1_s (j := 3) hl)
theorem d_96_48 : decode (cd 96) 48 = .ok (.aload_n 0, 1) := by rw [cd_96]; decide +kernel
theorem e_96_48 {d : Nat} {h : mM} {T : mLs} {x : Nat} {st : List Value} : ev d 96 48 ( some (.ref x) :: T) st h = ev d 96 49 ( some (.ref x) :: T) (.ref x :: st) h := ev_of d_96_48 rfl
theorem d_96_49 : decode (cd 96) 49 = .ok (.getfield 144, 3) := by rw [cd_96]; decide +kernel
theorem e_96_49 {d : Nat} {h : mM} {L : mLs} {st : List Value} {a : Nat} : ev d 96 49 L (.ref a :: st) h = if mK h a = 10 then ev d 96 52 L (.int (mI h a 24) :: st) h else none := ev_gI d_96_49 (by decide +kernel) (by decide +kernel)
theorem d_96_52 : decode (cd 96) 52 = .ok (.iload 4, 2) := by rw [cd_96]; decide +kernel
theorem e_96_52 {d : Nat} {h : mM} {o0 o1 o2 o3 : Option Value} {T : mLs} {x : Int32} {st : List Value} : ev d 96 52 (o0 :: o1 :: o2 :: o3 :: some (.int x) :: T) st h = ev d 96 54 (o0 :: o1 :: o2 :: o3 :: some (.int x) :: T) (.int x :: st) h := ev_of d_96_52 rfl
theorem d_96_54 : decode (cd 96) 54 = .ok (.ishr, 1) := by rw [cd_96]; decide +kernel
theorem e_96_54 {d : Nat} {h : mM} {L : mLs} {st : List Value} {x y : Int32} : ev d 96 54 L (.int y :: .int x :: st) h = ev d 96 55 L (.int (x >>> (y &&& 31)) :: st) h := ev_of d_96_54 rfl
theorem d_96_55 : decode (cd 96) 55 = .ok (.iconst 1, 1) := by rw [cd_96]; decide +kernel
theorem e_96_55 {d : Nat} {h : mM} {L : mLs} {st : List Value} : ev d 96 55 L st h = ev d 96 56 L (.int 1 :: st) h := ev_of d_96_55 rfl
theorem d_96_56 : decode (cd 96) 56 = .ok (.iand, 1) := by rw [cd_96]; decide +kernel
theorem e_96_56 {d : Nat} {h : mM} {L : mLs} {st : List Value} {x y : Int32} : ev d 96 56 L (.int y :: .int x :: st) h = ev d 96 57 L (.int (x &&& y) :: st) h := ev_of d_96_56 rfl
theorem d_96_57 : decode (cd 96) 57 = .ok (.istore 5, 2) := by rw [cd_96]; decide +kernel
theorem e_96_57 {d : Nat} {h : mM} {o0 o1 o2 o3 o4 o5 : Option Value} {T : mLs} {x : Int32} {st : List Value} (hl : mLong o4 = false) : ev d 96 57 (o0 :: o1 :: o2 :: o3 :: o4 :: o5 :: T) (.int x :: st) h = ev d 96 59 (o0 :: o1 :: o2 :: o3 :: o4 :: some (.int x) :: T) st h := ev_st_i d_96_57 (by decide +kernel) (mS1_s (j := 4) hl)
theorem d_96_59 : decode (cd 96) 59 = .ok (.aload_n 0, 1) := by rw [cd_96]; decide +kernel
theorem e_96_59 {d : Nat} {h : mM} {T : mLs} {x : Nat} {st : List Value} : ev d 96 59 ( some (.ref x) :: T) st h = ev d 96 60 ( some (.ref x) :: T) (.ref x :: st) h := ev_of d_96_59 rfl
theorem d_96_60 : decode (cd 96) 60 = .ok (.aload_n 0, 1) := by rw [cd_96]; decide +kernel
theorem e_96_60 {d : Nat} {h : mM} {T : mLs} {x : Nat} {st : List Value} : ev d 96 60 ( some (.ref x) :: T) st h = ev d 96 61 ( some (.ref x) :: T) (.ref x :: st) h := ev_of d_96_60 rfl
theorem d_96_61 : decode (cd 96) 61 = .ok (.getfield 144, 3) := by rw [cd_96]; decide +kernel
theorem e_96_61 {d : Nat} {h : mM} {L : mLs} {st : List Value} {a : Nat} : ev d 96 61 L (.ref a :: st) h = if mK h a = 10 then ev d 96 64 L (.int (mI h a 24) :: st) h else none := ev_gI d_96_61 (by decide +kernel) (by decide +kernel)
theorem d_96_64 : decode (cd 96) 64 = .ok (.iconst 1, 1) := by rw [cd_96]; decide +kernel
theorem e_96_64 {d : Nat} {h : mM} {L : mLs} {st : List Value} : ev d 96 64 L st h = ev d 96 65 L (.int 1 :: st) h := ev_of d_96_64 rfl
theorem d_96_65 : decode (cd 96) 65 = .ok (.iload 4, 2) := by rw [cd_96]; decide +kernel
theorem e_96_65 {d : Nat} {h : mM} {o0 o1 o2 o3 : Option Value} {T : mLs} {x : Int32} {st : List Value} : ev d 96 65 (o0 :: o1 :: o2 :: o3 :: some (.int x) :: T) st h = ev d 96 67 (o0 :: o1 :: o2 :: o3 :: some (.int x) :: T) (.int x :: st) h := ev_of d_96_65 rfl
theorem d_96_67 : decode (cd 96) 67 = .ok (.ishl, 1) := by rw [cd_96]; decide +kernel
theorem e_96_67 {d : Nat} {h : mM} {L : mLs} {st : List Value} {x y : Int32} : ev d 96 67 L (.int y :: .int x :: st) h = ev d 96 68 L (.int (x <<< (y &&& 31)) :: st) h := ev_of d_96_67 rfl
theorem d_96_68 : decode (cd 96) 68 = .ok (.iconst (-1), 1) := by rw [cd_96]; decide +kernel
theorem e_96_68 {d : Nat} {h : mM} {L : mLs} {st : List Value} : ev d 96 68 L st h = ev d 96 69 L (.int (-1) :: st) h := ev_of d_96_68 rfl
theorem d_96_69 : decode (cd 96) 69 = .ok (.ixor, 1) := by rw [cd_96]; decide +kernel
theorem e_96_69 {d : Nat} {h : mM} {L : mLs} {st : List Value} {x y : Int32} : ev d 96 69 L (.int y :: .int x :: st) h = ev d 96 70 L (.int (x ^^^ y) :: st) h := ev_of d_96_69 rfl
theorem d_96_70 : decode (cd 96) 70 = .ok (.iand, 1) := by rw [cd_96]; decide +kernel
theorem e_96_70 {d : Nat} {h : mM} {L : mLs} {st : List Value} {x y : Int32} : ev d 96 70 L (.int y :: .int x :: st) h = ev d 96 71 L (.int (x &&& y) :: st) h := ev_of d_96_70 rfl
theorem d_96_71 : decode (cd 96) 71 = .ok (.iload_n 3, 1) := by rw [cd_96]; decide +kernel
theorem e_96_71 {d : Nat} {h : mM} {o0 o1 o2 : Option Value} {T : mLs} {x : Int32} {st : List Value} : ev d 96 71 (o0 :: o1 :: o2 :: some (.int x) :: T) st h = ev d 96 72 (o0 :: o1 :: o2 :: some (.int x) :: T) (.int x :: st) h := ev_of d_96_71 rfl
theorem d_96_72 : decode (cd 96) 72 = .ok (.iload 4, 2) := by rw [cd_96]; decide +kernel
theorem e_96_72 {d : Nat} {h : mM} {o0 o1 o2 o3 : Option Value} {T : mLs} {x : Int32} {st : List Value} : ev d 96 72 (o0 :: o1 :: o2 :: o3 :: some (.int x) :: T) st h = ev d 96 74 (o0 :: o1 :: o2 :: o3 :: some (.int x) :: T) (.int x :: st) h := ev_of d_96_72 rfl
theorem d_96_74 : decode (cd 96) 74 = .ok (.ishl, 1) := by rw [cd_96]; decide +kernel
theorem e_96_74 {d : Nat} {h : mM} {L : mLs} {st : List Value} {x y : Int32} : ev d 96 74 L (.int y :: .int x :: st) h = ev d 96 75 L (.int (x <<< (y &&& 31)) :: st) h := ev_of d_96_74 rfl
theorem d_96_75 : decode (cd 96) 75 = .ok (.ior, 1) := by rw [cd_96]; decide +kernel
theorem e_96_75 {d : Nat} {h : mM} {L : mLs} {st : List Value} {x y : Int32} : ev d 96 75 L (.int y :: .int x :: st) h = ev d 96 76 L (.int (x ||| y) :: st) h := ev_of d_96_75 rfl
theorem d_96_76 : decode (cd 96) 76 = .ok (.putfield 144, 3) := by rw [cd_96]; decide +kernel
theorem e_96_76 {d : Nat} {h : mM} {L : mLs} {st : List Value} {a : Nat} {v : Int32} : ev d 96 76 L (.int v :: .ref a :: st) h = if mK h a = 10 then ev d 96 79 L st (wI h a 24 v) else none := ev_pI d_96_76 (by decide +kernel) (by decide +kernel) (by decide +kernel)
theorem d_96_79 : decode (cd 96) 79 = .ok (.iload 5, 2) := by rw [cd_96]; decide +kernel
theorem e_96_79 {d : Nat} {h : mM} {o0 o1 o2 o3 o4 : Option Value} {T : mLs} {x : Int32} {st : List Value} : ev d 96 79 (o0 :: o1 :: o2 :: o3 :: o4 :: some (.int x) :: T) st h = ev d 96 81 (o0 :: o1 :: o2 :: o3 :: o4 :: some (.int x) :: T) (.int x :: st) h := ev_of d_96_79 rfl
theorem d_96_81 : decode (cd 96) 81 = .ok (.i2l, 1) := by rw [cd_96]; decide +kernel
theorem e_96_81 {d : Nat} {h : mM} {L : mLs} {st : List Value} {x : Int32} : ev d 96 81 L (.int x :: st) h = ev d 96 82 L (.long x.toInt64 :: st) h := ev_of d_96_81 rfl
theorem d_96_82 : decode (cd 96) 82 = .ok (.lreturn, 1) := by rw [cd_96]; decide +kernel
theorem e_96_82 {d : Nat} {h : mM} {L : mLs} {v : Int64} : ev d 96 82 L [.long v] h = some (some (.long v), h) := ev_rl d_96_82 (by decide +kernel)
-- 97: Model.sack
theorem cd_97 : cd 97 = prog_12_method_20_code := rfl
theorem d_97_0 : decode (cd 97) 0 = .ok (.aload_n 0, 1) := by rw [cd_97]; decide +kernel
theorem e_97_0 {d : Nat} {h : mM} {T : mLs} {x : Nat} {st : List Value} : ev d 97 0 ( some (.ref x) :: T) st h = ev d 97 1 ( some (.ref x) :: T) (.ref x :: st) h := ev_of d_97_0 rfl
theorem d_97_1 : decode (cd 97) 1 = .ok (.iload_n 1, 1) := by rw [cd_97]; decide +kernel
theorem e_97_1 {d : Nat} {h : mM} {o0 : Option Value} {T : mLs} {x : Int32} {st : List Value} : ev d 97 1 (o0 :: some (.int x) :: T) st h = ev d 97 2 (o0 :: some (.int x) :: T) (.int x :: st) h := ev_of d_97_1 rfl
theorem d_97_2 : decode (cd 97) 2 = .ok (.invokevirtual 139, 3) := by rw [cd_97]; decide +kernel
theorem e_97_2 {d : Nat} {h : mM} {L : mLs} {st : List Value} {a : Nat} {x0 : Int32} (hc : mCat st ≤ 8) : ev (d + 1) 97 2 L (.int x0 :: .ref a :: st) h = if mK h a = 10 then cV (ev d 82 0 [some (.ref a), some (.int x0)] [] h) (fun v h1 => ev (d + 1) 97 5 L (v ++ st) h1) else none := ev_cv (mj := 82) (as := [.int x0]) (rest := st) d_97_2 (by decide +kernel) rfl rfl (by show _ ≤ List.length _; simp only [List.length_cons]; have : na 82 = 1 := rfl; omega) rfl (Nat.le_of_ble_eq_true rfl) hc
theorem d_97_5 : decode (cd 97) 5 = .ok (.ifCond .eq 33, 3) := by rw [cd_97]; decide +kernel
theorem e_97_5 {d : Nat} {h : mM} {L : mLs} {st : List Value} {x : Int32} : ev d 97 5 L (.int x :: st) h = if x = 0 then ev d 97 38 L st h else ev d 97 8 L st h := ev_if (x = 0) inferInstance rfl d_97_5 (by decide)
theorem d_97_8 : decode (cd 97) 8 = .ok (.iload_n 2, 1) := by rw [cd_97]; decide +kernel
theorem e_97_8 {d : Nat} {h : mM} {o0 o1 : Option Value} {T : mLs} {x : Int32} {st : List Value} : ev d 97 8 (o0 :: o1 :: some (.int x) :: T) st h = ev d 97 9 (o0 :: o1 :: some (.int x) :: T) (.int x :: st) h := ev_of d_97_8 rfl
theorem d_97_9 : decode (cd 97) 9 = .ok (.iconst 0, 1) := by rw [cd_97]; decide +kernel
theorem e_97_9 {d : Nat} {h : mM} {L : mLs} {st : List Value} : ev d 97 9 L st h = ev d 97 10 L (.int 0 :: st) h := ev_of d_97_9 rfl
theorem d_97_10 : decode (cd 97) 10 = .ok (.bipush 9, 2) := by rw [cd_97]; decide +kernel
theorem e_97_10 {d : Nat} {h : mM} {L : mLs} {st : List Value} : ev d 97 10 L st h = ev d 97 12 L (.int 9 :: st) h := ev_of d_97_10 rfl
theorem d_97_12 : decode (cd 97) 12 = .ok (.invokestatic 114, 3) := by rw [cd_97]; decide +kernel
theorem e_97_12 {d : Nat} {h : mM} {L : mLs} {st : List Value} {x0 : Int32} {x1 : Int32} {x2 : Int32} (hc : mCat st ≤ 8) : ev (d + 1) 97 12 L (.int x2 :: .int x1 :: .int x0 :: st) h = cV (ev d 80 0 [some (.int x0), some (.int x1), some (.int x2)] [] h) (fun v h1 => ev (d + 1) 97 15 L (v ++ st) h1) := ev_cs (kd := 1) (mj := 80) (as := [.int x0, .int x1, .int x2]) (rest := st) d_97_12 (by decide +kernel) (by decide) rfl rfl (by show _ ≤ List.length _; simp only [List.length_cons]; have : na 80 = 3 := rfl; omega) rfl (Nat.le_of_ble_eq_true rfl) hc
theorem d_97_15 : decode (cd 97) 15 = .ok (.ifCond .eq 23, 3) := by rw [cd_97]; decide +kernel
theorem e_97_15 {d : Nat} {h : mM} {L : mLs} {st : List Value} {x : Int32} : ev d 97 15 L (.int x :: st) h = if x = 0 then ev d 97 38 L st h else ev d 97 18 L st h := ev_if (x = 0) inferInstance rfl d_97_15 (by decide)
theorem d_97_18 : decode (cd 97) 18 = .ok (.iload_n 3, 1) := by rw [cd_97]; decide +kernel
theorem e_97_18 {d : Nat} {h : mM} {o0 o1 o2 : Option Value} {T : mLs} {x : Int32} {st : List Value} : ev d 97 18 (o0 :: o1 :: o2 :: some (.int x) :: T) st h = ev d 97 19 (o0 :: o1 :: o2 :: some (.int x) :: T) (.int x :: st) h := ev_of d_97_18 rfl
theorem d_97_19 : decode (cd 97) 19 = .ok (.iconst 1, 1) := by rw [cd_97]; decide +kernel
theorem e_97_19 {d : Nat} {h : mM} {L : mLs} {st : List Value} : ev d 97 19 L st h = ev d 97 20 L (.int 1 :: st) h := ev_of d_97_19 rfl
theorem d_97_20 : decode (cd 97) 20 = .ok (.sipush 2000, 3) := by rw [cd_97]; decide +kernel
theorem e_97_20 {d : Nat} {h : mM} {L : mLs} {st : List Value} : ev d 97 20 L st h = ev d 97 23 L (.int 2000 :: st) h := ev_of d_97_20 rfl
theorem d_97_23 : decode (cd 97) 23 = .ok (.invokestatic 114, 3) := by rw [cd_97]; decide +kernel
theorem e_97_23 {d : Nat} {h : mM} {L : mLs} {st : List Value} {x0 : Int32} {x1 : Int32} {x2 : Int32} (hc : mCat st ≤ 8) : ev (d + 1) 97 23 L (.int x2 :: .int x1 :: .int x0 :: st) h = cV (ev d 80 0 [some (.int x0), some (.int x1), some (.int x2)] [] h) (fun v h1 => ev (d + 1) 97 26 L (v ++ st) h1) := ev_cs (kd := 1) (mj := 80) (as := [.int x0, .int x1, .int x2]) (rest := st) d_97_23 (by decide +kernel) (by decide) rfl rfl (by show _ ≤ List.length _; simp only [List.length_cons]; have : na 80 = 3 := rfl; omega) rfl (Nat.le_of_ble_eq_true rfl) hc
theorem d_97_26 : decode (cd 97) 26 = .ok (.ifCond .eq 12, 3) := by rw [cd_97]; decide +kernel
theorem e_97_26 {d : Nat} {h : mM} {L : mLs} {st : List Value} {x : Int32} : ev d 97 26 L (.int x :: st) h = if x = 0 then ev d 97 38 L st h else ev d 97 29 L st h := ev_if (x = 0) inferInstance rfl d_97_26 (by decide)
theorem d_97_29 : decode (cd 97) 29 = .ok (.iload 4, 2) := by rw [cd_97]; decide +kernel
theorem e_97_29 {d : Nat} {h : mM} {o0 o1 o2 o3 : Option Value} {T : mLs} {x : Int32} {st : List Value} : ev d 97 29 (o0 :: o1 :: o2 :: o3 :: some (.int x) :: T) st h = ev d 97 31 (o0 :: o1 :: o2 :: o3 :: some (.int x) :: T) (.int x :: st) h := ev_of d_97_29 rfl
theorem d_97_31 : decode (cd 97) 31 = .ok (.aload_n 0, 1) := by rw [cd_97]; decide +kernel
theorem e_97_31 {d : Nat} {h : mM} {T : mLs} {x : Nat} {st : List Value} : ev d 97 31 ( some (.ref x) :: T) st h = ev d 97 32 ( some (.ref x) :: T) (.ref x :: st) h := ev_of d_97_31 rfl
theorem d_97_32 : decode (cd 97) 32 = .ok (.getfield 147, 3) := by rw [cd_97]; decide +kernel
theorem e_97_32 {d : Nat} {h : mM} {L : mLs} {st : List Value} {a : Nat} : ev d 97 32 L (.ref a :: st) h = if mK h a = 10 then ev d 97 35 L (.int (mI h a 0) :: st) h else none := ev_gI d_97_32 (by decide +kernel) (by decide +kernel)
theorem d_97_35 : decode (cd 97) 35 = .ok (.if_icmp .ge 11, 3) := by rw [cd_97]; decide +kernel
theorem e_97_35 {d : Nat} {h : mM} {L : mLs} {st : List Value} {x y : Int32} : ev d 97 35 L (.int y :: .int x :: st) h = if y ≤ x then ev d 97 46 L st h else ev d 97 38 L st h := ev_ic (y ≤ x) inferInstance rfl d_97_35 (by decide)
theorem d_97_38 : decode (cd 97) 38 = .ok (.aload_n 0, 1) := by rw [cd_97]; decide +kernel
theorem e_97_38 {d : Nat} {h : mM} {T : mLs} {x : Nat} {st : List Value} : ev d 97 38 ( some (.ref x) :: T) st h = ev d 97 39 ( some (.ref x) :: T) (.ref x :: st) h := ev_of d_97_38 rfl
theorem d_97_39 : decode (cd 97) 39 = .ok (.ldc2_w 121, 3) := by rw [cd_97]; decide +kernel
theorem e_97_39 {d : Nat} {h : mM} {L : mLs} {st : List Value} : ev d 97 39 L st h = ev d 97 42 L (.long (-1000000001) :: st) h := ev_of d_97_39 rfl
theorem d_97_42 : decode (cd 97) 42 = .ok (.invokevirtual 123, 3) := by rw [cd_97]; decide +kernel
theorem e_97_42 {d : Nat} {h : mM} {L : mLs} {st : List Value} {a : Nat} {x0 : Int64} (hc : mCat st ≤ 8) : ev (d + 1) 97 42 L (.long x0 :: .ref a :: st) h = if mK h a = 10 then cV (ev d 79 0 [some (.ref a), some (.long x0), none] [] h) (fun v h1 => ev (d + 1) 97 45 L (v ++ st) h1) else none := ev_cv (mj := 79) (as := [.long x0]) (rest := st) d_97_42 (by decide +kernel) rfl rfl (by show _ ≤ List.length _; simp only [List.length_cons]; have : na 79 = 1 := rfl; omega) rfl (Nat.le_of_ble_eq_true rfl) hc
theorem d_97_45 : decode (cd 97) 45 = .ok (.lreturn, 1) := by rw [cd_97]; decide +kernel
theorem e_97_45 {d : Nat} {h : mM} {L : mLs} {v : Int64} : ev d 97 45 L [.long v] h = some (some (.long v), h) := ev_rl d_97_45 (by decide +kernel)
theorem d_97_46 : decode (cd 97) 46 = .ok (.aload_n 0, 1) := by rw [cd_97]; decide +kernel
theorem e_97_46 {d : Nat} {h : mM} {T : mLs} {x : Nat} {st : List Value} : ev d 97 46 ( some (.ref x) :: T) st h = ev d 97 47 ( some (.ref x) :: T) (.ref x :: st) h := ev_of d_97_46 rfl
theorem d_97_47 : decode (cd 97) 47 = .ok (.getfield 41, 3) := by rw [cd_97]; decide +kernel
theorem e_97_47 {d : Nat} {h : mM} {L : mLs} {st : List Value} {a : Nat} : ev d 97 47 L (.ref a :: st) h = if mK h a = 10 then oB (mR h a 14) (fun b => ev d 97 50 L (.ref b :: st) h) else none := ev_gR d_97_47 (by decide +kernel) (by decide +kernel)
theorem d_97_50 : decode (cd 97) 50 = .ok (.iload_n 1, 1) := by rw [cd_97]; decide +kernel
theorem e_97_50 {d : Nat} {h : mM} {o0 : Option Value} {T : mLs} {x : Int32} {st : List Value} : ev d 97 50 (o0 :: some (.int x) :: T) st h = ev d 97 51 (o0 :: some (.int x) :: T) (.int x :: st) h := ev_of d_97_50 rfl
theorem d_97_51 : decode (cd 97) 51 = .ok (.iaload, 1) := by rw [cd_97]; decide +kernel
theorem e_97_51 {d : Nat} {h : mM} {L : mLs} {st : List Value} {a : Nat} {i : Int32} : ev d 97 51 L (.int i :: .ref a :: st) h = if (mK h a = 11 ∨ mK h a = 19) ∧ ixOK i (mL h a) = true then ev d 97 52 L (.int (mI h a i.toNatClampNeg) :: st) h else none := ev_ia d_97_51
theorem d_97_52 : decode (cd 97) 52 = .ok (.iconst 2, 1) := by rw [cd_97]; decide +kernel
theorem e_97_52 {d : Nat} {h : mM} {L : mLs} {st : List Value} : ev d 97 52 L st h = ev d 97 53 L (.int 2 :: st) h := ev_of d_97_52 rfl
theorem d_97_53 : decode (cd 97) 53 = .ok (.if_icmp .ne 11, 3) := by rw [cd_97]; decide +kernel
theorem e_97_53 {d : Nat} {h : mM} {L : mLs} {st : List Value} {x y : Int32} : ev d 97 53 L (.int y :: .int x :: st) h = if ¬ x = y then ev d 97 64 L st h else ev d 97 56 L st h := ev_ic (¬ x = y) inferInstance rfl d_97_53 (by decide)
theorem d_97_56 : decode (cd 97) 56 = .ok (.aload_n 0, 1) := by rw [cd_97]; decide +kernel
theorem e_97_56 {d : Nat} {h : mM} {T : mLs} {x : Nat} {st : List Value} : ev d 97 56 ( some (.ref x) :: T) st h = ev d 97 57 ( some (.ref x) :: T) (.ref x :: st) h := ev_of d_97_56 rfl
theorem d_97_57 : decode (cd 97) 57 = .ok (.ldc2_w 142, 3) := by rw [cd_97]; decide +kernel
theorem e_97_57 {d : Nat} {h : mM} {L : mLs} {st : List Value} : ev d 97 57 L st h = ev d 97 60 L (.long (-1000000005) :: st) h := ev_of d_97_57 rfl
theorem d_97_60 : decode (cd 97) 60 = .ok (.invokevirtual 123, 3) := by rw [cd_97]; decide +kernel
theorem e_97_60 {d : Nat} {h : mM} {L : mLs} {st : List Value} {a : Nat} {x0 : Int64} (hc : mCat st ≤ 8) : ev (d + 1) 97 60 L (.long x0 :: .ref a :: st) h = if mK h a = 10 then cV (ev d 79 0 [some (.ref a), some (.long x0), none] [] h) (fun v h1 => ev (d + 1) 97 63 L (v ++ st) h1) else none := ev_cv (mj := 79) (as := [.long x0]) (rest := st) d_97_60 (by decide +kernel) rfl rfl (by show _ ≤ List.length _; simp only [List.length_cons]; have : na 79 = 1 := rfl; omega) rfl (Nat.le_of_ble_eq_true rfl) hc
theorem d_97_63 : decode (cd 97) 63 = .ok (.lreturn, 1) := by rw [cd_97]; decide +kernel
theorem e_97_63 {d : Nat} {h : mM} {L : mLs} {v : Int64} : ev d 97 63 L [.long v] h = some (some (.long v), h) := ev_rl d_97_63 (by decide +kernel)
theorem d_97_64 : decode (cd 97) 64 = .ok (.aload_n 0, 1) := by rw [cd_97]; decide +kernel
theorem e_97_64 {d : Nat} {h : mM} {T : mLs} {x : Nat} {st : List Value} : ev d 97 64 ( some (.ref x) :: T) st h = ev d 97 65 ( some (.ref x) :: T) (.ref x :: st) h := ev_of d_97_64 rfl
theorem d_97_65 : decode (cd 97) 65 = .ok (.getfield 41, 3) := by rw [cd_97]; decide +kernel
theorem e_97_65 {d : Nat} {h : mM} {L : mLs} {st : List Value} {a : Nat} : ev d 97 65 L (.ref a :: st) h = if mK h a = 10 then oB (mR h a 14) (fun b => ev d 97 68 L (.ref b :: st) h) else none := ev_gR d_97_65 (by decide +kernel) (by decide +kernel)
theorem d_97_68 : decode (cd 97) 68 = .ok (.iload_n 1, 1) := by rw [cd_97]; decide +kernel
theorem e_97_68 {d : Nat} {h : mM} {o0 : Option Value} {T : mLs} {x : Int32} {st : List Value} : ev d 97 68 (o0 :: some (.int x) :: T) st h = ev d 97 69 (o0 :: some (.int x) :: T) (.int x :: st) h := ev_of d_97_68 rfl
theorem d_97_69 : decode (cd 97) 69 = .ok (.iaload, 1) := by rw [cd_97]; decide +kernel
theorem e_97_69 {d : Nat} {h : mM} {L : mLs} {st : List Value} {a : Nat} {i : Int32} : ev d 97 69 L (.int i :: .ref a :: st) h = if (mK h a = 11 ∨ mK h a = 19) ∧ ixOK i (mL h a) = true then ev d 97 70 L (.int (mI h a i.toNatClampNeg) :: st) h else none := ev_ia d_97_69
theorem d_97_70 : decode (cd 97) 70 = .ok (.iconst 1, 1) := by rw [cd_97]; decide +kernel
theorem e_97_70 {d : Nat} {h : mM} {L : mLs} {st : List Value} : ev d 97 70 L st h = ev d 97 71 L (.int 1 :: st) h := ev_of d_97_70 rfl
theorem d_97_71 : decode (cd 97) 71 = .ok (.if_icmp .ne 21, 3) := by rw [cd_97]; decide +kernel
theorem e_97_71 {d : Nat} {h : mM} {L : mLs} {st : List Value} {x y : Int32} : ev d 97 71 L (.int y :: .int x :: st) h = if ¬ x = y then ev d 97 92 L st h else ev d 97 74 L st h := ev_ic (¬ x = y) inferInstance rfl d_97_71 (by decide)
theorem d_97_74 : decode (cd 97) 74 = .ok (.aload_n 0, 1) := by rw [cd_97]; decide +kernel
theorem e_97_74 {d : Nat} {h : mM} {T : mLs} {x : Nat} {st : List Value} : ev d 97 74 ( some (.ref x) :: T) st h = ev d 97 75 ( some (.ref x) :: T) (.ref x :: st) h := ev_of d_97_74 rfl
theorem d_97_75 : decode (cd 97) 75 = .ok (.getfield 53, 3) := by rw [cd_97]; decide +kernel
theorem e_97_75 {d : Nat} {h : mM} {L : mLs} {st : List Value} {a : Nat} : ev d 97 75 L (.ref a :: st) h = if mK h a = 10 then oB (mR h a 18) (fun b => ev d 97 78 L (.ref b :: st) h) else none := ev_gR d_97_75 (by decide +kernel) (by decide +kernel)
theorem d_97_78 : decode (cd 97) 78 = .ok (.iload_n 1, 1) := by rw [cd_97]; decide +kernel
theorem e_97_78 {d : Nat} {h : mM} {o0 : Option Value} {T : mLs} {x : Int32} {st : List Value} : ev d 97 78 (o0 :: some (.int x) :: T) st h = ev d 97 79 (o0 :: some (.int x) :: T) (.int x :: st) h := ev_of d_97_78 rfl
theorem d_97_79 : decode (cd 97) 79 = .ok (.iaload, 1) := by rw [cd_97]; decide +kernel
theorem e_97_79 {d : Nat} {h : mM} {L : mLs} {st : List Value} {a : Nat} {i : Int32} : ev d 97 79 L (.int i :: .ref a :: st) h = if (mK h a = 11 ∨ mK h a = 19) ∧ ixOK i (mL h a) = true then ev d 97 80 L (.int (mI h a i.toNatClampNeg) :: st) h else none := ev_ia d_97_79
theorem d_97_80 : decode (cd 97) 80 = .ok (.iload_n 2, 1) := by rw [cd_97]; decide +kernel
theorem e_97_80 {d : Nat} {h : mM} {o0 o1 : Option Value} {T : mLs} {x : Int32} {st : List Value} : ev d 97 80 (o0 :: o1 :: some (.int x) :: T) st h = ev d 97 81 (o0 :: o1 :: some (.int x) :: T) (.int x :: st) h := ev_of d_97_80 rfl
theorem d_97_81 : decode (cd 97) 81 = .ok (.if_icmp .eq 11, 3) := by rw [cd_97]; decide +kernel
theorem e_97_81 {d : Nat} {h : mM} {L : mLs} {st : List Value} {x y : Int32} : ev d 97 81 L (.int y :: .int x :: st) h = if x = y then ev d 97 92 L st h else ev d 97 84 L st h := ev_ic (x = y) inferInstance rfl d_97_81 (by decide)
theorem d_97_84 : decode (cd 97) 84 = .ok (.aload_n 0, 1) := by rw [cd_97]; decide +kernel
theorem e_97_84 {d : Nat} {h : mM} {T : mLs} {x : Nat} {st : List Value} : ev d 97 84 ( some (.ref x) :: T) st h = ev d 97 85 ( some (.ref x) :: T) (.ref x :: st) h := ev_of d_97_84 rfl
theorem d_97_85 : decode (cd 97) 85 = .ok (.ldc2_w 150, 3) := by rw [cd_97]; decide +kernel
theorem e_97_85 {d : Nat} {h : mM} {L : mLs} {st : List Value} : ev d 97 85 L st h = ev d 97 88 L (.long (-1000000003) :: st) h := ev_of d_97_85 rfl
theorem d_97_88 : decode (cd 97) 88 = .ok (.invokevirtual 123, 3) := by rw [cd_97]; decide +kernel
theorem e_97_88 {d : Nat} {h : mM} {L : mLs} {st : List Value} {a : Nat} {x0 : Int64} (hc : mCat st ≤ 8) : ev (d + 1) 97 88 L (.long x0 :: .ref a :: st) h = if mK h a = 10 then cV (ev d 79 0 [some (.ref a), some (.long x0), none] [] h) (fun v h1 => ev (d + 1) 97 91 L (v ++ st) h1) else none := ev_cv (mj := 79) (as := [.long x0]) (rest := st) d_97_88 (by decide +kernel) rfl rfl (by show _ ≤ List.length _; simp only [List.length_cons]; have : na 79 = 1 := rfl; omega) rfl (Nat.le_of_ble_eq_true rfl) hc
theorem d_97_91 : decode (cd 97) 91 = .ok (.lreturn, 1) := by rw [cd_97]; decide +kernel
theorem e_97_91 {d : Nat} {h : mM} {L : mLs} {v : Int64} : ev d 97 91 L [.long v] h = some (some (.long v), h) := ev_rl d_97_91 (by decide +kernel)
theorem d_97_92 : decode (cd 97) 92 = .ok (.aload_n 0, 1) := by rw [cd_97]; decide +kernel
theorem e_97_92 {d : Nat} {h : mM} {T : mLs} {x : Nat} {st : List Value} : ev d 97 92 ( some (.ref x) :: T) st h = ev d 97 93 ( some (.ref x) :: T) (.ref x :: st) h := ev_of d_97_92 rfl
theorem d_97_93 : decode (cd 97) 93 = .ok (.getfield 71, 3) := by rw [cd_97]; decide +kernel
theorem e_97_93 {d : Nat} {h : mM} {L : mLs} {st : List Value} {a : Nat} : ev d 97 93 L (.ref a :: st) h = if mK h a = 10 then oB (mR h a 25) (fun b => ev d 97 96 L (.ref b :: st) h) else none := ev_gR d_97_93 (by decide +kernel) (by decide +kernel)
theorem d_97_96 : decode (cd 97) 96 = .ok (.iload_n 1, 1) := by rw [cd_97]; decide +kernel
theorem e_97_96 {d : Nat} {h : mM} {o0 : Option Value} {T : mLs} {x : Int32} {st : List Value} : ev d 97 96 (o0 :: some (.int x) :: T) st h = ev d 97 97 (o0 :: some (.int x) :: T) (.int x :: st) h := ev_of d_97_96 rfl
theorem d_97_97 : decode (cd 97) 97 = .ok (.iaload, 1) := by rw [cd_97]; decide +kernel
theorem e_97_97 {d : Nat} {h : mM} {L : mLs} {st : List Value} {a : Nat} {i : Int32} : ev d 97 97 L (.int i :: .ref a :: st) h = if (mK h a = 11 ∨ mK h a = 19) ∧ ixOK i (mL h a) = true then ev d 97 98 L (.int (mI h a i.toNatClampNeg) :: st) h else none := ev_ia d_97_97
theorem d_97_98 : decode (cd 97) 98 = .ok (.bipush 12, 2) := by rw [cd_97]; decide +kernel
theorem e_97_98 {d : Nat} {h : mM} {L : mLs} {st : List Value} : ev d 97 98 L st h = ev d 97 100 L (.int 12 :: st) h := ev_of d_97_98 rfl
theorem d_97_100 : decode (cd 97) 100 = .ok (.if_icmp .ne 11, 3) := by rw [cd_97]; decide +kernel
theorem e_97_100 {d : Nat} {h : mM} {L : mLs} {st : List Value} {x y : Int32} : ev d 97 100 L (.int y :: .int x :: st) h = if ¬ x = y then ev d 97 111 L st h else ev d 97 103 L st h := ev_ic (¬ x = y) inferInstance rfl d_97_100 (by decide)
theorem d_97_103 : decode (cd 97) 103 = .ok (.aload_n 0, 1) := by rw [cd_97]; decide +kernel
theorem e_97_103 {d : Nat} {h : mM} {T : mLs} {x : Nat} {st : List Value} : ev d 97 103 ( some (.ref x) :: T) st h = ev d 97 104 ( some (.ref x) :: T) (.ref x :: st) h := ev_of d_97_103 rfl
theorem d_97_104 : decode (cd 97) 104 = .ok (.ldc2_w 130, 3) := by rw [cd_97]; decide +kernel
theorem e_97_104 {d : Nat} {h : mM} {L : mLs} {st : List Value} : ev d 97 104 L st h = ev d 97 107 L (.long (-1000000004) :: st) h := ev_of d_97_104 rfl
theorem d_97_107 : decode (cd 97) 107 = .ok (.invokevirtual 123, 3) := by rw [cd_97]; decide +kernel
theorem e_97_107 {d : Nat} {h : mM} {L : mLs} {st : List Value} {a : Nat} {x0 : Int64} (hc : mCat st ≤ 8) : ev (d + 1) 97 107 L (.long x0 :: .ref a :: st) h = if mK h a = 10 then cV (ev d 79 0 [some (.ref a), some (.long x0), none] [] h) (fun v h1 => ev (d + 1) 97 110 L (v ++ st) h1) else none := ev_cv (mj := 79) (as := [.long x0]) (rest := st) d_97_107 (by decide +kernel) rfl rfl (by show _ ≤ List.length _; simp only [List.length_cons]; have : na 79 = 1 := rfl; omega) rfl (Nat.le_of_ble_eq_true rfl) hc
theorem d_97_110 : decode (cd 97) 110 = .ok (.lreturn, 1) := by rw [cd_97]; decide +kernel
theorem e_97_110 {d : Nat} {h : mM} {L : mLs} {v : Int64} : ev d 97 110 L [.long v] h = some (some (.long v), h) := ev_rl d_97_110 (by decide +kernel)
theorem d_97_111 : decode (cd 97) 111 = .ok (.iconst 4, 1) := by rw [cd_97]; decide +kernel
theorem e_97_111 {d : Nat} {h : mM} {L : mLs} {st : List Value} : ev d 97 111 L st h = ev d 97 112 L (.int 4 :: st) h := ev_of d_97_111 rfl
theorem d_97_112 : decode (cd 97) 112 = .ok (.bipush 12, 2) := by rw [cd_97]; decide +kernel
theorem e_97_112 {d : Nat} {h : mM} {L : mLs} {st : List Value} : ev d 97 112 L st h = ev d 97 114 L (.int 12 :: st) h := ev_of d_97_112 rfl
theorem d_97_114 : decode (cd 97) 114 = .ok (.iload_n 1, 1) := by rw [cd_97]; decide +kernel
theorem e_97_114 {d : Nat} {h : mM} {o0 : Option Value} {T : mLs} {x : Int32} {st : List Value} : ev d 97 114 (o0 :: some (.int x) :: T) st h = ev d 97 115 (o0 :: some (.int x) :: T) (.int x :: st) h := ev_of d_97_114 rfl
theorem d_97_115 : decode (cd 97) 115 = .ok (.imul, 1) := by rw [cd_97]; decide +kernel
theorem e_97_115 {d : Nat} {h : mM} {L : mLs} {st : List Value} {x y : Int32} : ev d 97 115 L (.int y :: .int x :: st) h = ev d 97 116 L (.int (x * y) :: st) h := ev_of d_97_115 rfl
theorem d_97_116 : decode (cd 97) 116 = .ok (.aload_n 0, 1) := by rw [cd_97]; decide +kernel
theorem e_97_116 {d : Nat} {h : mM} {T : mLs} {x : Nat} {st : List Value} : ev d 97 116 ( some (.ref x) :: T) st h = ev d 97 117 ( some (.ref x) :: T) (.ref x :: st) h := ev_of d_97_116 rfl
theorem d_97_117 : decode (cd 97) 117 = .ok (.getfield 71, 3) := by rw [cd_97]; decide +kernel
theorem e_97_117 {d : Nat} {h : mM} {L : mLs} {st : List Value} {a : Nat} : ev d 97 117 L (.ref a :: st) h = if mK h a = 10 then oB (mR h a 25) (fun b => ev d 97 120 L (.ref b :: st) h) else none := ev_gR d_97_117 (by decide +kernel) (by decide +kernel)
theorem d_97_120 : decode (cd 97) 120 = .ok (.iload_n 1, 1) := by rw [cd_97]; decide +kernel
theorem e_97_120 {d : Nat} {h : mM} {o0 : Option Value} {T : mLs} {x : Int32} {st : List Value} : ev d 97 120 (o0 :: some (.int x) :: T) st h = ev d 97 121 (o0 :: some (.int x) :: T) (.int x :: st) h := ev_of d_97_120 rfl
theorem d_97_121 : decode (cd 97) 121 = .ok (.iaload, 1) := by rw [cd_97]; decide +kernel
theorem e_97_121 {d : Nat} {h : mM} {L : mLs} {st : List Value} {a : Nat} {i : Int32} : ev d 97 121 L (.int i :: .ref a :: st) h = if (mK h a = 11 ∨ mK h a = 19) ∧ ixOK i (mL h a) = true then ev d 97 122 L (.int (mI h a i.toNatClampNeg) :: st) h else none := ev_ia d_97_121
theorem d_97_122 : decode (cd 97) 122 = .ok (.iadd, 1) := by rw [cd_97]; decide +kernel
theorem e_97_122 {d : Nat} {h : mM} {L : mLs} {st : List Value} {x y : Int32} : ev d 97 122 L (.int y :: .int x :: st) h = ev d 97 123 L (.int (x + y) :: st) h := ev_of d_97_122 rfl
theorem d_97_123 : decode (cd 97) 123 = .ok (.imul, 1) := by rw [cd_97]; decide +kernel
theorem e_97_123 {d : Nat} {h : mM} {L : mLs} {st : List Value} {x y : Int32} : ev d 97 123 L (.int y :: .int x :: st) h = ev d 97 124 L (.int (x * y) :: st) h := ev_of d_97_123 rfl
theorem d_97_124 : decode (cd 97) 124 = .ok (.istore 5, 2) := by rw [cd_97]; decide +kernel
theorem e_97_124 {d : Nat} {h : mM} {o0 o1 o2 o3 o4 o5 : Option Value} {T : mLs} {x : Int32} {st : List Value} (hl : mLong o4 = false) : ev d 97 124 (o0 :: o1 :: o2 :: o3 :: o4 :: o5 :: T) (.int x :: st) h = ev d 97 126 (o0 :: o1 :: o2 :: o3 :: o4 :: some (.int x) :: T) st h := ev_st_i d_97_124 (by decide +kernel) (mS1_s (j := 4) hl)
theorem d_97_126 : decode (cd 97) 126 = .ok (.aload_n 0, 1) := by rw [cd_97]; decide +kernel
theorem e_97_126 {d : Nat} {h : mM} {T : mLs} {x : Nat} {st : List Value} : ev d 97 126 ( some (.ref x) :: T) st h = ev d 97 127 ( some (.ref x) :: T) (.ref x :: st) h := ev_of d_97_126 rfl
theorem d_97_127 : decode (cd 97) 127 = .ok (.getfield 74, 3) := by rw [cd_97]; decide +kernel
theorem e_97_127 {d : Nat} {h : mM} {L : mLs} {st : List Value} {a : Nat} : ev d 97 127 L (.ref a :: st) h = if mK h a = 10 then oB (mR h a 26) (fun b => ev d 97 130 L (.ref b :: st) h) else none := ev_gR d_97_127 (by decide +kernel) (by decide +kernel)
theorem d_97_130 : decode (cd 97) 130 = .ok (.iload 5, 2) := by rw [cd_97]; decide +kernel
theorem e_97_130 {d : Nat} {h : mM} {o0 o1 o2 o3 o4 : Option Value} {T : mLs} {x : Int32} {st : List Value} : ev d 97 130 (o0 :: o1 :: o2 :: o3 :: o4 :: some (.int x) :: T) st h = ev d 97 132 (o0 :: o1 :: o2 :: o3 :: o4 :: some (.int x) :: T) (.int x :: st) h := ev_of d_97_130 rfl
theorem d_97_132 : decode (cd 97) 132 = .ok (.iload_n 2, 1) := by rw [cd_97]; decide +kernel
theorem e_97_132 {d : Nat} {h : mM} {o0 o1 : Option Value} {T : mLs} {x : Int32} {st : List Value} : ev d 97 132 (o0 :: o1 :: some (.int x) :: T) st h = ev d 97 133 (o0 :: o1 :: some (.int x) :: T) (.int x :: st) h := ev_of d_97_132 rfl
theorem d_97_133 : decode (cd 97) 133 = .ok (.iastore, 1) := by rw [cd_97]; decide +kernel
theorem e_97_133 {d : Nat} {h : mM} {L : mLs} {st : List Value} {a : Nat} {i v : Int32} : ev d 97 133 L (.int v :: .int i :: .ref a :: st) h = if mK h a = 11 ∧ ixOK i (mL h a) = true then ev d 97 134 L st (wI h a i.toNatClampNeg v) else none := ev_is d_97_133
theorem d_97_134 : decode (cd 97) 134 = .ok (.aload_n 0, 1) := by rw [cd_97]; decide +kernel
theorem e_97_134 {d : Nat} {h : mM} {T : mLs} {x : Nat} {st : List Value} : ev d 97 134 ( some (.ref x) :: T) st h = ev d 97 135 ( some (.ref x) :: T) (.ref x :: st) h := ev_of d_97_134 rfl
theorem d_97_135 : decode (cd 97) 135 = .ok (.getfield 74, 3) := by rw [cd_97]; decide +kernel
theorem e_97_135 {d : Nat} {h : mM} {L : mLs} {st : List Value} {a : Nat} : ev d 97 135 L (.ref a :: st) h = if mK h a = 10 then oB (mR h a 26) (fun b => ev d 97 138 L (.ref b :: st) h) else none := ev_gR d_97_135 (by decide +kernel) (by decide +kernel)
theorem d_97_138 : decode (cd 97) 138 = .ok (.iload 5, 2) := by rw [cd_97]; decide +kernel
theorem e_97_138 {d : Nat} {h : mM} {o0 o1 o2 o3 o4 : Option Value} {T : mLs} {x : Int32} {st : List Value} : ev d 97 138 (o0 :: o1 :: o2 :: o3 :: o4 :: some (.int x) :: T) st h = ev d 97 140 (o0 :: o1 :: o2 :: o3 :: o4 :: some (.int x) :: T) (.int x :: st) h := ev_of d_97_138 rfl
theorem d_97_140 : decode (cd 97) 140 = .ok (.iconst 1, 1) := by rw [cd_97]; decide +kernel
theorem e_97_140 {d : Nat} {h : mM} {L : mLs} {st : List Value} : ev d 97 140 L st h = ev d 97 141 L (.int 1 :: st) h := ev_of d_97_140 rfl
theorem d_97_141 : decode (cd 97) 141 = .ok (.iadd, 1) := by rw [cd_97]; decide +kernel
theorem e_97_141 {d : Nat} {h : mM} {L : mLs} {st : List Value} {x y : Int32} : ev d 97 141 L (.int y :: .int x :: st) h = ev d 97 142 L (.int (x + y) :: st) h := ev_of d_97_141 rfl
theorem d_97_142 : decode (cd 97) 142 = .ok (.iload_n 3, 1) := by rw [cd_97]; decide +kernel
theorem e_97_142 {d : Nat} {h : mM} {o0 o1 o2 : Option Value} {T : mLs} {x : Int32} {st : List Value} : ev d 97 142 (o0 :: o1 :: o2 :: some (.int x) :: T) st h = ev d 97 143 (o0 :: o1 :: o2 :: some (.int x) :: T) (.int x :: st) h := ev_of d_97_142 rfl
theorem d_97_143 : decode (cd 97) 143 = .ok (.iastore, 1) := by rw [cd_97]; decide +kernel
theorem e_97_143 {d : Nat} {h : mM} {L : mLs} {st : List Value} {a : Nat} {i v : Int32} : ev d 97 143 L (.int v :: .int i :: .ref a :: st) h = if mK h a = 11 ∧ ixOK i (mL h a) = true then ev d 97 144 L st (wI h a i.toNatClampNeg v) else none := ev_is d_97_143
theorem d_97_144 : decode (cd 97) 144 = .ok (.aload_n 0, 1) := by rw [cd_97]; decide +kernel
theorem e_97_144 {d : Nat} {h : mM} {T : mLs} {x : Nat} {st : List Value} : ev d 97 144 ( some (.ref x) :: T) st h = ev d 97 145 ( some (.ref x) :: T) (.ref x :: st) h := ev_of d_97_144 rfl
theorem d_97_145 : decode (cd 97) 145 = .ok (.getfield 74, 3) := by rw [cd_97]; decide +kernel
theorem e_97_145 {d : Nat} {h : mM} {L : mLs} {st : List Value} {a : Nat} : ev d 97 145 L (.ref a :: st) h = if mK h a = 10 then oB (mR h a 26) (fun b => ev d 97 148 L (.ref b :: st) h) else none := ev_gR d_97_145 (by decide +kernel) (by decide +kernel)
theorem d_97_148 : decode (cd 97) 148 = .ok (.iload 5, 2) := by rw [cd_97]; decide +kernel
theorem e_97_148 {d : Nat} {h : mM} {o0 o1 o2 o3 o4 : Option Value} {T : mLs} {x : Int32} {st : List Value} : ev d 97 148 (o0 :: o1 :: o2 :: o3 :: o4 :: some (.int x) :: T) st h = ev d 97 150 (o0 :: o1 :: o2 :: o3 :: o4 :: some (.int x) :: T) (.int x :: st) h := ev_of d_97_148 rfl
theorem d_97_150 : decode (cd 97) 150 = .ok (.iconst 2, 1) := by rw [cd_97]; decide +kernel
theorem e_97_150 {d : Nat} {h : mM} {L : mLs} {st : List Value} : ev d 97 150 L st h = ev d 97 151 L (.int 2 :: st) h := ev_of d_97_150 rfl
theorem d_97_151 : decode (cd 97) 151 = .ok (.iadd, 1) := by rw [cd_97]; decide +kernel
theorem e_97_151 {d : Nat} {h : mM} {L : mLs} {st : List Value} {x y : Int32} : ev d 97 151 L (.int y :: .int x :: st) h = ev d 97 152 L (.int (x + y) :: st) h := ev_of d_97_151 rfl
theorem d_97_152 : decode (cd 97) 152 = .ok (.iload_n 3, 1) := by rw [cd_97]; decide +kernel
theorem e_97_152 {d : Nat} {h : mM} {o0 o1 o2 : Option Value} {T : mLs} {x : Int32} {st : List Value} : ev d 97 152 (o0 :: o1 :: o2 :: some (.int x) :: T) st h = ev d 97 153 (o0 :: o1 :: o2 :: some (.int x) :: T) (.int x :: st) h := ev_of d_97_152 rfl
theorem d_97_153 : decode (cd 97) 153 = .ok (.iastore, 1) := by rw [cd_97]; decide +kernel
theorem e_97_153 {d : Nat} {h : mM} {L : mLs} {st : List Value} {a : Nat} {i v : Int32} : ev d 97 153 L (.int v :: .int i :: .ref a :: st) h = if mK h a = 11 ∧ ixOK i (mL h a) = true then ev d 97 154 L st (wI h a i.toNatClampNeg v) else none := ev_is d_97_153
theorem d_97_154 : decode (cd 97) 154 = .ok (.aload_n 0, 1) := by rw [cd_97]; decide +kernel
theorem e_97_154 {d : Nat} {h : mM} {T : mLs} {x : Nat} {st : List Value} : ev d 97 154 ( some (.ref x) :: T) st h = ev d 97 155 ( some (.ref x) :: T) (.ref x :: st) h := ev_of d_97_154 rfl
theorem d_97_155 : decode (cd 97) 155 = .ok (.getfield 74, 3) := by rw [cd_97]; decide +kernel
theorem e_97_155 {d : Nat} {h : mM} {L : mLs} {st : List Value} {a : Nat} : ev d 97 155 L (.ref a :: st) h = if mK h a = 10 then oB (mR h a 26) (fun b => ev d 97 158 L (.ref b :: st) h) else none := ev_gR d_97_155 (by decide +kernel) (by decide +kernel)
theorem d_97_158 : decode (cd 97) 158 = .ok (.iload 5, 2) := by rw [cd_97]; decide +kernel
theorem e_97_158 {d : Nat} {h : mM} {o0 o1 o2 o3 o4 : Option Value} {T : mLs} {x : Int32} {st : List Value} : ev d 97 158 (o0 :: o1 :: o2 :: o3 :: o4 :: some (.int x) :: T) st h = ev d 97 160 (o0 :: o1 :: o2 :: o3 :: o4 :: some (.int x) :: T) (.int x :: st) h := ev_of d_97_158 rfl
theorem d_97_160 : decode (cd 97) 160 = .ok (.iconst 3, 1) := by rw [cd_97]; decide +kernel
theorem e_97_160 {d : Nat} {h : mM} {L : mLs} {st : List Value} : ev d 97 160 L st h = ev d 97 161 L (.int 3 :: st) h := ev_of d_97_160 rfl
theorem d_97_161 : decode (cd 97) 161 = .ok (.iadd, 1) := by rw [cd_97]; decide +kernel
theorem e_97_161 {d : Nat} {h : mM} {L : mLs} {st : List Value} {x y : Int32} : ev d 97 161 L (.int y :: .int x :: st) h = ev d 97 162 L (.int (x + y) :: st) h := ev_of d_97_161 rfl
theorem d_97_162 : decode (cd 97) 162 = .ok (.iload 4, 2) := by rw [cd_97]; decide +kernel
theorem e_97_162 {d : Nat} {h : mM} {o0 o1 o2 o3 : Option Value} {T : mLs} {x : Int32} {st : List Value} : ev d 97 162 (o0 :: o1 :: o2 :: o3 :: some (.int x) :: T) st h = ev d 97 164 (o0 :: o1 :: o2 :: o3 :: some (.int x) :: T) (.int x :: st) h := ev_of d_97_162 rfl
theorem d_97_164 : decode (cd 97) 164 = .ok (.iastore, 1) := by rw [cd_97]; decide +kernel
theorem e_97_164 {d : Nat} {h : mM} {L : mLs} {st : List Value} {a : Nat} {i v : Int32} : ev d 97 164 L (.int v :: .int i :: .ref a :: st) h = if mK h a = 11 ∧ ixOK i (mL h a) = true then ev d 97 165 L st (wI h a i.toNatClampNeg v) else none := ev_is d_97_164
theorem d_97_165 : decode (cd 97) 165 = .ok (.aload_n 0, 1) := by rw [cd_97]; decide +kernel
theorem e_97_165 {d : Nat} {h : mM} {T : mLs} {x : Nat} {st : List Value} : ev d 97 165 ( some (.ref x) :: T) st h = ev d 97 166 ( some (.ref x) :: T) (.ref x :: st) h := ev_of d_97_165 rfl
theorem d_97_166 : decode (cd 97) 166 = .ok (.getfield 71, 3) := by rw [cd_97]; decide +kernel
theorem e_97_166 {d : Nat} {h : mM} {L : mLs} {st : List Value} {a : Nat} : ev d 97 166 L (.ref a :: st) h = if mK h a = 10 then oB (mR h a 25) (fun b => ev d 97 169 L (.ref b :: st) h) else none := ev_gR d_97_166 (by decide +kernel) (by decide +kernel)
theorem d_97_169 : decode (cd 97) 169 = .ok (.iload_n 1, 1) := by rw [cd_97]; decide +kernel
theorem e_97_169 {d : Nat} {h : mM} {o0 : Option Value} {T : mLs} {x : Int32} {st : List Value} : ev d 97 169 (o0 :: some (.int x) :: T) st h = ev d 97 170 (o0 :: some (.int x) :: T) (.int x :: st) h := ev_of d_97_169 rfl
theorem d_97_170 : decode (cd 97) 170 = .ok (.dup2, 1) := by rw [cd_97]; decide +kernel
theorem e_97_170 {d : Nat} {h : mM} {L : mLs} {st : List Value} {a : Nat} {i : Int32} : ev d 97 170 L (.int i :: .ref a :: st) h = ev d 97 171 L (.int i :: .ref a :: .int i :: .ref a :: st) h := ev_of d_97_170 rfl
theorem d_97_171 : decode (cd 97) 171 = .ok (.iaload, 1) := by rw [cd_97]; decide +kernel
theorem e_97_171 {d : Nat} {h : mM} {L : mLs} {st : List Value} {a : Nat} {i : Int32} : ev d 97 171 L (.int i :: .ref a :: st) h = if (mK h a = 11 ∨ mK h a = 19) ∧ ixOK i (mL h a) = true then ev d 97 172 L (.int (mI h a i.toNatClampNeg) :: st) h else none := ev_ia d_97_171
theorem d_97_172 : decode (cd 97) 172 = .ok (.iconst 1, 1) := by rw [cd_97]; decide +kernel
theorem e_97_172 {d : Nat} {h : mM} {L : mLs} {st : List Value} : ev d 97 172 L st h = ev d 97 173 L (.int 1 :: st) h := ev_of d_97_172 rfl
theorem d_97_173 : decode (cd 97) 173 = .ok (.iadd, 1) := by rw [cd_97]; decide +kernel
theorem e_97_173 {d : Nat} {h : mM} {L : mLs} {st : List Value} {x y : Int32} : ev d 97 173 L (.int y :: .int x :: st) h = ev d 97 174 L (.int (x + y) :: st) h := ev_of d_97_173 rfl
theorem d_97_174 : decode (cd 97) 174 = .ok (.iastore, 1) := by rw [cd_97]; decide +kernel
theorem e_97_174 {d : Nat} {h : mM} {L : mLs} {st : List Value} {a : Nat} {i v : Int32} : ev d 97 174 L (.int v :: .int i :: .ref a :: st) h = if mK h a = 11 ∧ ixOK i (mL h a) = true then ev d 97 175 L st (wI h a i.toNatClampNeg v) else none := ev_is d_97_174
theorem d_97_175 : decode (cd 97) 175 = .ok (.aload_n 0, 1) := by rw [cd_97]; decide +kernel
theorem e_97_175 {d : Nat} {h : mM} {T : mLs} {x : Nat} {st : List Value} : ev d 97 175 ( some (.ref x) :: T) st h = ev d 97 176 ( some (.ref x) :: T) (.ref x :: st) h := ev_of d_97_175 rfl
theorem d_97_176 : decode (cd 97) 176 = .ok (.getfield 71, 3) := by rw [cd_97]; decide +kernel
theorem e_97_176 {d : Nat} {h : mM} {L : mLs} {st : List Value} {a : Nat} : ev d 97 176 L (.ref a :: st) h = if mK h a = 10 then oB (mR h a 25) (fun b => ev d 97 179 L (.ref b :: st) h) else none := ev_gR d_97_176 (by decide +kernel) (by decide +kernel)
theorem d_97_179 : decode (cd 97) 179 = .ok (.iload_n 1, 1) := by rw [cd_97]; decide +kernel
theorem e_97_179 {d : Nat} {h : mM} {o0 : Option Value} {T : mLs} {x : Int32} {st : List Value} : ev d 97 179 (o0 :: some (.int x) :: T) st h = ev d 97 180 (o0 :: some (.int x) :: T) (.int x :: st) h := ev_of d_97_179 rfl
theorem d_97_180 : decode (cd 97) 180 = .ok (.iaload, 1) := by rw [cd_97]; decide +kernel
theorem e_97_180 {d : Nat} {h : mM} {L : mLs} {st : List Value} {a : Nat} {i : Int32} : ev d 97 180 L (.int i :: .ref a :: st) h = if (mK h a = 11 ∨ mK h a = 19) ∧ ixOK i (mL h a) = true then ev d 97 181 L (.int (mI h a i.toNatClampNeg) :: st) h else none := ev_ia d_97_180
theorem d_97_181 : decode (cd 97) 181 = .ok (.i2l, 1) := by rw [cd_97]; decide +kernel
theorem e_97_181 {d : Nat} {h : mM} {L : mLs} {st : List Value} {x : Int32} : ev d 97 181 L (.int x :: st) h = ev d 97 182 L (.long x.toInt64 :: st) h := ev_of d_97_181 rfl
theorem d_97_182 : decode (cd 97) 182 = .ok (.lreturn, 1) := by rw [cd_97]; decide +kernel
theorem e_97_182 {d : Nat} {h : mM} {L : mLs} {v : Int64} : ev d 97 182 L [.long v] h = some (some (.long v), h) := ev_rl d_97_182 (by decide +kernel)
-- 98: Model.row
theorem cd_98 : cd 98 = prog_12_method_21_code := rfl
theorem d_98_0 : decode (cd 98) 0 = .ok (.aload_n 0, 1) := by rw [cd_98]; decide +kernel
theorem e_98_0 {d : Nat} {h : mM} {T : mLs} {x : Nat} {st : List Value} : ev d 98 0 ( some (.ref x) :: T) st h = ev d 98 1 ( some (.ref x) :: T) (.ref x :: st) h := ev_of d_98_0 rfl
theorem d_98_1 : decode (cd 98) 1 = .ok (.iload_n 1, 1) := by rw [cd_98]; decide +kernel
theorem e_98_1 {d : Nat} {h : mM} {o0 : Option Value} {T : mLs} {x : Int32} {st : List Value} : ev d 98 1 (o0 :: some (.int x) :: T) st h = ev d 98 2 (o0 :: some (.int x) :: T) (.int x :: st) h := ev_of d_98_1 rfl
theorem d_98_2 : decode (cd 98) 2 = .ok (.invokevirtual 139, 3) := by rw [cd_98]; decide +kernel
theorem e_98_2 {d : Nat} {h : mM} {L : mLs} {st : List Value} {a : Nat} {x0 : Int32} (hc : mCat st ≤ 8) : ev (d + 1) 98 2 L (.int x0 :: .ref a :: st) h = if mK h a = 10 then cV (ev d 82 0 [some (.ref a), some (.int x0)] [] h) (fun v h1 => ev (d + 1) 98 5 L (v ++ st) h1) else none := ev_cv (mj := 82) (as := [.int x0]) (rest := st) d_98_2 (by decide +kernel) rfl rfl (by show _ ≤ List.length _; simp only [List.length_cons]; have : na 82 = 1 := rfl; omega) rfl (Nat.le_of_ble_eq_true rfl) hc
theorem d_98_5 : decode (cd 98) 5 = .ok (.ifCond .eq 12, 3) := by rw [cd_98]; decide +kernel
theorem e_98_5 {d : Nat} {h : mM} {L : mLs} {st : List Value} {x : Int32} : ev d 98 5 L (.int x :: st) h = if x = 0 then ev d 98 17 L st h else ev d 98 8 L st h := ev_if (x = 0) inferInstance rfl d_98_5 (by decide)
theorem d_98_8 : decode (cd 98) 8 = .ok (.iload_n 3, 1) := by rw [cd_98]; decide +kernel
theorem e_98_8 {d : Nat} {h : mM} {o0 o1 o2 : Option Value} {T : mLs} {x : Int32} {st : List Value} : ev d 98 8 (o0 :: o1 :: o2 :: some (.int x) :: T) st h = ev d 98 9 (o0 :: o1 :: o2 :: some (.int x) :: T) (.int x :: st) h := ev_of d_98_8 rfl
theorem d_98_9 : decode (cd 98) 9 = .ok (.iconst 0, 1) := by rw [cd_98]; decide +kernel
theorem e_98_9 {d : Nat} {h : mM} {L : mLs} {st : List Value} : ev d 98 9 L st h = ev d 98 10 L (.int 0 :: st) h := ev_of d_98_9 rfl
theorem d_98_10 : decode (cd 98) 10 = .ok (.iconst 3, 1) := by rw [cd_98]; decide +kernel
theorem e_98_10 {d : Nat} {h : mM} {L : mLs} {st : List Value} : ev d 98 10 L st h = ev d 98 11 L (.int 3 :: st) h := ev_of d_98_10 rfl
theorem d_98_11 : decode (cd 98) 11 = .ok (.invokestatic 114, 3) := by rw [cd_98]; decide +kernel
theorem e_98_11 {d : Nat} {h : mM} {L : mLs} {st : List Value} {x0 : Int32} {x1 : Int32} {x2 : Int32} (hc : mCat st ≤ 8) : ev (d + 1) 98 11 L (.int x2 :: .int x1 :: .int x0 :: st) h = cV (ev d 80 0 [some (.int x0), some (.int x1), some (.int x2)] [] h) (fun v h1 => ev (d + 1) 98 14 L (v ++ st) h1) := ev_cs (kd := 1) (mj := 80) (as := [.int x0, .int x1, .int x2]) (rest := st) d_98_11 (by decide +kernel) (by decide) rfl rfl (by show _ ≤ List.length _; simp only [List.length_cons]; have : na 80 = 3 := rfl; omega) rfl (Nat.le_of_ble_eq_true rfl) hc
theorem d_98_14 : decode (cd 98) 14 = .ok (.ifCond .ne 11, 3) := by rw [cd_98]; decide +kernel
theorem e_98_14 {d : Nat} {h : mM} {L : mLs} {st : List Value} {x : Int32} : ev d 98 14 L (.int x :: st) h = if ¬ x = 0 then ev d 98 25 L st h else ev d 98 17 L st h := ev_if (¬ x = 0) inferInstance rfl d_98_14 (by decide)
theorem d_98_17 : decode (cd 98) 17 = .ok (.aload_n 0, 1) := by rw [cd_98]; decide +kernel
theorem e_98_17 {d : Nat} {h : mM} {T : mLs} {x : Nat} {st : List Value} : ev d 98 17 ( some (.ref x) :: T) st h = ev d 98 18 ( some (.ref x) :: T) (.ref x :: st) h := ev_of d_98_17 rfl
theorem d_98_18 : decode (cd 98) 18 = .ok (.ldc2_w 121, 3) := by rw [cd_98]; decide +kernel
theorem e_98_18 {d : Nat} {h : mM} {L : mLs} {st : List Value} : ev d 98 18 L st h = ev d 98 21 L (.long (-1000000001) :: st) h := ev_of d_98_18 rfl
theorem d_98_21 : decode (cd 98) 21 = .ok (.invokevirtual 123, 3) := by rw [cd_98]; decide +kernel
theorem e_98_21 {d : Nat} {h : mM} {L : mLs} {st : List Value} {a : Nat} {x0 : Int64} (hc : mCat st ≤ 8) : ev (d + 1) 98 21 L (.long x0 :: .ref a :: st) h = if mK h a = 10 then cV (ev d 79 0 [some (.ref a), some (.long x0), none] [] h) (fun v h1 => ev (d + 1) 98 24 L (v ++ st) h1) else none := ev_cv (mj := 79) (as := [.long x0]) (rest := st) d_98_21 (by decide +kernel) rfl rfl (by show _ ≤ List.length _; simp only [List.length_cons]; have : na 79 = 1 := rfl; omega) rfl (Nat.le_of_ble_eq_true rfl) hc
theorem d_98_24 : decode (cd 98) 24 = .ok (.lreturn, 1) := by rw [cd_98]; decide +kernel
theorem e_98_24 {d : Nat} {h : mM} {L : mLs} {v : Int64} : ev d 98 24 L [.long v] h = some (some (.long v), h) := ev_rl d_98_24 (by decide +kernel)
theorem d_98_25 : decode (cd 98) 25 = .ok (.iload_n 2, 1) := by rw [cd_98]; decide +kernel
theorem e_98_25 {d : Nat} {h : mM} {o0 o1 : Option Value} {T : mLs} {x : Int32} {st : List Value} : ev d 98 25 (o0 :: o1 :: some (.int x) :: T) st h = ev d 98 26 (o0 :: o1 :: some (.int x) :: T) (.int x :: st) h := ev_of d_98_25 rfl
theorem d_98_26 : decode (cd 98) 26 = .ok (.iconst 0, 1) := by rw [cd_98]; decide +kernel
theorem e_98_26 {d : Nat} {h : mM} {L : mLs} {st : List Value} : ev d 98 26 L st h = ev d 98 27 L (.int 0 :: st) h := ev_of d_98_26 rfl
theorem d_98_27 : decode (cd 98) 27 = .ok (.aload_n 0, 1) := by rw [cd_98]; decide +kernel
theorem e_98_27 {d : Nat} {h : mM} {T : mLs} {x : Nat} {st : List Value} : ev d 98 27 ( some (.ref x) :: T) st h = ev d 98 28 ( some (.ref x) :: T) (.ref x :: st) h := ev_of d_98_27 rfl
theorem d_98_28 : decode (cd 98) 28 = .ok (.getfield 71, 3) := by rw [cd_98]; decide +kernel
theorem e_98_28 {d : Nat} {h : mM} {L : mLs} {st : List Value} {a : Nat} : ev d 98 28 L (.ref a :: st) h = if mK h a = 10 then oB (mR h a 25) (fun b => ev d 98 31 L (.ref b :: st) h) else none := ev_gR d_98_28 (by decide +kernel) (by decide +kernel)
theorem d_98_31 : decode (cd 98) 31 = .ok (.iload_n 1, 1) := by rw [cd_98]; decide +kernel
theorem e_98_31 {d : Nat} {h : mM} {o0 : Option Value} {T : mLs} {x : Int32} {st : List Value} : ev d 98 31 (o0 :: some (.int x) :: T) st h = ev d 98 32 (o0 :: some (.int x) :: T) (.int x :: st) h := ev_of d_98_31 rfl
theorem d_98_32 : decode (cd 98) 32 = .ok (.iaload, 1) := by rw [cd_98]; decide +kernel
theorem e_98_32 {d : Nat} {h : mM} {L : mLs} {st : List Value} {a : Nat} {i : Int32} : ev d 98 32 L (.int i :: .ref a :: st) h = if (mK h a = 11 ∨ mK h a = 19) ∧ ixOK i (mL h a) = true then ev d 98 33 L (.int (mI h a i.toNatClampNeg) :: st) h else none := ev_ia d_98_32
theorem d_98_33 : decode (cd 98) 33 = .ok (.iconst 1, 1) := by rw [cd_98]; decide +kernel
theorem e_98_33 {d : Nat} {h : mM} {L : mLs} {st : List Value} : ev d 98 33 L st h = ev d 98 34 L (.int 1 :: st) h := ev_of d_98_33 rfl
theorem d_98_34 : decode (cd 98) 34 = .ok (.isub, 1) := by rw [cd_98]; decide +kernel
theorem e_98_34 {d : Nat} {h : mM} {L : mLs} {st : List Value} {x y : Int32} : ev d 98 34 L (.int y :: .int x :: st) h = ev d 98 35 L (.int (x - y) :: st) h := ev_of d_98_34 rfl
theorem d_98_35 : decode (cd 98) 35 = .ok (.invokestatic 114, 3) := by rw [cd_98]; decide +kernel
theorem e_98_35 {d : Nat} {h : mM} {L : mLs} {st : List Value} {x0 : Int32} {x1 : Int32} {x2 : Int32} (hc : mCat st ≤ 8) : ev (d + 1) 98 35 L (.int x2 :: .int x1 :: .int x0 :: st) h = cV (ev d 80 0 [some (.int x0), some (.int x1), some (.int x2)] [] h) (fun v h1 => ev (d + 1) 98 38 L (v ++ st) h1) := ev_cs (kd := 1) (mj := 80) (as := [.int x0, .int x1, .int x2]) (rest := st) d_98_35 (by decide +kernel) (by decide) rfl rfl (by show _ ≤ List.length _; simp only [List.length_cons]; have : na 80 = 3 := rfl; omega) rfl (Nat.le_of_ble_eq_true rfl) hc
theorem d_98_38 : decode (cd 98) 38 = .ok (.ifCond .eq 22, 3) := by rw [cd_98]; decide +kernel
theorem e_98_38 {d : Nat} {h : mM} {L : mLs} {st : List Value} {x : Int32} : ev d 98 38 L (.int x :: st) h = if x = 0 then ev d 98 60 L st h else ev d 98 41 L st h := ev_if (x = 0) inferInstance rfl d_98_38 (by decide)
theorem d_98_41 : decode (cd 98) 41 = .ok (.aload_n 0, 1) := by rw [cd_98]; decide +kernel
theorem e_98_41 {d : Nat} {h : mM} {T : mLs} {x : Nat} {st : List Value} : ev d 98 41 ( some (.ref x) :: T) st h = ev d 98 42 ( some (.ref x) :: T) (.ref x :: st) h := ev_of d_98_41 rfl
theorem d_98_42 : decode (cd 98) 42 = .ok (.getfield 74, 3) := by rw [cd_98]; decide +kernel
theorem e_98_42 {d : Nat} {h : mM} {L : mLs} {st : List Value} {a : Nat} : ev d 98 42 L (.ref a :: st) h = if mK h a = 10 then oB (mR h a 26) (fun b => ev d 98 45 L (.ref b :: st) h) else none := ev_gR d_98_42 (by decide +kernel) (by decide +kernel)
theorem d_98_45 : decode (cd 98) 45 = .ok (.iconst 4, 1) := by rw [cd_98]; decide +kernel
theorem e_98_45 {d : Nat} {h : mM} {L : mLs} {st : List Value} : ev d 98 45 L st h = ev d 98 46 L (.int 4 :: st) h := ev_of d_98_45 rfl
theorem d_98_46 : decode (cd 98) 46 = .ok (.bipush 12, 2) := by rw [cd_98]; decide +kernel
theorem e_98_46 {d : Nat} {h : mM} {L : mLs} {st : List Value} : ev d 98 46 L st h = ev d 98 48 L (.int 12 :: st) h := ev_of d_98_46 rfl
theorem d_98_48 : decode (cd 98) 48 = .ok (.iload_n 1, 1) := by rw [cd_98]; decide +kernel
theorem e_98_48 {d : Nat} {h : mM} {o0 : Option Value} {T : mLs} {x : Int32} {st : List Value} : ev d 98 48 (o0 :: some (.int x) :: T) st h = ev d 98 49 (o0 :: some (.int x) :: T) (.int x :: st) h := ev_of d_98_48 rfl
theorem d_98_49 : decode (cd 98) 49 = .ok (.imul, 1) := by rw [cd_98]; decide +kernel
theorem e_98_49 {d : Nat} {h : mM} {L : mLs} {st : List Value} {x y : Int32} : ev d 98 49 L (.int y :: .int x :: st) h = ev d 98 50 L (.int (x * y) :: st) h := ev_of d_98_49 rfl
theorem d_98_50 : decode (cd 98) 50 = .ok (.iload_n 2, 1) := by rw [cd_98]; decide +kernel
theorem e_98_50 {d : Nat} {h : mM} {o0 o1 : Option Value} {T : mLs} {x : Int32} {st : List Value} : ev d 98 50 (o0 :: o1 :: some (.int x) :: T) st h = ev d 98 51 (o0 :: o1 :: some (.int x) :: T) (.int x :: st) h := ev_of d_98_50 rfl
theorem d_98_51 : decode (cd 98) 51 = .ok (.iadd, 1) := by rw [cd_98]; decide +kernel
theorem e_98_51 {d : Nat} {h : mM} {L : mLs} {st : List Value} {x y : Int32} : ev d 98 51 L (.int y :: .int x :: st) h = ev d 98 52 L (.int (x + y) :: st) h := ev_of d_98_51 rfl
theorem d_98_52 : decode (cd 98) 52 = .ok (.imul, 1) := by rw [cd_98]; decide +kernel
theorem e_98_52 {d : Nat} {h : mM} {L : mLs} {st : List Value} {x y : Int32} : ev d 98 52 L (.int y :: .int x :: st) h = ev d 98 53 L (.int (x * y) :: st) h := ev_of d_98_52 rfl
theorem d_98_53 : decode (cd 98) 53 = .ok (.iload_n 3, 1) := by rw [cd_98]; decide +kernel
theorem e_98_53 {d : Nat} {h : mM} {o0 o1 o2 : Option Value} {T : mLs} {x : Int32} {st : List Value} : ev d 98 53 (o0 :: o1 :: o2 :: some (.int x) :: T) st h = ev d 98 54 (o0 :: o1 :: o2 :: some (.int x) :: T) (.int x :: st) h := ev_of d_98_53 rfl
theorem d_98_54 : decode (cd 98) 54 = .ok (.iadd, 1) := by rw [cd_98]; decide +kernel
theorem e_98_54 {d : Nat} {h : mM} {L : mLs} {st : List Value} {x y : Int32} : ev d 98 54 L (.int y :: .int x :: st) h = ev d 98 55 L (.int (x + y) :: st) h := ev_of d_98_54 rfl
theorem d_98_55 : decode (cd 98) 55 = .ok (.iaload, 1) := by rw [cd_98]; decide +kernel
theorem e_98_55 {d : Nat} {h : mM} {L : mLs} {st : List Value} {a : Nat} {i : Int32} : ev d 98 55 L (.int i :: .ref a :: st) h = if (mK h a = 11 ∨ mK h a = 19) ∧ ixOK i (mL h a) = true then ev d 98 56 L (.int (mI h a i.toNatClampNeg) :: st) h else none := ev_ia d_98_55
theorem d_98_56 : decode (cd 98) 56 = .ok (.i2l, 1) := by rw [cd_98]; decide +kernel
theorem e_98_56 {d : Nat} {h : mM} {L : mLs} {st : List Value} {x : Int32} : ev d 98 56 L (.int x :: st) h = ev d 98 57 L (.long x.toInt64 :: st) h := ev_of d_98_56 rfl
theorem d_98_57 : decode (cd 98) 57 = .ok (.goto 10, 3) := by rw [cd_98]; decide +kernel
theorem e_98_57 {d : Nat} {h : mM} {L : mLs} {st : List Value} : ev d 98 57 L st h = ev d 98 67 L st h := ev_go d_98_57 (by decide)
theorem d_98_60 : decode (cd 98) 60 = .ok (.aload_n 0, 1) := by rw [cd_98]; decide +kernel
theorem e_98_60 {d : Nat} {h : mM} {T : mLs} {x : Nat} {st : List Value} : ev d 98 60 ( some (.ref x) :: T) st h = ev d 98 61 ( some (.ref x) :: T) (.ref x :: st) h := ev_of d_98_60 rfl
theorem d_98_61 : decode (cd 98) 61 = .ok (.ldc2_w 152, 3) := by rw [cd_98]; decide +kernel
theorem e_98_61 {d : Nat} {h : mM} {L : mLs} {st : List Value} : ev d 98 61 L st h = ev d 98 64 L (.long (-1000000002) :: st) h := ev_of d_98_61 rfl
theorem d_98_64 : decode (cd 98) 64 = .ok (.invokevirtual 123, 3) := by rw [cd_98]; decide +kernel
theorem e_98_64 {d : Nat} {h : mM} {L : mLs} {st : List Value} {a : Nat} {x0 : Int64} (hc : mCat st ≤ 8) : ev (d + 1) 98 64 L (.long x0 :: .ref a :: st) h = if mK h a = 10 then cV (ev d 79 0 [some (.ref a), some (.long x0), none] [] h) (fun v h1 => ev (d + 1) 98 67 L (v ++ st) h1) else none := ev_cv (mj := 79) (as := [.long x0]) (rest := st) d_98_64 (by decide +kernel) rfl rfl (by show _ ≤ List.length _; simp only [List.length_cons]; have : na 79 = 1 := rfl; omega) rfl (Nat.le_of_ble_eq_true rfl) hc
theorem d_98_67 : decode (cd 98) 67 = .ok (.lreturn, 1) := by rw [cd_98]; decide +kernel
theorem e_98_67 {d : Nat} {h : mM} {L : mLs} {v : Int64} : ev d 98 67 L [.long v] h = some (some (.long v), h) := ev_rl d_98_67 (by decide +kernel)
-- 99: Model.told
theorem cd_99 : cd 99 = prog_12_method_22_code := rfl
theorem d_99_0 : decode (cd 99) 0 = .ok (.aload_n 0, 1) := by rw [cd_99]; decide +kernel
theorem e_99_0 {d : Nat} {h : mM} {T : mLs} {x : Nat} {st : List Value} : ev d 99 0 ( some (.ref x) :: T) st h = ev d 99 1 ( some (.ref x) :: T) (.ref x :: st) h := ev_of d_99_0 rfl
theorem d_99_1 : decode (cd 99) 1 = .ok (.iload_n 1, 1) := by rw [cd_99]; decide +kernel
theorem e_99_1 {d : Nat} {h : mM} {o0 : Option Value} {T : mLs} {x : Int32} {st : List Value} : ev d 99 1 (o0 :: some (.int x) :: T) st h = ev d 99 2 (o0 :: some (.int x) :: T) (.int x :: st) h := ev_of d_99_1 rfl
theorem d_99_2 : decode (cd 99) 2 = .ok (.invokevirtual 139, 3) := by rw [cd_99]; decide +kernel
theorem e_99_2 {d : Nat} {h : mM} {L : mLs} {st : List Value} {a : Nat} {x0 : Int32} (hc : mCat st ≤ 8) : ev (d + 1) 99 2 L (.int x0 :: .ref a :: st) h = if mK h a = 10 then cV (ev d 82 0 [some (.ref a), some (.int x0)] [] h) (fun v h1 => ev (d + 1) 99 5 L (v ++ st) h1) else none := ev_cv (mj := 82) (as := [.int x0]) (rest := st) d_99_2 (by decide +kernel) rfl rfl (by show _ ≤ List.length _; simp only [List.length_cons]; have : na 82 = 1 := rfl; omega) rfl (Nat.le_of_ble_eq_true rfl) hc
theorem d_99_5 : decode (cd 99) 5 = .ok (.ifCond .eq 13, 3) := by rw [cd_99]; decide +kernel
theorem e_99_5 {d : Nat} {h : mM} {L : mLs} {st : List Value} {x : Int32} : ev d 99 5 L (.int x :: st) h = if x = 0 then ev d 99 18 L st h else ev d 99 8 L st h := ev_if (x = 0) inferInstance rfl d_99_5 (by decide)
theorem d_99_8 : decode (cd 99) 8 = .ok (.iload_n 2, 1) := by rw [cd_99]; decide +kernel
theorem e_99_8 {d : Nat} {h : mM} {o0 o1 : Option Value} {T : mLs} {x : Int32} {st : List Value} : ev d 99 8 (o0 :: o1 :: some (.int x) :: T) st h = ev d 99 9 (o0 :: o1 :: some (.int x) :: T) (.int x :: st) h := ev_of d_99_8 rfl
theorem d_99_9 : decode (cd 99) 9 = .ok (.iconst 0, 1) := by rw [cd_99]; decide +kernel
theorem e_99_9 {d : Nat} {h : mM} {L : mLs} {st : List Value} : ev d 99 9 L st h = ev d 99 10 L (.int 0 :: st) h := ev_of d_99_9 rfl
theorem d_99_10 : decode (cd 99) 10 = .ok (.bipush 9, 2) := by rw [cd_99]; decide +kernel
theorem e_99_10 {d : Nat} {h : mM} {L : mLs} {st : List Value} : ev d 99 10 L st h = ev d 99 12 L (.int 9 :: st) h := ev_of d_99_10 rfl
theorem d_99_12 : decode (cd 99) 12 = .ok (.invokestatic 114, 3) := by rw [cd_99]; decide +kernel
theorem e_99_12 {d : Nat} {h : mM} {L : mLs} {st : List Value} {x0 : Int32} {x1 : Int32} {x2 : Int32} (hc : mCat st ≤ 8) : ev (d + 1) 99 12 L (.int x2 :: .int x1 :: .int x0 :: st) h = cV (ev d 80 0 [some (.int x0), some (.int x1), some (.int x2)] [] h) (fun v h1 => ev (d + 1) 99 15 L (v ++ st) h1) := ev_cs (kd := 1) (mj := 80) (as := [.int x0, .int x1, .int x2]) (rest := st) d_99_12 (by decide +kernel) (by decide) rfl rfl (by show _ ≤ List.length _; simp only [List.length_cons]; have : na 80 = 3 := rfl; omega) rfl (Nat.le_of_ble_eq_true rfl) hc
theorem d_99_15 : decode (cd 99) 15 = .ok (.ifCond .ne 11, 3) := by rw [cd_99]; decide +kernel
theorem e_99_15 {d : Nat} {h : mM} {L : mLs} {st : List Value} {x : Int32} : ev d 99 15 L (.int x :: st) h = if ¬ x = 0 then ev d 99 26 L st h else ev d 99 18 L st h := ev_if (¬ x = 0) inferInstance rfl d_99_15 (by decide)
theorem d_99_18 : decode (cd 99) 18 = .ok (.aload_n 0, 1) := by rw [cd_99]; decide +kernel
theorem e_99_18 {d : Nat} {h : mM} {T : mLs} {x : Nat} {st : List Value} : ev d 99 18 ( some (.ref x) :: T) st h = ev d 99 19 ( some (.ref x) :: T) (.ref x :: st) h := ev_of d_99_18 rfl
theorem d_99_19 : decode (cd 99) 19 = .ok (.ldc2_w 121, 3) := by rw [cd_99]; decide +kernel
theorem e_99_19 {d : Nat} {h : mM} {L : mLs} {st : List Value} : ev d 99 19 L st h = ev d 99 22 L (.long (-1000000001) :: st) h := ev_of d_99_19 rfl
theorem d_99_22 : decode (cd 99) 22 = .ok (.invokevirtual 123, 3) := by rw [cd_99]; decide +kernel
theorem e_99_22 {d : Nat} {h : mM} {L : mLs} {st : List Value} {a : Nat} {x0 : Int64} (hc : mCat st ≤ 8) : ev (d + 1) 99 22 L (.long x0 :: .ref a :: st) h = if mK h a = 10 then cV (ev d 79 0 [some (.ref a), some (.long x0), none] [] h) (fun v h1 => ev (d + 1) 99 25 L (v ++ st) h1) else none := ev_cv (mj := 79) (as := [.long x0]) (rest := st) d_99_22 (by decide +kernel) rfl rfl (by show _ ≤ List.length _; simp only [List.length_cons]; have : na 79 = 1 := rfl; omega) rfl (Nat.le_of_ble_eq_true rfl) hc
theorem d_99_25 : decode (cd 99) 25 = .ok (.lreturn, 1) := by rw [cd_99]; decide +kernel
theorem e_99_25 {d : Nat} {h : mM} {L : mLs} {v : Int64} : ev d 99 25 L [.long v] h = some (some (.long v), h) := ev_rl d_99_25 (by decide +kernel)
theorem d_99_26 : decode (cd 99) 26 = .ok (.aload_n 0, 1) := by rw [cd_99]; decide +kernel
theorem e_99_26 {d : Nat} {h : mM} {T : mLs} {x : Nat} {st : List Value} : ev d 99 26 ( some (.ref x) :: T) st h = ev d 99 27 ( some (.ref x) :: T) (.ref x :: st) h := ev_of d_99_26 rfl
theorem d_99_27 : decode (cd 99) 27 = .ok (.getfield 44, 3) := by rw [cd_99]; decide +kernel
theorem e_99_27 {d : Nat} {h : mM} {L : mLs} {st : List Value} {a : Nat} : ev d 99 27 L (.ref a :: st) h = if mK h a = 10 then oB (mR h a 15) (fun b => ev d 99 30 L (.ref b :: st) h) else none := ev_gR d_99_27 (by decide +kernel) (by decide +kernel)
theorem d_99_30 : decode (cd 99) 30 = .ok (.iload_n 1, 1) := by rw [cd_99]; decide +kernel
theorem e_99_30 {d : Nat} {h : mM} {o0 : Option Value} {T : mLs} {x : Int32} {st : List Value} : ev d 99 30 (o0 :: some (.int x) :: T) st h = ev d 99 31 (o0 :: some (.int x) :: T) (.int x :: st) h := ev_of d_99_30 rfl
theorem d_99_31 : decode (cd 99) 31 = .ok (.iaload, 1) := by rw [cd_99]; decide +kernel
theorem e_99_31 {d : Nat} {h : mM} {L : mLs} {st : List Value} {a : Nat} {i : Int32} : ev d 99 31 L (.int i :: .ref a :: st) h = if (mK h a = 11 ∨ mK h a = 19) ∧ ixOK i (mL h a) = true then ev d 99 32 L (.int (mI h a i.toNatClampNeg) :: st) h else none := ev_ia d_99_31
theorem d_99_32 : decode (cd 99) 32 = .ok (.istore_n 3, 1) := by rw [cd_99]; decide +kernel
theorem e_99_32 {d : Nat} {h : mM} {o0 o1 o2 o3 : Option Value} {T : mLs} {x : Int32} {st : List Value} (hl : mLong o2 = false) : ev d 99 32 (o0 :: o1 :: o2 :: o3 :: T) (.int x :: st) h = ev d 99 33 (o0 :: o1 :: o2 :: some (.int x) :: T) st h := ev_st_in d_99_32 (by decide +kernel) (mS1_s (j := 2) hl)
theorem d_99_33 : decode (cd 99) 33 = .ok (.iload_n 2, 1) := by rw [cd_99]; decide +kernel
theorem e_99_33 {d : Nat} {h : mM} {o0 o1 : Option Value} {T : mLs} {x : Int32} {st : List Value} : ev d 99 33 (o0 :: o1 :: some (.int x) :: T) st h = ev d 99 34 (o0 :: o1 :: some (.int x) :: T) (.int x :: st) h := ev_of d_99_33 rfl
theorem d_99_34 : decode (cd 99) 34 = .ok (.tableswitch 102 0 9 #[54, 102, 102, 102, 102, 102, 102, 78, 86, 94], 54) := by rw [cd_99]; decide +kernel
theorem e_99_34 {d : Nat} {h : mM} {L : mLs} {st : List Value} {x : Int32} : ev d 99 34 L (.int x :: st) h = tsF (fun t => ev d 99 t L st h) x [88, 136, 136, 136, 136, 136, 136, 112, 120, 128] 0 (ev d 99 136 L st h) := ev_ts _ d_99_34 (by decide) (by decide) (by decide)
theorem d_99_88 : decode (cd 99) 88 = .ok (.aload_n 0, 1) := by rw [cd_99]; decide +kernel
theorem e_99_88 {d : Nat} {h : mM} {T : mLs} {x : Nat} {st : List Value} : ev d 99 88 ( some (.ref x) :: T) st h = ev d 99 89 ( some (.ref x) :: T) (.ref x :: st) h := ev_of d_99_88 rfl
theorem d_99_89 : decode (cd 99) 89 = .ok (.getfield 29, 3) := by rw [cd_99]; decide +kernel
theorem e_99_89 {d : Nat} {h : mM} {L : mLs} {st : List Value} {a : Nat} : ev d 99 89 L (.ref a :: st) h = if mK h a = 10 then oB (mR h a 8) (fun b => ev d 99 92 L (.ref b :: st) h) else none := ev_gR d_99_89 (by decide +kernel) (by decide +kernel)
theorem d_99_92 : decode (cd 99) 92 = .ok (.iload_n 3, 1) := by rw [cd_99]; decide +kernel
theorem e_99_92 {d : Nat} {h : mM} {o0 o1 o2 : Option Value} {T : mLs} {x : Int32} {st : List Value} : ev d 99 92 (o0 :: o1 :: o2 :: some (.int x) :: T) st h = ev d 99 93 (o0 :: o1 :: o2 :: some (.int x) :: T) (.int x :: st) h := ev_of d_99_92 rfl
theorem d_99_93 : decode (cd 99) 93 = .ok (.iaload, 1) := by rw [cd_99]; decide +kernel
theorem e_99_93 {d : Nat} {h : mM} {L : mLs} {st : List Value} {a : Nat} {i : Int32} : ev d 99 93 L (.int i :: .ref a :: st) h = if (mK h a = 11 ∨ mK h a = 19) ∧ ixOK i (mL h a) = true then ev d 99 94 L (.int (mI h a i.toNatClampNeg) :: st) h else none := ev_ia d_99_93
theorem d_99_94 : decode (cd 99) 94 = .ok (.aload_n 0, 1) := by rw [cd_99]; decide +kernel
theorem e_99_94 {d : Nat} {h : mM} {T : mLs} {x : Nat} {st : List Value} : ev d 99 94 ( some (.ref x) :: T) st h = ev d 99 95 ( some (.ref x) :: T) (.ref x :: st) h := ev_of d_99_94 rfl
theorem d_99_95 : decode (cd 99) 95 = .ok (.getfield 17, 3) := by rw [cd_99]; decide +kernel
theorem e_99_95 {d : Nat} {h : mM} {L : mLs} {st : List Value} {a : Nat} : ev d 99 95 L (.ref a :: st) h = if mK h a = 10 then oB (mR h a 4) (fun b => ev d 99 98 L (.ref b :: st) h) else none := ev_gR d_99_95 (by decide +kernel) (by decide +kernel)
theorem d_99_98 : decode (cd 99) 98 = .ok (.iload_n 3, 1) := by rw [cd_99]; decide +kernel
theorem e_99_98 {d : Nat} {h : mM} {o0 o1 o2 : Option Value} {T : mLs} {x : Int32} {st : List Value} : ev d 99 98 (o0 :: o1 :: o2 :: some (.int x) :: T) st h = ev d 99 99 (o0 :: o1 :: o2 :: some (.int x) :: T) (.int x :: st) h := ev_of d_99_98 rfl
theorem d_99_99 : decode (cd 99) 99 = .ok (.iaload, 1) := by rw [cd_99]; decide +kernel
theorem e_99_99 {d : Nat} {h : mM} {L : mLs} {st : List Value} {a : Nat} {i : Int32} : ev d 99 99 L (.int i :: .ref a :: st) h = if (mK h a = 11 ∨ mK h a = 19) ∧ ixOK i (mL h a) = true then ev d 99 100 L (.int (mI h a i.toNatClampNeg) :: st) h else none := ev_ia d_99_99
theorem d_99_100 : decode (cd 99) 100 = .ok (.idiv, 1) := by rw [cd_99]; decide +kernel
theorem e_99_100 {d : Nat} {h : mM} {L : mLs} {st : List Value} {x y : Int32} : ev d 99 100 L (.int y :: .int x :: st) h = if y = 0 then none else ev d 99 101 L (.int (x / y) :: st) h := ev_div d_99_100
theorem d_99_101 : decode (cd 99) 101 = .ok (.aload_n 0, 1) := by rw [cd_99]; decide +kernel
theorem e_99_101 {d : Nat} {h : mM} {T : mLs} {x : Nat} {st : List Value} : ev d 99 101 ( some (.ref x) :: T) st h = ev d 99 102 ( some (.ref x) :: T) (.ref x :: st) h := ev_of d_99_101 rfl
theorem d_99_102 : decode (cd 99) 102 = .ok (.aload_n 0, 1) := by rw [cd_99]; decide +kernel
theorem e_99_102 {d : Nat} {h : mM} {T : mLs} {x : Nat} {st : List Value} : ev d 99 102 ( some (.ref x) :: T) st h = ev d 99 103 ( some (.ref x) :: T) (.ref x :: st) h := ev_of d_99_102 rfl
theorem d_99_103 : decode (cd 99) 103 = .ok (.getfield 147, 3) := by rw [cd_99]; decide +kernel
theorem e_99_103 {d : Nat} {h : mM} {L : mLs} {st : List Value} {a : Nat} : ev d 99 103 L (.ref a :: st) h = if mK h a = 10 then ev d 99 106 L (.int (mI h a 0) :: st) h else none := ev_gI d_99_103 (by decide +kernel) (by decide +kernel)
theorem d_99_106 : decode (cd 99) 106 = .ok (.invokevirtual 127, 3) := by rw [cd_99]; decide +kernel
theorem e_99_106 {d : Nat} {h : mM} {L : mLs} {st : List Value} {a : Nat} {x0 : Int32} (hc : mCat st ≤ 8) : ev (d + 1) 99 106 L (.int x0 :: .ref a :: st) h = if mK h a = 10 then cV (ev d 85 0 [some (.ref a), some (.int x0)] [] h) (fun v h1 => ev (d + 1) 99 109 L (v ++ st) h1) else none := ev_cv (mj := 85) (as := [.int x0]) (rest := st) d_99_106 (by decide +kernel) rfl rfl (by show _ ≤ List.length _; simp only [List.length_cons]; have : na 85 = 1 := rfl; omega) rfl (Nat.le_of_ble_eq_true rfl) hc
theorem d_99_109 : decode (cd 99) 109 = .ok (.isub, 1) := by rw [cd_99]; decide +kernel
theorem e_99_109 {d : Nat} {h : mM} {L : mLs} {st : List Value} {x y : Int32} : ev d 99 109 L (.int y :: .int x :: st) h = ev d 99 110 L (.int (x - y) :: st) h := ev_of d_99_109 rfl
theorem d_99_110 : decode (cd 99) 110 = .ok (.i2l, 1) := by rw [cd_99]; decide +kernel
theorem e_99_110 {d : Nat} {h : mM} {L : mLs} {st : List Value} {x : Int32} : ev d 99 110 L (.int x :: st) h = ev d 99 111 L (.long x.toInt64 :: st) h := ev_of d_99_110 rfl
theorem d_99_111 : decode (cd 99) 111 = .ok (.lreturn, 1) := by rw [cd_99]; decide +kernel
theorem e_99_111 {d : Nat} {h : mM} {L : mLs} {v : Int64} : ev d 99 111 L [.long v] h = some (some (.long v), h) := ev_rl d_99_111 (by decide +kernel)
theorem d_99_112 : decode (cd 99) 112 = .ok (.aload_n 0, 1) := by rw [cd_99]; decide +kernel
theorem e_99_112 {d : Nat} {h : mM} {T : mLs} {x : Nat} {st : List Value} : ev d 99 112 ( some (.ref x) :: T) st h = ev d 99 113 ( some (.ref x) :: T) (.ref x :: st) h := ev_of d_99_112 rfl
theorem d_99_113 : decode (cd 99) 113 = .ok (.getfield 71, 3) := by rw [cd_99]; decide +kernel
theorem e_99_113 {d : Nat} {h : mM} {L : mLs} {st : List Value} {a : Nat} : ev d 99 113 L (.ref a :: st) h = if mK h a = 10 then oB (mR h a 25) (fun b => ev d 99 116 L (.ref b :: st) h) else none := ev_gR d_99_113 (by decide +kernel) (by decide +kernel)
theorem d_99_116 : decode (cd 99) 116 = .ok (.iload_n 1, 1) := by rw [cd_99]; decide +kernel
theorem e_99_116 {d : Nat} {h : mM} {o0 : Option Value} {T : mLs} {x : Int32} {st : List Value} : ev d 99 116 (o0 :: some (.int x) :: T) st h = ev d 99 117 (o0 :: some (.int x) :: T) (.int x :: st) h := ev_of d_99_116 rfl
theorem d_99_117 : decode (cd 99) 117 = .ok (.iaload, 1) := by rw [cd_99]; decide +kernel
theorem e_99_117 {d : Nat} {h : mM} {L : mLs} {st : List Value} {a : Nat} {i : Int32} : ev d 99 117 L (.int i :: .ref a :: st) h = if (mK h a = 11 ∨ mK h a = 19) ∧ ixOK i (mL h a) = true then ev d 99 118 L (.int (mI h a i.toNatClampNeg) :: st) h else none := ev_ia d_99_117
theorem d_99_118 : decode (cd 99) 118 = .ok (.i2l, 1) := by rw [cd_99]; decide +kernel
theorem e_99_118 {d : Nat} {h : mM} {L : mLs} {st : List Value} {x : Int32} : ev d 99 118 L (.int x :: st) h = ev d 99 119 L (.long x.toInt64 :: st) h := ev_of d_99_118 rfl
theorem d_99_119 : decode (cd 99) 119 = .ok (.lreturn, 1) := by rw [cd_99]; decide +kernel
theorem e_99_119 {d : Nat} {h : mM} {L : mLs} {v : Int64} : ev d 99 119 L [.long v] h = some (some (.long v), h) := ev_rl d_99_119 (by decide +kernel)
theorem d_99_120 : decode (cd 99) 120 = .ok (.aload_n 0, 1) := by rw [cd_99]; decide +kernel
theorem e_99_120 {d : Nat} {h : mM} {T : mLs} {x : Nat} {st : List Value} : ev d 99 120 ( some (.ref x) :: T) st h = ev d 99 121 ( some (.ref x) :: T) (.ref x :: st) h := ev_of d_99_120 rfl
theorem d_99_121 : decode (cd 99) 121 = .ok (.getfield 56, 3) := by rw [cd_99]; decide +kernel
theorem e_99_121 {d : Nat} {h : mM} {L : mLs} {st : List Value} {a : Nat} : ev d 99 121 L (.ref a :: st) h = if mK h a = 10 then oB (mR h a 19) (fun b => ev d 99 124 L (.ref b :: st) h) else none := ev_gR d_99_121 (by decide +kernel) (by decide +kernel)
theorem d_99_124 : decode (cd 99) 124 = .ok (.iload_n 1, 1) := by rw [cd_99]; decide +kernel
theorem e_99_124 {d : Nat} {h : mM} {o0 : Option Value} {T : mLs} {x : Int32} {st : List Value} : ev d 99 124 (o0 :: some (.int x) :: T) st h = ev d 99 125 (o0 :: some (.int x) :: T) (.int x :: st) h := ev_of d_99_124 rfl
theorem d_99_125 : decode (cd 99) 125 = .ok (.iaload, 1) := by rw [cd_99]; decide +kernel
theorem e_99_125 {d : Nat} {h : mM} {L : mLs} {st : List Value} {a : Nat} {i : Int32} : ev d 99 125 L (.int i :: .ref a :: st) h = if (mK h a = 11 ∨ mK h a = 19) ∧ ixOK i (mL h a) = true then ev d 99 126 L (.int (mI h a i.toNatClampNeg) :: st) h else none := ev_ia d_99_125
theorem d_99_126 : decode (cd 99) 126 = .ok (.i2l, 1) := by rw [cd_99]; decide +kernel
theorem e_99_126 {d : Nat} {h : mM} {L : mLs} {st : List Value} {x : Int32} : ev d 99 126 L (.int x :: st) h = ev d 99 127 L (.long x.toInt64 :: st) h := ev_of d_99_126 rfl
theorem d_99_127 : decode (cd 99) 127 = .ok (.lreturn, 1) := by rw [cd_99]; decide +kernel
theorem e_99_127 {d : Nat} {h : mM} {L : mLs} {v : Int64} : ev d 99 127 L [.long v] h = some (some (.long v), h) := ev_rl d_99_127 (by decide +kernel)
theorem d_99_128 : decode (cd 99) 128 = .ok (.aload_n 0, 1) := by rw [cd_99]; decide +kernel
theorem e_99_128 {d : Nat} {h : mM} {T : mLs} {x : Nat} {st : List Value} : ev d 99 128 ( some (.ref x) :: T) st h = ev d 99 129 ( some (.ref x) :: T) (.ref x :: st) h := ev_of d_99_128 rfl
theorem d_99_129 : decode (cd 99) 129 = .ok (.getfield 47, 3) := by rw [cd_99]; decide +kernel
theorem e_99_129 {d : Nat} {h : mM} {L : mLs} {st : List Value} {a : Nat} : ev d 99 129 L (.ref a :: st) h = if mK h a = 10 then oB (mR h a 16) (fun b => ev d 99 132 L (.ref b :: st) h) else none := ev_gR d_99_129 (by decide +kernel) (by decide +kernel)
theorem d_99_132 : decode (cd 99) 132 = .ok (.iload_n 1, 1) := by rw [cd_99]; decide +kernel
theorem e_99_132 {d : Nat} {h : mM} {o0 : Option Value} {T : mLs} {x : Int32} {st : List Value} : ev d 99 132 (o0 :: some (.int x) :: T) st h = ev d 99 133 (o0 :: some (.int x) :: T) (.int x :: st) h := ev_of d_99_132 rfl
theorem d_99_133 : decode (cd 99) 133 = .ok (.iaload, 1) := by rw [cd_99]; decide +kernel
theorem e_99_133 {d : Nat} {h : mM} {L : mLs} {st : List Value} {a : Nat} {i : Int32} : ev d 99 133 L (.int i :: .ref a :: st) h = if (mK h a = 11 ∨ mK h a = 19) ∧ ixOK i (mL h a) = true then ev d 99 134 L (.int (mI h a i.toNatClampNeg) :: st) h else none := ev_ia d_99_133
theorem d_99_134 : decode (cd 99) 134 = .ok (.i2l, 1) := by rw [cd_99]; decide +kernel
theorem e_99_134 {d : Nat} {h : mM} {L : mLs} {st : List Value} {x : Int32} : ev d 99 134 L (.int x :: st) h = ev d 99 135 L (.long x.toInt64 :: st) h := ev_of d_99_134 rfl
theorem d_99_135 : decode (cd 99) 135 = .ok (.lreturn, 1) := by rw [cd_99]; decide +kernel
theorem e_99_135 {d : Nat} {h : mM} {L : mLs} {v : Int64} : ev d 99 135 L [.long v] h = some (some (.long v), h) := ev_rl d_99_135 (by decide +kernel)
theorem d_99_136 : decode (cd 99) 136 = .ok (.aload_n 0, 1) := by rw [cd_99]; decide +kernel
theorem e_99_136 {d : Nat} {h : mM} {T : mLs} {x : Nat} {st : List Value} : ev d 99 136 ( some (.ref x) :: T) st h = ev d 99 137 ( some (.ref x) :: T) (.ref x :: st) h := ev_of d_99_136 rfl
theorem d_99_137 : decode (cd 99) 137 = .ok (.getfield 77, 3) := by rw [cd_99]; decide +kernel
theorem e_99_137 {d : Nat} {h : mM} {L : mLs} {st : List Value} {a : Nat} : ev d 99 137 L (.ref a :: st) h = if mK h a = 10 then oB (mR h a 27) (fun b => ev d 99 140 L (.ref b :: st) h) else none := ev_gR d_99_137 (by decide +kernel) (by decide +kernel)
theorem d_99_140 : decode (cd 99) 140 = .ok (.bipush 6, 2) := by rw [cd_99]; decide +kernel
theorem e_99_140 {d : Nat} {h : mM} {L : mLs} {st : List Value} : ev d 99 140 L st h = ev d 99 142 L (.int 6 :: st) h := ev_of d_99_140 rfl
theorem d_99_142 : decode (cd 99) 142 = .ok (.iload_n 1, 1) := by rw [cd_99]; decide +kernel
theorem e_99_142 {d : Nat} {h : mM} {o0 : Option Value} {T : mLs} {x : Int32} {st : List Value} : ev d 99 142 (o0 :: some (.int x) :: T) st h = ev d 99 143 (o0 :: some (.int x) :: T) (.int x :: st) h := ev_of d_99_142 rfl
theorem d_99_143 : decode (cd 99) 143 = .ok (.imul, 1) := by rw [cd_99]; decide +kernel
theorem e_99_143 {d : Nat} {h : mM} {L : mLs} {st : List Value} {x y : Int32} : ev d 99 143 L (.int y :: .int x :: st) h = ev d 99 144 L (.int (x * y) :: st) h := ev_of d_99_143 rfl
theorem d_99_144 : decode (cd 99) 144 = .ok (.iload_n 2, 1) := by rw [cd_99]; decide +kernel
theorem e_99_144 {d : Nat} {h : mM} {o0 o1 : Option Value} {T : mLs} {x : Int32} {st : List Value} : ev d 99 144 (o0 :: o1 :: some (.int x) :: T) st h = ev d 99 145 (o0 :: o1 :: some (.int x) :: T) (.int x :: st) h := ev_of d_99_144 rfl
theorem d_99_145 : decode (cd 99) 145 = .ok (.iadd, 1) := by rw [cd_99]; decide +kernel
theorem e_99_145 {d : Nat} {h : mM} {L : mLs} {st : List Value} {x y : Int32} : ev d 99 145 L (.int y :: .int x :: st) h = ev d 99 146 L (.int (x + y) :: st) h := ev_of d_99_145 rfl
theorem d_99_146 : decode (cd 99) 146 = .ok (.iconst 1, 1) := by rw [cd_99]; decide +kernel
theorem e_99_146 {d : Nat} {h : mM} {L : mLs} {st : List Value} : ev d 99 146 L st h = ev d 99 147 L (.int 1 :: st) h := ev_of d_99_146 rfl
theorem d_99_147 : decode (cd 99) 147 = .ok (.isub, 1) := by rw [cd_99]; decide +kernel
theorem e_99_147 {d : Nat} {h : mM} {L : mLs} {st : List Value} {x y : Int32} : ev d 99 147 L (.int y :: .int x :: st) h = ev d 99 148 L (.int (x - y) :: st) h := ev_of d_99_147 rfl
theorem d_99_148 : decode (cd 99) 148 = .ok (.laload, 1) := by rw [cd_99]; decide +kernel
theorem e_99_148 {d : Nat} {h : mM} {L : mLs} {st : List Value} {a : Nat} {i : Int32} : ev d 99 148 L (.int i :: .ref a :: st) h = if mK h a = 12 ∧ ixOK i (mL h a) = true then ev d 99 149 L (.long (mJ h a i.toNatClampNeg) :: st) h else none := ev_la d_99_148
theorem d_99_149 : decode (cd 99) 149 = .ok (.lreturn, 1) := by rw [cd_99]; decide +kernel
theorem e_99_149 {d : Nat} {h : mM} {L : mLs} {v : Int64} : ev d 99 149 L [.long v] h = some (some (.long v), h) := ev_rl d_99_149 (by decide +kernel)
-- 100: Model.flour
theorem cd_100 : cd 100 = prog_12_method_23_code := rfl
theorem d_100_0 : decode (cd 100) 0 = .ok (.iload_n 1, 1) := by rw [cd_100]; decide +kernel
theorem e_100_0 {d : Nat} {h : mM} {o0 : Option Value} {T : mLs} {x : Int32} {st : List Value} : ev d 100 0 (o0 :: some (.int x) :: T) st h = ev d 100 1 (o0 :: some (.int x) :: T) (.int x :: st) h := ev_of d_100_0 rfl
theorem d_100_1 : decode (cd 100) 1 = .ok (.iconst 0, 1) := by rw [cd_100]; decide +kernel
theorem e_100_1 {d : Nat} {h : mM} {L : mLs} {st : List Value} : ev d 100 1 L st h = ev d 100 2 L (.int 0 :: st) h := ev_of d_100_1 rfl
theorem d_100_2 : decode (cd 100) 2 = .ok (.bipush 9, 2) := by rw [cd_100]; decide +kernel
theorem e_100_2 {d : Nat} {h : mM} {L : mLs} {st : List Value} : ev d 100 2 L st h = ev d 100 4 L (.int 9 :: st) h := ev_of d_100_2 rfl
theorem d_100_4 : decode (cd 100) 4 = .ok (.invokestatic 114, 3) := by rw [cd_100]; decide +kernel
theorem e_100_4 {d : Nat} {h : mM} {L : mLs} {st : List Value} {x0 : Int32} {x1 : Int32} {x2 : Int32} (hc : mCat st ≤ 8) : ev (d + 1) 100 4 L (.int x2 :: .int x1 :: .int x0 :: st) h = cV (ev d 80 0 [some (.int x0), some (.int x1), some (.int x2)] [] h) (fun v h1 => ev (d + 1) 100 7 L (v ++ st) h1) := ev_cs (kd := 1) (mj := 80) (as := [.int x0, .int x1, .int x2]) (rest := st) d_100_4 (by decide +kernel) (by decide) rfl rfl (by show _ ≤ List.length _; simp only [List.length_cons]; have : na 80 = 3 := rfl; omega) rfl (Nat.le_of_ble_eq_true rfl) hc
theorem d_100_7 : decode (cd 100) 7 = .ok (.ifCond .eq 12, 3) := by rw [cd_100]; decide +kernel
theorem e_100_7 {d : Nat} {h : mM} {L : mLs} {st : List Value} {x : Int32} : ev d 100 7 L (.int x :: st) h = if x = 0 then ev d 100 19 L st h else ev d 100 10 L st h := ev_if (x = 0) inferInstance rfl d_100_7 (by decide)
theorem d_100_10 : decode (cd 100) 10 = .ok (.aload_n 0, 1) := by rw [cd_100]; decide +kernel
theorem e_100_10 {d : Nat} {h : mM} {T : mLs} {x : Nat} {st : List Value} : ev d 100 10 ( some (.ref x) :: T) st h = ev d 100 11 ( some (.ref x) :: T) (.ref x :: st) h := ev_of d_100_10 rfl
theorem d_100_11 : decode (cd 100) 11 = .ok (.getfield 81, 3) := by rw [cd_100]; decide +kernel
theorem e_100_11 {d : Nat} {h : mM} {L : mLs} {st : List Value} {a : Nat} : ev d 100 11 L (.ref a :: st) h = if mK h a = 10 then oB (mR h a 28) (fun b => ev d 100 14 L (.ref b :: st) h) else none := ev_gR d_100_11 (by decide +kernel) (by decide +kernel)
theorem d_100_14 : decode (cd 100) 14 = .ok (.iload_n 1, 1) := by rw [cd_100]; decide +kernel
theorem e_100_14 {d : Nat} {h : mM} {o0 : Option Value} {T : mLs} {x : Int32} {st : List Value} : ev d 100 14 (o0 :: some (.int x) :: T) st h = ev d 100 15 (o0 :: some (.int x) :: T) (.int x :: st) h := ev_of d_100_14 rfl
theorem d_100_15 : decode (cd 100) 15 = .ok (.laload, 1) := by rw [cd_100]; decide +kernel
theorem e_100_15 {d : Nat} {h : mM} {L : mLs} {st : List Value} {a : Nat} {i : Int32} : ev d 100 15 L (.int i :: .ref a :: st) h = if mK h a = 12 ∧ ixOK i (mL h a) = true then ev d 100 16 L (.long (mJ h a i.toNatClampNeg) :: st) h else none := ev_la d_100_15
theorem d_100_16 : decode (cd 100) 16 = .ok (.goto 10, 3) := by rw [cd_100]; decide +kernel
theorem e_100_16 {d : Nat} {h : mM} {L : mLs} {st : List Value} : ev d 100 16 L st h = ev d 100 26 L st h := ev_go d_100_16 (by decide)
theorem d_100_19 : decode (cd 100) 19 = .ok (.aload_n 0, 1) := by rw [cd_100]; decide +kernel
theorem e_100_19 {d : Nat} {h : mM} {T : mLs} {x : Nat} {st : List Value} : ev d 100 19 ( some (.ref x) :: T) st h = ev d 100 20 ( some (.ref x) :: T) (.ref x :: st) h := ev_of d_100_19 rfl
theorem d_100_20 : decode (cd 100) 20 = .ok (.ldc2_w 121, 3) := by rw [cd_100]; decide +kernel
theorem e_100_20 {d : Nat} {h : mM} {L : mLs} {st : List Value} : ev d 100 20 L st h = ev d 100 23 L (.long (-1000000001) :: st) h := ev_of d_100_20 rfl
theorem d_100_23 : decode (cd 100) 23 = .ok (.invokevirtual 123, 3) := by rw [cd_100]; decide +kernel
theorem e_100_23 {d : Nat} {h : mM} {L : mLs} {st : List Value} {a : Nat} {x0 : Int64} (hc : mCat st ≤ 8) : ev (d + 1) 100 23 L (.long x0 :: .ref a :: st) h = if mK h a = 10 then cV (ev d 79 0 [some (.ref a), some (.long x0), none] [] h) (fun v h1 => ev (d + 1) 100 26 L (v ++ st) h1) else none := ev_cv (mj := 79) (as := [.long x0]) (rest := st) d_100_23 (by decide +kernel) rfl rfl (by show _ ≤ List.length _; simp only [List.length_cons]; have : na 79 = 1 := rfl; omega) rfl (Nat.le_of_ble_eq_true rfl) hc
theorem d_100_26 : decode (cd 100) 26 = .ok (.lreturn, 1) := by rw [cd_100]; decide +kernel
theorem e_100_26 {d : Nat} {h : mM} {L : mLs} {v : Int64} : ev d 100 26 L [.long v] h = some (some (.long v), h) := ev_rl d_100_26 (by decide +kernel)
-- 101: Model.flows
theorem cd_101 : cd 101 = prog_12_method_24_code := rfl
theorem d_101_0 : decode (cd 101) 0 = .ok (.aload_n 0, 1) := by rw [cd_101]; decide +kernel
theorem e_101_0 {d : Nat} {h : mM} {T : mLs} {x : Nat} {st : List Value} : ev d 101 0 ( some (.ref x) :: T) st h = ev d 101 1 ( some (.ref x) :: T) (.ref x :: st) h := ev_of d_101_0 rfl
theorem d_101_1 : decode (cd 101) 1 = .ok (.getfield 84, 3) := by rw [cd_101]; decide +kernel
theorem e_101_1 {d : Nat} {h : mM} {L : mLs} {st : List Value} {a : Nat} : ev d 101 1 L (.ref a :: st) h = if mK h a = 10 then oB (mR h a 29) (fun b => ev d 101 4 L (.ref b :: st) h) else none := ev_gR d_101_1 (by decide +kernel) (by decide +kernel)
theorem d_101_4 : decode (cd 101) 4 = .ok (.iload_n 1, 1) := by rw [cd_101]; decide +kernel
theorem e_101_4 {d : Nat} {h : mM} {o0 : Option Value} {T : mLs} {x : Int32} {st : List Value} : ev d 101 4 (o0 :: some (.int x) :: T) st h = ev d 101 5 (o0 :: some (.int x) :: T) (.int x :: st) h := ev_of d_101_4 rfl
theorem d_101_5 : decode (cd 101) 5 = .ok (.dup2, 1) := by rw [cd_101]; decide +kernel
theorem e_101_5 {d : Nat} {h : mM} {L : mLs} {st : List Value} {a : Nat} {i : Int32} : ev d 101 5 L (.int i :: .ref a :: st) h = ev d 101 6 L (.int i :: .ref a :: .int i :: .ref a :: st) h := ev_of d_101_5 rfl
theorem d_101_6 : decode (cd 101) 6 = .ok (.laload, 1) := by rw [cd_101]; decide +kernel
theorem e_101_6 {d : Nat} {h : mM} {L : mLs} {st : List Value} {a : Nat} {i : Int32} : ev d 101 6 L (.int i :: .ref a :: st) h = if mK h a = 12 ∧ ixOK i (mL h a) = true then ev d 101 7 L (.long (mJ h a i.toNatClampNeg) :: st) h else none := ev_la d_101_6
theorem d_101_7 : decode (cd 101) 7 = .ok (.aload_n 0, 1) := by rw [cd_101]; decide +kernel
theorem e_101_7 {d : Nat} {h : mM} {T : mLs} {x : Nat} {st : List Value} : ev d 101 7 ( some (.ref x) :: T) st h = ev d 101 8 ( some (.ref x) :: T) (.ref x :: st) h := ev_of d_101_7 rfl
theorem d_101_8 : decode (cd 101) 8 = .ok (.getfield 154, 3) := by rw [cd_101]; decide +kernel
theorem e_101_8 {d : Nat} {h : mM} {L : mLs} {st : List Value} {a : Nat} : ev d 101 8 L (.ref a :: st) h = if mK h a = 10 then ev d 101 11 L (.int (mI h a 36) :: st) h else none := ev_gI d_101_8 (by decide +kernel) (by decide +kernel)
theorem d_101_11 : decode (cd 101) 11 = .ok (.ifCond .eq 8, 3) := by rw [cd_101]; decide +kernel
theorem e_101_11 {d : Nat} {h : mM} {L : mLs} {st : List Value} {x : Int32} : ev d 101 11 L (.int x :: st) h = if x = 0 then ev d 101 19 L st h else ev d 101 14 L st h := ev_if (x = 0) inferInstance rfl d_101_11 (by decide)
theorem d_101_14 : decode (cd 101) 14 = .ok (.iload_n 2, 1) := by rw [cd_101]; decide +kernel
theorem e_101_14 {d : Nat} {h : mM} {o0 o1 : Option Value} {T : mLs} {x : Int32} {st : List Value} : ev d 101 14 (o0 :: o1 :: some (.int x) :: T) st h = ev d 101 15 (o0 :: o1 :: some (.int x) :: T) (.int x :: st) h := ev_of d_101_14 rfl
theorem d_101_15 : decode (cd 101) 15 = .ok (.i2l, 1) := by rw [cd_101]; decide +kernel
theorem e_101_15 {d : Nat} {h : mM} {L : mLs} {st : List Value} {x : Int32} : ev d 101 15 L (.int x :: st) h = ev d 101 16 L (.long x.toInt64 :: st) h := ev_of d_101_15 rfl
theorem d_101_16 : decode (cd 101) 16 = .ok (.goto 4, 3) := by rw [cd_101]; decide +kernel
theorem e_101_16 {d : Nat} {h : mM} {L : mLs} {st : List Value} : ev d 101 16 L st h = ev d 101 20 L st h := ev_go d_101_16 (by decide)
theorem d_101_19 : decode (cd 101) 19 = .ok (.lconst 0, 1) := by rw [cd_101]; decide +kernel
theorem e_101_19 {d : Nat} {h : mM} {L : mLs} {st : List Value} : ev d 101 19 L st h = ev d 101 20 L (.long 0 :: st) h := ev_of d_101_19 rfl
theorem d_101_20 : decode (cd 101) 20 = .ok (.ladd, 1) := by rw [cd_101]; decide +kernel
theorem e_101_20 {d : Nat} {h : mM} {L : mLs} {st : List Value} {x y : Int64} : ev d 101 20 L (.long y :: .long x :: st) h = ev d 101 21 L (.long (x + y) :: st) h := ev_of d_101_20 rfl
theorem d_101_21 : decode (cd 101) 21 = .ok (.lastore, 1) := by rw [cd_101]; decide +kernel
theorem e_101_21 {d : Nat} {h : mM} {L : mLs} {st : List Value} {a : Nat} {i : Int32} {v : Int64} : ev d 101 21 L (.long v :: .int i :: .ref a :: st) h = if mK h a = 12 ∧ ixOK i (mL h a) = true then ev d 101 22 L st (wJ h a i.toNatClampNeg v) else none := ev_ls d_101_21
theorem d_101_22 : decode (cd 101) 22 = .ok (.return_, 1) := by rw [cd_101]; decide +kernel
theorem e_101_22 {d : Nat} {h : mM} {L : mLs} : ev d 101 22 L [] h = some (none, h) := ev_rv d_101_22 (by decide +kernel)
-- 102: Model.gates
theorem cd_102 : cd 102 = prog_12_method_25_code := rfl
theorem d_102_0 : decode (cd 102) 0 = .ok (.iconst 0, 1) := by rw [cd_102]; decide +kernel
theorem e_102_0 {d : Nat} {h : mM} {L : mLs} {st : List Value} : ev d 102 0 L st h = ev d 102 1 L (.int 0 :: st) h := ev_of d_102_0 rfl
theorem d_102_1 : decode (cd 102) 1 = .ok (.istore_n 3, 1) := by rw [cd_102]; decide +kernel
theorem e_102_1 {d : Nat} {h : mM} {o0 o1 o2 o3 : Option Value} {T : mLs} {x : Int32} {st : List Value} (hl : mLong o2 = false) : ev d 102 1 (o0 :: o1 :: o2 :: o3 :: T) (.int x :: st) h = ev d 102 2 (o0 :: o1 :: o2 :: some (.int x) :: T) st h := ev_st_in d_102_1 (by decide +kernel) (mS1_s (j := 2) hl)
theorem d_102_2 : decode (cd 102) 2 = .ok (.iload_n 3, 1) := by rw [cd_102]; decide +kernel
theorem e_102_2 {d : Nat} {h : mM} {o0 o1 o2 : Option Value} {T : mLs} {x : Int32} {st : List Value} : ev d 102 2 (o0 :: o1 :: o2 :: some (.int x) :: T) st h = ev d 102 3 (o0 :: o1 :: o2 :: some (.int x) :: T) (.int x :: st) h := ev_of d_102_2 rfl
theorem d_102_3 : decode (cd 102) 3 = .ok (.aload_n 0, 1) := by rw [cd_102]; decide +kernel
theorem e_102_3 {d : Nat} {h : mM} {T : mLs} {x : Nat} {st : List Value} : ev d 102 3 ( some (.ref x) :: T) st h = ev d 102 4 ( some (.ref x) :: T) (.ref x :: st) h := ev_of d_102_3 rfl
theorem d_102_4 : decode (cd 102) 4 = .ok (.getfield 111, 3) := by rw [cd_102]; decide +kernel
theorem e_102_4 {d : Nat} {h : mM} {L : mLs} {st : List Value} {a : Nat} : ev d 102 4 L (.ref a :: st) h = if mK h a = 10 then ev d 102 7 L (.int (mI h a 3) :: st) h else none := ev_gI d_102_4 (by decide +kernel) (by decide +kernel)
theorem d_102_7 : decode (cd 102) 7 = .ok (.if_icmp .ge 136, 3) := by rw [cd_102]; decide +kernel
theorem e_102_7 {d : Nat} {h : mM} {L : mLs} {st : List Value} {x y : Int32} : ev d 102 7 L (.int y :: .int x :: st) h = if y ≤ x then ev d 102 143 L st h else ev d 102 10 L st h := ev_ic (y ≤ x) inferInstance rfl d_102_7 (by decide)
theorem d_102_10 : decode (cd 102) 10 = .ok (.aload_n 1, 1) := by rw [cd_102]; decide +kernel
theorem e_102_10 {d : Nat} {h : mM} {o0 : Option Value} {T : mLs} {x : Nat} {st : List Value} : ev d 102 10 (o0 :: some (.ref x) :: T) st h = ev d 102 11 (o0 :: some (.ref x) :: T) (.ref x :: st) h := ev_of d_102_10 rfl
theorem d_102_11 : decode (cd 102) 11 = .ok (.iload_n 3, 1) := by rw [cd_102]; decide +kernel
theorem e_102_11 {d : Nat} {h : mM} {o0 o1 o2 : Option Value} {T : mLs} {x : Int32} {st : List Value} : ev d 102 11 (o0 :: o1 :: o2 :: some (.int x) :: T) st h = ev d 102 12 (o0 :: o1 :: o2 :: some (.int x) :: T) (.int x :: st) h := ev_of d_102_11 rfl
theorem d_102_12 : decode (cd 102) 12 = .ok (.iaload, 1) := by rw [cd_102]; decide +kernel
theorem e_102_12 {d : Nat} {h : mM} {L : mLs} {st : List Value} {a : Nat} {i : Int32} : ev d 102 12 L (.int i :: .ref a :: st) h = if (mK h a = 11 ∨ mK h a = 19) ∧ ixOK i (mL h a) = true then ev d 102 13 L (.int (mI h a i.toNatClampNeg) :: st) h else none := ev_ia d_102_12
theorem d_102_13 : decode (cd 102) 13 = .ok (.aload_n 0, 1) := by rw [cd_102]; decide +kernel
theorem e_102_13 {d : Nat} {h : mM} {T : mLs} {x : Nat} {st : List Value} : ev d 102 13 ( some (.ref x) :: T) st h = ev d 102 14 ( some (.ref x) :: T) (.ref x :: st) h := ev_of d_102_13 rfl
theorem d_102_14 : decode (cd 102) 14 = .ok (.getfield 17, 3) := by rw [cd_102]; decide +kernel
theorem e_102_14 {d : Nat} {h : mM} {L : mLs} {st : List Value} {a : Nat} : ev d 102 14 L (.ref a :: st) h = if mK h a = 10 then oB (mR h a 4) (fun b => ev d 102 17 L (.ref b :: st) h) else none := ev_gR d_102_14 (by decide +kernel) (by decide +kernel)
theorem d_102_17 : decode (cd 102) 17 = .ok (.iload_n 3, 1) := by rw [cd_102]; decide +kernel
theorem e_102_17 {d : Nat} {h : mM} {o0 o1 o2 : Option Value} {T : mLs} {x : Int32} {st : List Value} : ev d 102 17 (o0 :: o1 :: o2 :: some (.int x) :: T) st h = ev d 102 18 (o0 :: o1 :: o2 :: some (.int x) :: T) (.int x :: st) h := ev_of d_102_17 rfl
theorem d_102_18 : decode (cd 102) 18 = .ok (.iaload, 1) := by rw [cd_102]; decide +kernel
theorem e_102_18 {d : Nat} {h : mM} {L : mLs} {st : List Value} {a : Nat} {i : Int32} : ev d 102 18 L (.int i :: .ref a :: st) h = if (mK h a = 11 ∨ mK h a = 19) ∧ ixOK i (mL h a) = true then ev d 102 19 L (.int (mI h a i.toNatClampNeg) :: st) h else none := ev_ia d_102_18
theorem d_102_19 : decode (cd 102) 19 = .ok (.idiv, 1) := by rw [cd_102]; decide +kernel
theorem e_102_19 {d : Nat} {h : mM} {L : mLs} {st : List Value} {x y : Int32} : ev d 102 19 L (.int y :: .int x :: st) h = if y = 0 then none else ev d 102 20 L (.int (x / y) :: st) h := ev_div d_102_19
theorem d_102_20 : decode (cd 102) 20 = .ok (.istore 4, 2) := by rw [cd_102]; decide +kernel
theorem e_102_20 {d : Nat} {h : mM} {o0 o1 o2 o3 o4 : Option Value} {T : mLs} {x : Int32} {st : List Value} (hl : mLong o3 = false) : ev d 102 20 (o0 :: o1 :: o2 :: o3 :: o4 :: T) (.int x :: st) h = ev d 102 22 (o0 :: o1 :: o2 :: o3 :: some (.int x) :: T) st h := ev_st_i d_102_20 (by decide +kernel) (mS1_s (j := 3) hl)
theorem d_102_22 : decode (cd 102) 22 = .ok (.aload_n 1, 1) := by rw [cd_102]; decide +kernel
theorem e_102_22 {d : Nat} {h : mM} {o0 : Option Value} {T : mLs} {x : Nat} {st : List Value} : ev d 102 22 (o0 :: some (.ref x) :: T) st h = ev d 102 23 (o0 :: some (.ref x) :: T) (.ref x :: st) h := ev_of d_102_22 rfl
theorem d_102_23 : decode (cd 102) 23 = .ok (.iload_n 3, 1) := by rw [cd_102]; decide +kernel
theorem e_102_23 {d : Nat} {h : mM} {o0 o1 o2 : Option Value} {T : mLs} {x : Int32} {st : List Value} : ev d 102 23 (o0 :: o1 :: o2 :: some (.int x) :: T) st h = ev d 102 24 (o0 :: o1 :: o2 :: some (.int x) :: T) (.int x :: st) h := ev_of d_102_23 rfl
theorem d_102_24 : decode (cd 102) 24 = .ok (.iaload, 1) := by rw [cd_102]; decide +kernel
theorem e_102_24 {d : Nat} {h : mM} {L : mLs} {st : List Value} {a : Nat} {i : Int32} : ev d 102 24 L (.int i :: .ref a :: st) h = if (mK h a = 11 ∨ mK h a = 19) ∧ ixOK i (mL h a) = true then ev d 102 25 L (.int (mI h a i.toNatClampNeg) :: st) h else none := ev_ia d_102_24
theorem d_102_25 : decode (cd 102) 25 = .ok (.aload_n 0, 1) := by rw [cd_102]; decide +kernel
theorem e_102_25 {d : Nat} {h : mM} {T : mLs} {x : Nat} {st : List Value} : ev d 102 25 ( some (.ref x) :: T) st h = ev d 102 26 ( some (.ref x) :: T) (.ref x :: st) h := ev_of d_102_25 rfl
theorem d_102_26 : decode (cd 102) 26 = .ok (.getfield 17, 3) := by rw [cd_102]; decide +kernel
theorem e_102_26 {d : Nat} {h : mM} {L : mLs} {st : List Value} {a : Nat} : ev d 102 26 L (.ref a :: st) h = if mK h a = 10 then oB (mR h a 4) (fun b => ev d 102 29 L (.ref b :: st) h) else none := ev_gR d_102_26 (by decide +kernel) (by decide +kernel)
theorem d_102_29 : decode (cd 102) 29 = .ok (.iload_n 3, 1) := by rw [cd_102]; decide +kernel
theorem e_102_29 {d : Nat} {h : mM} {o0 o1 o2 : Option Value} {T : mLs} {x : Int32} {st : List Value} : ev d 102 29 (o0 :: o1 :: o2 :: some (.int x) :: T) st h = ev d 102 30 (o0 :: o1 :: o2 :: some (.int x) :: T) (.int x :: st) h := ev_of d_102_29 rfl
theorem d_102_30 : decode (cd 102) 30 = .ok (.iaload, 1) := by rw [cd_102]; decide +kernel
theorem e_102_30 {d : Nat} {h : mM} {L : mLs} {st : List Value} {a : Nat} {i : Int32} : ev d 102 30 L (.int i :: .ref a :: st) h = if (mK h a = 11 ∨ mK h a = 19) ∧ ixOK i (mL h a) = true then ev d 102 31 L (.int (mI h a i.toNatClampNeg) :: st) h else none := ev_ia d_102_30
theorem d_102_31 : decode (cd 102) 31 = .ok (.iload_n 2, 1) := by rw [cd_102]; decide +kernel
theorem e_102_31 {d : Nat} {h : mM} {o0 o1 : Option Value} {T : mLs} {x : Int32} {st : List Value} : ev d 102 31 (o0 :: o1 :: some (.int x) :: T) st h = ev d 102 32 (o0 :: o1 :: some (.int x) :: T) (.int x :: st) h := ev_of d_102_31 rfl
theorem d_102_32 : decode (cd 102) 32 = .ok (.imul, 1) := by rw [cd_102]; decide +kernel
theorem e_102_32 {d : Nat} {h : mM} {L : mLs} {st : List Value} {x y : Int32} : ev d 102 32 L (.int y :: .int x :: st) h = ev d 102 33 L (.int (x * y) :: st) h := ev_of d_102_32 rfl
theorem d_102_33 : decode (cd 102) 33 = .ok (.isub, 1) := by rw [cd_102]; decide +kernel
theorem e_102_33 {d : Nat} {h : mM} {L : mLs} {st : List Value} {x y : Int32} : ev d 102 33 L (.int y :: .int x :: st) h = ev d 102 34 L (.int (x - y) :: st) h := ev_of d_102_33 rfl
theorem d_102_34 : decode (cd 102) 34 = .ok (.istore 5, 2) := by rw [cd_102]; decide +kernel
theorem e_102_34 {d : Nat} {h : mM} {o0 o1 o2 o3 o4 o5 : Option Value} {T : mLs} {x : Int32} {st : List Value} (hl : mLong o4 = false) : ev d 102 34 (o0 :: o1 :: o2 :: o3 :: o4 :: o5 :: T) (.int x :: st) h = ev d 102 36 (o0 :: o1 :: o2 :: o3 :: o4 :: some (.int x) :: T) st h := ev_st_i d_102_34 (by decide +kernel) (mS1_s (j := 4) hl)
theorem d_102_36 : decode (cd 102) 36 = .ok (.aload_n 0, 1) := by rw [cd_102]; decide +kernel
theorem e_102_36 {d : Nat} {h : mM} {T : mLs} {x : Nat} {st : List Value} : ev d 102 36 ( some (.ref x) :: T) st h = ev d 102 37 ( some (.ref x) :: T) (.ref x :: st) h := ev_of d_102_36 rfl
theorem d_102_37 : decode (cd 102) 37 = .ok (.getfield 26, 3) := by rw [cd_102]; decide +kernel
theorem e_102_37 {d : Nat} {h : mM} {L : mLs} {st : List Value} {a : Nat} : ev d 102 37 L (.ref a :: st) h = if mK h a = 10 then oB (mR h a 7) (fun b => ev d 102 40 L (.ref b :: st) h) else none := ev_gR d_102_37 (by decide +kernel) (by decide +kernel)
theorem d_102_40 : decode (cd 102) 40 = .ok (.iload_n 3, 1) := by rw [cd_102]; decide +kernel
theorem e_102_40 {d : Nat} {h : mM} {o0 o1 o2 : Option Value} {T : mLs} {x : Int32} {st : List Value} : ev d 102 40 (o0 :: o1 :: o2 :: some (.int x) :: T) st h = ev d 102 41 (o0 :: o1 :: o2 :: some (.int x) :: T) (.int x :: st) h := ev_of d_102_40 rfl
theorem d_102_41 : decode (cd 102) 41 = .ok (.iaload, 1) := by rw [cd_102]; decide +kernel
theorem e_102_41 {d : Nat} {h : mM} {L : mLs} {st : List Value} {a : Nat} {i : Int32} : ev d 102 41 L (.int i :: .ref a :: st) h = if (mK h a = 11 ∨ mK h a = 19) ∧ ixOK i (mL h a) = true then ev d 102 42 L (.int (mI h a i.toNatClampNeg) :: st) h else none := ev_ia d_102_41
theorem d_102_42 : decode (cd 102) 42 = .ok (.ifCond .le 46, 3) := by rw [cd_102]; decide +kernel
theorem e_102_42 {d : Nat} {h : mM} {L : mLs} {st : List Value} {x : Int32} : ev d 102 42 L (.int x :: st) h = if x ≤ 0 then ev d 102 88 L st h else ev d 102 45 L st h := ev_if (x ≤ 0) inferInstance rfl d_102_42 (by decide)
theorem d_102_45 : decode (cd 102) 45 = .ok (.iload_n 2, 1) := by rw [cd_102]; decide +kernel
theorem e_102_45 {d : Nat} {h : mM} {o0 o1 : Option Value} {T : mLs} {x : Int32} {st : List Value} : ev d 102 45 (o0 :: o1 :: some (.int x) :: T) st h = ev d 102 46 (o0 :: o1 :: some (.int x) :: T) (.int x :: st) h := ev_of d_102_45 rfl
theorem d_102_46 : decode (cd 102) 46 = .ok (.iload 4, 2) := by rw [cd_102]; decide +kernel
theorem e_102_46 {d : Nat} {h : mM} {o0 o1 o2 o3 : Option Value} {T : mLs} {x : Int32} {st : List Value} : ev d 102 46 (o0 :: o1 :: o2 :: o3 :: some (.int x) :: T) st h = ev d 102 48 (o0 :: o1 :: o2 :: o3 :: some (.int x) :: T) (.int x :: st) h := ev_of d_102_46 rfl
theorem d_102_48 : decode (cd 102) 48 = .ok (.if_icmp .le 40, 3) := by rw [cd_102]; decide +kernel
theorem e_102_48 {d : Nat} {h : mM} {L : mLs} {st : List Value} {x y : Int32} : ev d 102 48 L (.int y :: .int x :: st) h = if x ≤ y then ev d 102 88 L st h else ev d 102 51 L st h := ev_ic (x ≤ y) inferInstance rfl d_102_48 (by decide)
theorem d_102_51 : decode (cd 102) 51 = .ok (.aload_n 0, 1) := by rw [cd_102]; decide +kernel
theorem e_102_51 {d : Nat} {h : mM} {T : mLs} {x : Nat} {st : List Value} : ev d 102 51 ( some (.ref x) :: T) st h = ev d 102 52 ( some (.ref x) :: T) (.ref x :: st) h := ev_of d_102_51 rfl
theorem d_102_52 : decode (cd 102) 52 = .ok (.getfield 23, 3) := by rw [cd_102]; decide +kernel
theorem e_102_52 {d : Nat} {h : mM} {L : mLs} {st : List Value} {a : Nat} : ev d 102 52 L (.ref a :: st) h = if mK h a = 10 then oB (mR h a 6) (fun b => ev d 102 55 L (.ref b :: st) h) else none := ev_gR d_102_52 (by decide +kernel) (by decide +kernel)
theorem d_102_55 : decode (cd 102) 55 = .ok (.iload_n 3, 1) := by rw [cd_102]; decide +kernel
theorem e_102_55 {d : Nat} {h : mM} {o0 o1 o2 : Option Value} {T : mLs} {x : Int32} {st : List Value} : ev d 102 55 (o0 :: o1 :: o2 :: some (.int x) :: T) st h = ev d 102 56 (o0 :: o1 :: o2 :: some (.int x) :: T) (.int x :: st) h := ev_of d_102_55 rfl
theorem d_102_56 : decode (cd 102) 56 = .ok (.iaload, 1) := by rw [cd_102]; decide +kernel
theorem e_102_56 {d : Nat} {h : mM} {L : mLs} {st : List Value} {a : Nat} {i : Int32} : ev d 102 56 L (.int i :: .ref a :: st) h = if (mK h a = 11 ∨ mK h a = 19) ∧ ixOK i (mL h a) = true then ev d 102 57 L (.int (mI h a i.toNatClampNeg) :: st) h else none := ev_ia d_102_56
theorem d_102_57 : decode (cd 102) 57 = .ok (.iload_n 2, 1) := by rw [cd_102]; decide +kernel
theorem e_102_57 {d : Nat} {h : mM} {o0 o1 : Option Value} {T : mLs} {x : Int32} {st : List Value} : ev d 102 57 (o0 :: o1 :: some (.int x) :: T) st h = ev d 102 58 (o0 :: o1 :: some (.int x) :: T) (.int x :: st) h := ev_of d_102_57 rfl
theorem d_102_58 : decode (cd 102) 58 = .ok (.iload 4, 2) := by rw [cd_102]; decide +kernel
theorem e_102_58 {d : Nat} {h : mM} {o0 o1 o2 o3 : Option Value} {T : mLs} {x : Int32} {st : List Value} : ev d 102 58 (o0 :: o1 :: o2 :: o3 :: some (.int x) :: T) st h = ev d 102 60 (o0 :: o1 :: o2 :: o3 :: some (.int x) :: T) (.int x :: st) h := ev_of d_102_58 rfl
theorem d_102_60 : decode (cd 102) 60 = .ok (.isub, 1) := by rw [cd_102]; decide +kernel
theorem e_102_60 {d : Nat} {h : mM} {L : mLs} {st : List Value} {x y : Int32} : ev d 102 60 L (.int y :: .int x :: st) h = ev d 102 61 L (.int (x - y) :: st) h := ev_of d_102_60 rfl
theorem d_102_61 : decode (cd 102) 61 = .ok (.imul, 1) := by rw [cd_102]; decide +kernel
theorem e_102_61 {d : Nat} {h : mM} {L : mLs} {st : List Value} {x y : Int32} : ev d 102 61 L (.int y :: .int x :: st) h = ev d 102 62 L (.int (x * y) :: st) h := ev_of d_102_61 rfl
theorem d_102_62 : decode (cd 102) 62 = .ok (.iload 5, 2) := by rw [cd_102]; decide +kernel
theorem e_102_62 {d : Nat} {h : mM} {o0 o1 o2 o3 o4 : Option Value} {T : mLs} {x : Int32} {st : List Value} : ev d 102 62 (o0 :: o1 :: o2 :: o3 :: o4 :: some (.int x) :: T) st h = ev d 102 64 (o0 :: o1 :: o2 :: o3 :: o4 :: some (.int x) :: T) (.int x :: st) h := ev_of d_102_62 rfl
theorem d_102_64 : decode (cd 102) 64 = .ok (.ineg, 1) := by rw [cd_102]; decide +kernel
theorem e_102_64 {d : Nat} {h : mM} {L : mLs} {st : List Value} {x : Int32} : ev d 102 64 L (.int x :: st) h = ev d 102 65 L (.int (-x) :: st) h := ev_of d_102_64 rfl
theorem d_102_65 : decode (cd 102) 65 = .ok (.invokestatic 158, 3) := by rw [cd_102]; decide +kernel
theorem e_102_65 {d : Nat} {h : mM} {L : mLs} {st : List Value} {x y : Int32} (hc : mCat st ≤ 8) : ev d 102 65 L (.int y :: .int x :: st) h = ev d 102 68 L (.int (if y < x then y else x) :: st) h := ev_min (mj := 0) d_102_65 (by decide +kernel) hc
theorem d_102_68 : decode (cd 102) 68 = .ok (.istore 6, 2) := by rw [cd_102]; decide +kernel
theorem e_102_68 {d : Nat} {h : mM} {o0 o1 o2 o3 o4 o5 o6 : Option Value} {T : mLs} {x : Int32} {st : List Value} (hl : mLong o5 = false) : ev d 102 68 (o0 :: o1 :: o2 :: o3 :: o4 :: o5 :: o6 :: T) (.int x :: st) h = ev d 102 70 (o0 :: o1 :: o2 :: o3 :: o4 :: o5 :: some (.int x) :: T) st h := ev_st_i d_102_68 (by decide +kernel) (mS1_s (j := 5) hl)
theorem d_102_70 : decode (cd 102) 70 = .ok (.aload_n 1, 1) := by rw [cd_102]; decide +kernel
theorem e_102_70 {d : Nat} {h : mM} {o0 : Option Value} {T : mLs} {x : Nat} {st : List Value} : ev d 102 70 (o0 :: some (.ref x) :: T) st h = ev d 102 71 (o0 :: some (.ref x) :: T) (.ref x :: st) h := ev_of d_102_70 rfl
theorem d_102_71 : decode (cd 102) 71 = .ok (.iload_n 3, 1) := by rw [cd_102]; decide +kernel
theorem e_102_71 {d : Nat} {h : mM} {o0 o1 o2 : Option Value} {T : mLs} {x : Int32} {st : List Value} : ev d 102 71 (o0 :: o1 :: o2 :: some (.int x) :: T) st h = ev d 102 72 (o0 :: o1 :: o2 :: some (.int x) :: T) (.int x :: st) h := ev_of d_102_71 rfl
theorem d_102_72 : decode (cd 102) 72 = .ok (.dup2, 1) := by rw [cd_102]; decide +kernel
theorem e_102_72 {d : Nat} {h : mM} {L : mLs} {st : List Value} {a : Nat} {i : Int32} : ev d 102 72 L (.int i :: .ref a :: st) h = ev d 102 73 L (.int i :: .ref a :: .int i :: .ref a :: st) h := ev_of d_102_72 rfl
theorem d_102_73 : decode (cd 102) 73 = .ok (.iaload, 1) := by rw [cd_102]; decide +kernel
theorem e_102_73 {d : Nat} {h : mM} {L : mLs} {st : List Value} {a : Nat} {i : Int32} : ev d 102 73 L (.int i :: .ref a :: st) h = if (mK h a = 11 ∨ mK h a = 19) ∧ ixOK i (mL h a) = true then ev d 102 74 L (.int (mI h a i.toNatClampNeg) :: st) h else none := ev_ia d_102_73
theorem d_102_74 : decode (cd 102) 74 = .ok (.iload 6, 2) := by rw [cd_102]; decide +kernel
theorem e_102_74 {d : Nat} {h : mM} {o0 o1 o2 o3 o4 o5 : Option Value} {T : mLs} {x : Int32} {st : List Value} : ev d 102 74 (o0 :: o1 :: o2 :: o3 :: o4 :: o5 :: some (.int x) :: T) st h = ev d 102 76 (o0 :: o1 :: o2 :: o3 :: o4 :: o5 :: some (.int x) :: T) (.int x :: st) h := ev_of d_102_74 rfl
theorem d_102_76 : decode (cd 102) 76 = .ok (.iadd, 1) := by rw [cd_102]; decide +kernel
theorem e_102_76 {d : Nat} {h : mM} {L : mLs} {st : List Value} {x y : Int32} : ev d 102 76 L (.int y :: .int x :: st) h = ev d 102 77 L (.int (x + y) :: st) h := ev_of d_102_76 rfl
theorem d_102_77 : decode (cd 102) 77 = .ok (.iastore, 1) := by rw [cd_102]; decide +kernel
theorem e_102_77 {d : Nat} {h : mM} {L : mLs} {st : List Value} {a : Nat} {i v : Int32} : ev d 102 77 L (.int v :: .int i :: .ref a :: st) h = if mK h a = 11 ∧ ixOK i (mL h a) = true then ev d 102 78 L st (wI h a i.toNatClampNeg v) else none := ev_is d_102_77
theorem d_102_78 : decode (cd 102) 78 = .ok (.aload_n 0, 1) := by rw [cd_102]; decide +kernel
theorem e_102_78 {d : Nat} {h : mM} {T : mLs} {x : Nat} {st : List Value} : ev d 102 78 ( some (.ref x) :: T) st h = ev d 102 79 ( some (.ref x) :: T) (.ref x :: st) h := ev_of d_102_78 rfl
theorem d_102_79 : decode (cd 102) 79 = .ok (.iconst 0, 1) := by rw [cd_102]; decide +kernel
theorem e_102_79 {d : Nat} {h : mM} {L : mLs} {st : List Value} : ev d 102 79 L st h = ev d 102 80 L (.int 0 :: st) h := ev_of d_102_79 rfl
theorem d_102_80 : decode (cd 102) 80 = .ok (.iload 6, 2) := by rw [cd_102]; decide +kernel
theorem e_102_80 {d : Nat} {h : mM} {o0 o1 o2 o3 o4 o5 : Option Value} {T : mLs} {x : Int32} {st : List Value} : ev d 102 80 (o0 :: o1 :: o2 :: o3 :: o4 :: o5 :: some (.int x) :: T) st h = ev d 102 82 (o0 :: o1 :: o2 :: o3 :: o4 :: o5 :: some (.int x) :: T) (.int x :: st) h := ev_of d_102_80 rfl
theorem d_102_82 : decode (cd 102) 82 = .ok (.invokevirtual 161, 3) := by rw [cd_102]; decide +kernel
theorem e_102_82 {d : Nat} {h : mM} {L : mLs} {st : List Value} {a : Nat} {x0 : Int32} {x1 : Int32} (hc : mCat st ≤ 8) : ev (d + 1) 102 82 L (.int x1 :: .int x0 :: .ref a :: st) h = if mK h a = 10 then cV (ev d 101 0 [some (.ref a), some (.int x0), some (.int x1)] [] h) (fun v h1 => ev (d + 1) 102 85 L (v ++ st) h1) else none := ev_cv (mj := 101) (as := [.int x0, .int x1]) (rest := st) d_102_82 (by decide +kernel) rfl rfl (by show _ ≤ List.length _; simp only [List.length_cons]; have : na 101 = 2 := rfl; omega) rfl (Nat.le_of_ble_eq_true rfl) hc
theorem d_102_85 : decode (cd 102) 85 = .ok (.goto 52, 3) := by rw [cd_102]; decide +kernel
theorem e_102_85 {d : Nat} {h : mM} {L : mLs} {st : List Value} : ev d 102 85 L st h = ev d 102 137 L st h := ev_go d_102_85 (by decide)
theorem d_102_88 : decode (cd 102) 88 = .ok (.aload_n 0, 1) := by rw [cd_102]; decide +kernel
theorem e_102_88 {d : Nat} {h : mM} {T : mLs} {x : Nat} {st : List Value} : ev d 102 88 ( some (.ref x) :: T) st h = ev d 102 89 ( some (.ref x) :: T) (.ref x :: st) h := ev_of d_102_88 rfl
theorem d_102_89 : decode (cd 102) 89 = .ok (.getfield 26, 3) := by rw [cd_102]; decide +kernel
theorem e_102_89 {d : Nat} {h : mM} {L : mLs} {st : List Value} {a : Nat} : ev d 102 89 L (.ref a :: st) h = if mK h a = 10 then oB (mR h a 7) (fun b => ev d 102 92 L (.ref b :: st) h) else none := ev_gR d_102_89 (by decide +kernel) (by decide +kernel)
theorem d_102_92 : decode (cd 102) 92 = .ok (.iload_n 3, 1) := by rw [cd_102]; decide +kernel
theorem e_102_92 {d : Nat} {h : mM} {o0 o1 o2 : Option Value} {T : mLs} {x : Int32} {st : List Value} : ev d 102 92 (o0 :: o1 :: o2 :: some (.int x) :: T) st h = ev d 102 93 (o0 :: o1 :: o2 :: some (.int x) :: T) (.int x :: st) h := ev_of d_102_92 rfl
theorem d_102_93 : decode (cd 102) 93 = .ok (.iaload, 1) := by rw [cd_102]; decide +kernel
theorem e_102_93 {d : Nat} {h : mM} {L : mLs} {st : List Value} {a : Nat} {i : Int32} : ev d 102 93 L (.int i :: .ref a :: st) h = if (mK h a = 11 ∨ mK h a = 19) ∧ ixOK i (mL h a) = true then ev d 102 94 L (.int (mI h a i.toNatClampNeg) :: st) h else none := ev_ia d_102_93
theorem d_102_94 : decode (cd 102) 94 = .ok (.iconst 2, 1) := by rw [cd_102]; decide +kernel
theorem e_102_94 {d : Nat} {h : mM} {L : mLs} {st : List Value} : ev d 102 94 L st h = ev d 102 95 L (.int 2 :: st) h := ev_of d_102_94 rfl
theorem d_102_95 : decode (cd 102) 95 = .ok (.if_icmp .ne 42, 3) := by rw [cd_102]; decide +kernel
theorem e_102_95 {d : Nat} {h : mM} {L : mLs} {st : List Value} {x y : Int32} : ev d 102 95 L (.int y :: .int x :: st) h = if ¬ x = y then ev d 102 137 L st h else ev d 102 98 L st h := ev_ic (¬ x = y) inferInstance rfl d_102_95 (by decide)
theorem d_102_98 : decode (cd 102) 98 = .ok (.iload_n 2, 1) := by rw [cd_102]; decide +kernel
theorem e_102_98 {d : Nat} {h : mM} {o0 o1 : Option Value} {T : mLs} {x : Int32} {st : List Value} : ev d 102 98 (o0 :: o1 :: some (.int x) :: T) st h = ev d 102 99 (o0 :: o1 :: some (.int x) :: T) (.int x :: st) h := ev_of d_102_98 rfl
theorem d_102_99 : decode (cd 102) 99 = .ok (.iload 4, 2) := by rw [cd_102]; decide +kernel
theorem e_102_99 {d : Nat} {h : mM} {o0 o1 o2 o3 : Option Value} {T : mLs} {x : Int32} {st : List Value} : ev d 102 99 (o0 :: o1 :: o2 :: o3 :: some (.int x) :: T) st h = ev d 102 101 (o0 :: o1 :: o2 :: o3 :: some (.int x) :: T) (.int x :: st) h := ev_of d_102_99 rfl
theorem d_102_101 : decode (cd 102) 101 = .ok (.if_icmp .ge 36, 3) := by rw [cd_102]; decide +kernel
theorem e_102_101 {d : Nat} {h : mM} {L : mLs} {st : List Value} {x y : Int32} : ev d 102 101 L (.int y :: .int x :: st) h = if y ≤ x then ev d 102 137 L st h else ev d 102 104 L st h := ev_ic (y ≤ x) inferInstance rfl d_102_101 (by decide)
theorem d_102_104 : decode (cd 102) 104 = .ok (.aload_n 0, 1) := by rw [cd_102]; decide +kernel
theorem e_102_104 {d : Nat} {h : mM} {T : mLs} {x : Nat} {st : List Value} : ev d 102 104 ( some (.ref x) :: T) st h = ev d 102 105 ( some (.ref x) :: T) (.ref x :: st) h := ev_of d_102_104 rfl
theorem d_102_105 : decode (cd 102) 105 = .ok (.getfield 23, 3) := by rw [cd_102]; decide +kernel
theorem e_102_105 {d : Nat} {h : mM} {L : mLs} {st : List Value} {a : Nat} : ev d 102 105 L (.ref a :: st) h = if mK h a = 10 then oB (mR h a 6) (fun b => ev d 102 108 L (.ref b :: st) h) else none := ev_gR d_102_105 (by decide +kernel) (by decide +kernel)
theorem d_102_108 : decode (cd 102) 108 = .ok (.iload_n 3, 1) := by rw [cd_102]; decide +kernel
theorem e_102_108 {d : Nat} {h : mM} {o0 o1 o2 : Option Value} {T : mLs} {x : Int32} {st : List Value} : ev d 102 108 (o0 :: o1 :: o2 :: some (.int x) :: T) st h = ev d 102 109 (o0 :: o1 :: o2 :: some (.int x) :: T) (.int x :: st) h := ev_of d_102_108 rfl
theorem d_102_109 : decode (cd 102) 109 = .ok (.iaload, 1) := by rw [cd_102]; decide +kernel
theorem e_102_109 {d : Nat} {h : mM} {L : mLs} {st : List Value} {a : Nat} {i : Int32} : ev d 102 109 L (.int i :: .ref a :: st) h = if (mK h a = 11 ∨ mK h a = 19) ∧ ixOK i (mL h a) = true then ev d 102 110 L (.int (mI h a i.toNatClampNeg) :: st) h else none := ev_ia d_102_109
theorem d_102_110 : decode (cd 102) 110 = .ok (.iload 4, 2) := by rw [cd_102]; decide +kernel
theorem e_102_110 {d : Nat} {h : mM} {o0 o1 o2 o3 : Option Value} {T : mLs} {x : Int32} {st : List Value} : ev d 102 110 (o0 :: o1 :: o2 :: o3 :: some (.int x) :: T) st h = ev d 102 112 (o0 :: o1 :: o2 :: o3 :: some (.int x) :: T) (.int x :: st) h := ev_of d_102_110 rfl
theorem d_102_112 : decode (cd 102) 112 = .ok (.iload_n 2, 1) := by rw [cd_102]; decide +kernel
theorem e_102_112 {d : Nat} {h : mM} {o0 o1 : Option Value} {T : mLs} {x : Int32} {st : List Value} : ev d 102 112 (o0 :: o1 :: some (.int x) :: T) st h = ev d 102 113 (o0 :: o1 :: some (.int x) :: T) (.int x :: st) h := ev_of d_102_112 rfl
theorem d_102_113 : decode (cd 102) 113 = .ok (.isub, 1) := by rw [cd_102]; decide +kernel
theorem e_102_113 {d : Nat} {h : mM} {L : mLs} {st : List Value} {x y : Int32} : ev d 102 113 L (.int y :: .int x :: st) h = ev d 102 114 L (.int (x - y) :: st) h := ev_of d_102_113 rfl
theorem d_102_114 : decode (cd 102) 114 = .ok (.imul, 1) := by rw [cd_102]; decide +kernel
theorem e_102_114 {d : Nat} {h : mM} {L : mLs} {st : List Value} {x y : Int32} : ev d 102 114 L (.int y :: .int x :: st) h = ev d 102 115 L (.int (x * y) :: st) h := ev_of d_102_114 rfl
theorem d_102_115 : decode (cd 102) 115 = .ok (.iload 5, 2) := by rw [cd_102]; decide +kernel
theorem e_102_115 {d : Nat} {h : mM} {o0 o1 o2 o3 o4 : Option Value} {T : mLs} {x : Int32} {st : List Value} : ev d 102 115 (o0 :: o1 :: o2 :: o3 :: o4 :: some (.int x) :: T) st h = ev d 102 117 (o0 :: o1 :: o2 :: o3 :: o4 :: some (.int x) :: T) (.int x :: st) h := ev_of d_102_115 rfl
theorem d_102_117 : decode (cd 102) 117 = .ok (.invokestatic 158, 3) := by rw [cd_102]; decide +kernel
theorem e_102_117 {d : Nat} {h : mM} {L : mLs} {st : List Value} {x y : Int32} (hc : mCat st ≤ 8) : ev d 102 117 L (.int y :: .int x :: st) h = ev d 102 120 L (.int (if y < x then y else x) :: st) h := ev_min (mj := 0) d_102_117 (by decide +kernel) hc
theorem d_102_120 : decode (cd 102) 120 = .ok (.istore 6, 2) := by rw [cd_102]; decide +kernel
theorem e_102_120 {d : Nat} {h : mM} {o0 o1 o2 o3 o4 o5 o6 : Option Value} {T : mLs} {x : Int32} {st : List Value} (hl : mLong o5 = false) : ev d 102 120 (o0 :: o1 :: o2 :: o3 :: o4 :: o5 :: o6 :: T) (.int x :: st) h = ev d 102 122 (o0 :: o1 :: o2 :: o3 :: o4 :: o5 :: some (.int x) :: T) st h := ev_st_i d_102_120 (by decide +kernel) (mS1_s (j := 5) hl)
theorem d_102_122 : decode (cd 102) 122 = .ok (.aload_n 1, 1) := by rw [cd_102]; decide +kernel
theorem e_102_122 {d : Nat} {h : mM} {o0 : Option Value} {T : mLs} {x : Nat} {st : List Value} : ev d 102 122 (o0 :: some (.ref x) :: T) st h = ev d 102 123 (o0 :: some (.ref x) :: T) (.ref x :: st) h := ev_of d_102_122 rfl
theorem d_102_123 : decode (cd 102) 123 = .ok (.iload_n 3, 1) := by rw [cd_102]; decide +kernel
theorem e_102_123 {d : Nat} {h : mM} {o0 o1 o2 : Option Value} {T : mLs} {x : Int32} {st : List Value} : ev d 102 123 (o0 :: o1 :: o2 :: some (.int x) :: T) st h = ev d 102 124 (o0 :: o1 :: o2 :: some (.int x) :: T) (.int x :: st) h := ev_of d_102_123 rfl
theorem d_102_124 : decode (cd 102) 124 = .ok (.dup2, 1) := by rw [cd_102]; decide +kernel
theorem e_102_124 {d : Nat} {h : mM} {L : mLs} {st : List Value} {a : Nat} {i : Int32} : ev d 102 124 L (.int i :: .ref a :: st) h = ev d 102 125 L (.int i :: .ref a :: .int i :: .ref a :: st) h := ev_of d_102_124 rfl
theorem d_102_125 : decode (cd 102) 125 = .ok (.iaload, 1) := by rw [cd_102]; decide +kernel
theorem e_102_125 {d : Nat} {h : mM} {L : mLs} {st : List Value} {a : Nat} {i : Int32} : ev d 102 125 L (.int i :: .ref a :: st) h = if (mK h a = 11 ∨ mK h a = 19) ∧ ixOK i (mL h a) = true then ev d 102 126 L (.int (mI h a i.toNatClampNeg) :: st) h else none := ev_ia d_102_125
theorem d_102_126 : decode (cd 102) 126 = .ok (.iload 6, 2) := by rw [cd_102]; decide +kernel
theorem e_102_126 {d : Nat} {h : mM} {o0 o1 o2 o3 o4 o5 : Option Value} {T : mLs} {x : Int32} {st : List Value} : ev d 102 126 (o0 :: o1 :: o2 :: o3 :: o4 :: o5 :: some (.int x) :: T) st h = ev d 102 128 (o0 :: o1 :: o2 :: o3 :: o4 :: o5 :: some (.int x) :: T) (.int x :: st) h := ev_of d_102_126 rfl
theorem d_102_128 : decode (cd 102) 128 = .ok (.isub, 1) := by rw [cd_102]; decide +kernel
theorem e_102_128 {d : Nat} {h : mM} {L : mLs} {st : List Value} {x y : Int32} : ev d 102 128 L (.int y :: .int x :: st) h = ev d 102 129 L (.int (x - y) :: st) h := ev_of d_102_128 rfl
theorem d_102_129 : decode (cd 102) 129 = .ok (.iastore, 1) := by rw [cd_102]; decide +kernel
theorem e_102_129 {d : Nat} {h : mM} {L : mLs} {st : List Value} {a : Nat} {i v : Int32} : ev d 102 129 L (.int v :: .int i :: .ref a :: st) h = if mK h a = 11 ∧ ixOK i (mL h a) = true then ev d 102 130 L st (wI h a i.toNatClampNeg v) else none := ev_is d_102_129
theorem d_102_130 : decode (cd 102) 130 = .ok (.aload_n 0, 1) := by rw [cd_102]; decide +kernel
theorem e_102_130 {d : Nat} {h : mM} {T : mLs} {x : Nat} {st : List Value} : ev d 102 130 ( some (.ref x) :: T) st h = ev d 102 131 ( some (.ref x) :: T) (.ref x :: st) h := ev_of d_102_130 rfl
theorem d_102_131 : decode (cd 102) 131 = .ok (.iconst 1, 1) := by rw [cd_102]; decide +kernel
theorem e_102_131 {d : Nat} {h : mM} {L : mLs} {st : List Value} : ev d 102 131 L st h = ev d 102 132 L (.int 1 :: st) h := ev_of d_102_131 rfl
theorem d_102_132 : decode (cd 102) 132 = .ok (.iload 6, 2) := by rw [cd_102]; decide +kernel
theorem e_102_132 {d : Nat} {h : mM} {o0 o1 o2 o3 o4 o5 : Option Value} {T : mLs} {x : Int32} {st : List Value} : ev d 102 132 (o0 :: o1 :: o2 :: o3 :: o4 :: o5 :: some (.int x) :: T) st h = ev d 102 134 (o0 :: o1 :: o2 :: o3 :: o4 :: o5 :: some (.int x) :: T) (.int x :: st) h := ev_of d_102_132 rfl
theorem d_102_134 : decode (cd 102) 134 = .ok (.invokevirtual 161, 3) := by rw [cd_102]; decide +kernel
theorem e_102_134 {d : Nat} {h : mM} {L : mLs} {st : List Value} {a : Nat} {x0 : Int32} {x1 : Int32} (hc : mCat st ≤ 8) : ev (d + 1) 102 134 L (.int x1 :: .int x0 :: .ref a :: st) h = if mK h a = 10 then cV (ev d 101 0 [some (.ref a), some (.int x0), some (.int x1)] [] h) (fun v h1 => ev (d + 1) 102 137 L (v ++ st) h1) else none := ev_cv (mj := 101) (as := [.int x0, .int x1]) (rest := st) d_102_134 (by decide +kernel) rfl rfl (by show _ ≤ List.length _; simp only [List.length_cons]; have : na 101 = 2 := rfl; omega) rfl (Nat.le_of_ble_eq_true rfl) hc
theorem d_102_137 : decode (cd 102) 137 = .ok (.iinc 3 1, 3) := by rw [cd_102]; decide +kernel
theorem e_102_137 {d : Nat} {h : mM} {o0 o1 o2 : Option Value} {T : mLs} {x : Int32} {st : List Value} (hl : mLong o2 = false) : ev d 102 137 (o0 :: o1 :: o2 :: some (.int x) :: T) st h = ev d 102 140 (o0 :: o1 :: o2 :: some (.int (x + 1)) :: T) st h := ev_inc d_102_137 (by decide +kernel) rfl rfl (mS1_s (j := 2) hl)
theorem d_102_140 : decode (cd 102) 140 = .ok (.goto (-138), 3) := by rw [cd_102]; decide +kernel
theorem e_102_140 {d : Nat} {h : mM} {L : mLs} {st : List Value} : ev d 102 140 L st h = ev d 102 2 L st h := ev_go d_102_140 (by decide)
theorem d_102_143 : decode (cd 102) 143 = .ok (.return_, 1) := by rw [cd_102]; decide +kernel
theorem e_102_143 {d : Nat} {h : mM} {L : mLs} : ev d 102 143 L [] h = some (none, h) := ev_rv d_102_143 (by decide +kernel)
-- 103: Model.evens
theorem cd_103 : cd 103 = prog_12_method_26_code := rfl
theorem d_103_0 : decode (cd 103) 0 = .ok (.iconst 0, 1) := by rw [cd_103]; decide +kernel
theorem e_103_0 {d : Nat} {h : mM} {L : mLs} {st : List Value} : ev d 103 0 L st h = ev d 103 1 L (.int 0 :: st) h := ev_of d_103_0 rfl
theorem d_103_1 : decode (cd 103) 1 = .ok (.istore_n 2, 1) := by rw [cd_103]; decide +kernel
theorem e_103_1 {d : Nat} {h : mM} {o0 o1 o2 : Option Value} {T : mLs} {x : Int32} {st : List Value} (hl : mLong o1 = false) : ev d 103 1 (o0 :: o1 :: o2 :: T) (.int x :: st) h = ev d 103 2 (o0 :: o1 :: some (.int x) :: T) st h := ev_st_in d_103_1 (by decide +kernel) (mS1_s (j := 1) hl)
theorem d_103_2 : decode (cd 103) 2 = .ok (.iload_n 2, 1) := by rw [cd_103]; decide +kernel
theorem e_103_2 {d : Nat} {h : mM} {o0 o1 : Option Value} {T : mLs} {x : Int32} {st : List Value} : ev d 103 2 (o0 :: o1 :: some (.int x) :: T) st h = ev d 103 3 (o0 :: o1 :: some (.int x) :: T) (.int x :: st) h := ev_of d_103_2 rfl
theorem d_103_3 : decode (cd 103) 3 = .ok (.aload_n 0, 1) := by rw [cd_103]; decide +kernel
theorem e_103_3 {d : Nat} {h : mM} {T : mLs} {x : Nat} {st : List Value} : ev d 103 3 ( some (.ref x) :: T) st h = ev d 103 4 ( some (.ref x) :: T) (.ref x :: st) h := ev_of d_103_3 rfl
theorem d_103_4 : decode (cd 103) 4 = .ok (.getfield 136, 3) := by rw [cd_103]; decide +kernel
theorem e_103_4 {d : Nat} {h : mM} {L : mLs} {st : List Value} {a : Nat} : ev d 103 4 L (.ref a :: st) h = if mK h a = 10 then ev d 103 7 L (.int (mI h a 9) :: st) h else none := ev_gI d_103_4 (by decide +kernel) (by decide +kernel)
theorem d_103_7 : decode (cd 103) 7 = .ok (.if_icmp .ge 187, 3) := by rw [cd_103]; decide +kernel
theorem e_103_7 {d : Nat} {h : mM} {L : mLs} {st : List Value} {x y : Int32} : ev d 103 7 L (.int y :: .int x :: st) h = if y ≤ x then ev d 103 194 L st h else ev d 103 10 L st h := ev_ic (y ≤ x) inferInstance rfl d_103_7 (by decide)
theorem d_103_10 : decode (cd 103) 10 = .ok (.aload_n 0, 1) := by rw [cd_103]; decide +kernel
theorem e_103_10 {d : Nat} {h : mM} {T : mLs} {x : Nat} {st : List Value} : ev d 103 10 ( some (.ref x) :: T) st h = ev d 103 11 ( some (.ref x) :: T) (.ref x :: st) h := ev_of d_103_10 rfl
theorem d_103_11 : decode (cd 103) 11 = .ok (.getfield 32, 3) := by rw [cd_103]; decide +kernel
theorem e_103_11 {d : Nat} {h : mM} {L : mLs} {st : List Value} {a : Nat} : ev d 103 11 L (.ref a :: st) h = if mK h a = 10 then oB (mR h a 10) (fun b => ev d 103 14 L (.ref b :: st) h) else none := ev_gR d_103_11 (by decide +kernel) (by decide +kernel)
theorem d_103_14 : decode (cd 103) 14 = .ok (.iload_n 2, 1) := by rw [cd_103]; decide +kernel
theorem e_103_14 {d : Nat} {h : mM} {o0 o1 : Option Value} {T : mLs} {x : Int32} {st : List Value} : ev d 103 14 (o0 :: o1 :: some (.int x) :: T) st h = ev d 103 15 (o0 :: o1 :: some (.int x) :: T) (.int x :: st) h := ev_of d_103_14 rfl
theorem d_103_15 : decode (cd 103) 15 = .ok (.iaload, 1) := by rw [cd_103]; decide +kernel
theorem e_103_15 {d : Nat} {h : mM} {L : mLs} {st : List Value} {a : Nat} {i : Int32} : ev d 103 15 L (.int i :: .ref a :: st) h = if (mK h a = 11 ∨ mK h a = 19) ∧ ixOK i (mL h a) = true then ev d 103 16 L (.int (mI h a i.toNatClampNeg) :: st) h else none := ev_ia d_103_15
theorem d_103_16 : decode (cd 103) 16 = .ok (.istore_n 3, 1) := by rw [cd_103]; decide +kernel
theorem e_103_16 {d : Nat} {h : mM} {o0 o1 o2 o3 : Option Value} {T : mLs} {x : Int32} {st : List Value} (hl : mLong o2 = false) : ev d 103 16 (o0 :: o1 :: o2 :: o3 :: T) (.int x :: st) h = ev d 103 17 (o0 :: o1 :: o2 :: some (.int x) :: T) st h := ev_st_in d_103_16 (by decide +kernel) (mS1_s (j := 2) hl)
theorem d_103_17 : decode (cd 103) 17 = .ok (.aload_n 0, 1) := by rw [cd_103]; decide +kernel
theorem e_103_17 {d : Nat} {h : mM} {T : mLs} {x : Nat} {st : List Value} : ev d 103 17 ( some (.ref x) :: T) st h = ev d 103 18 ( some (.ref x) :: T) (.ref x :: st) h := ev_of d_103_17 rfl
theorem d_103_18 : decode (cd 103) 18 = .ok (.getfield 35, 3) := by rw [cd_103]; decide +kernel
theorem e_103_18 {d : Nat} {h : mM} {L : mLs} {st : List Value} {a : Nat} : ev d 103 18 L (.ref a :: st) h = if mK h a = 10 then oB (mR h a 11) (fun b => ev d 103 21 L (.ref b :: st) h) else none := ev_gR d_103_18 (by decide +kernel) (by decide +kernel)
theorem d_103_21 : decode (cd 103) 21 = .ok (.iload_n 2, 1) := by rw [cd_103]; decide +kernel
theorem e_103_21 {d : Nat} {h : mM} {o0 o1 : Option Value} {T : mLs} {x : Int32} {st : List Value} : ev d 103 21 (o0 :: o1 :: some (.int x) :: T) st h = ev d 103 22 (o0 :: o1 :: some (.int x) :: T) (.int x :: st) h := ev_of d_103_21 rfl
theorem d_103_22 : decode (cd 103) 22 = .ok (.iaload, 1) := by rw [cd_103]; decide +kernel
theorem e_103_22 {d : Nat} {h : mM} {L : mLs} {st : List Value} {a : Nat} {i : Int32} : ev d 103 22 L (.int i :: .ref a :: st) h = if (mK h a = 11 ∨ mK h a = 19) ∧ ixOK i (mL h a) = true then ev d 103 23 L (.int (mI h a i.toNatClampNeg) :: st) h else none := ev_ia d_103_22
theorem d_103_23 : decode (cd 103) 23 = .ok (.istore 4, 2) := by rw [cd_103]; decide +kernel
theorem e_103_23 {d : Nat} {h : mM} {o0 o1 o2 o3 o4 : Option Value} {T : mLs} {x : Int32} {st : List Value} (hl : mLong o3 = false) : ev d 103 23 (o0 :: o1 :: o2 :: o3 :: o4 :: T) (.int x :: st) h = ev d 103 25 (o0 :: o1 :: o2 :: o3 :: some (.int x) :: T) st h := ev_st_i d_103_23 (by decide +kernel) (mS1_s (j := 3) hl)
theorem d_103_25 : decode (cd 103) 25 = .ok (.aload_n 1, 1) := by rw [cd_103]; decide +kernel
theorem e_103_25 {d : Nat} {h : mM} {o0 : Option Value} {T : mLs} {x : Nat} {st : List Value} : ev d 103 25 (o0 :: some (.ref x) :: T) st h = ev d 103 26 (o0 :: some (.ref x) :: T) (.ref x :: st) h := ev_of d_103_25 rfl
theorem d_103_26 : decode (cd 103) 26 = .ok (.iload_n 3, 1) := by rw [cd_103]; decide +kernel
theorem e_103_26 {d : Nat} {h : mM} {o0 o1 o2 : Option Value} {T : mLs} {x : Int32} {st : List Value} : ev d 103 26 (o0 :: o1 :: o2 :: some (.int x) :: T) st h = ev d 103 27 (o0 :: o1 :: o2 :: some (.int x) :: T) (.int x :: st) h := ev_of d_103_26 rfl
theorem d_103_27 : decode (cd 103) 27 = .ok (.iaload, 1) := by rw [cd_103]; decide +kernel
theorem e_103_27 {d : Nat} {h : mM} {L : mLs} {st : List Value} {a : Nat} {i : Int32} : ev d 103 27 L (.int i :: .ref a :: st) h = if (mK h a = 11 ∨ mK h a = 19) ∧ ixOK i (mL h a) = true then ev d 103 28 L (.int (mI h a i.toNatClampNeg) :: st) h else none := ev_ia d_103_27
theorem d_103_28 : decode (cd 103) 28 = .ok (.aload_n 0, 1) := by rw [cd_103]; decide +kernel
theorem e_103_28 {d : Nat} {h : mM} {T : mLs} {x : Nat} {st : List Value} : ev d 103 28 ( some (.ref x) :: T) st h = ev d 103 29 ( some (.ref x) :: T) (.ref x :: st) h := ev_of d_103_28 rfl
theorem d_103_29 : decode (cd 103) 29 = .ok (.getfield 17, 3) := by rw [cd_103]; decide +kernel
theorem e_103_29 {d : Nat} {h : mM} {L : mLs} {st : List Value} {a : Nat} : ev d 103 29 L (.ref a :: st) h = if mK h a = 10 then oB (mR h a 4) (fun b => ev d 103 32 L (.ref b :: st) h) else none := ev_gR d_103_29 (by decide +kernel) (by decide +kernel)
theorem d_103_32 : decode (cd 103) 32 = .ok (.iload_n 3, 1) := by rw [cd_103]; decide +kernel
theorem e_103_32 {d : Nat} {h : mM} {o0 o1 o2 : Option Value} {T : mLs} {x : Int32} {st : List Value} : ev d 103 32 (o0 :: o1 :: o2 :: some (.int x) :: T) st h = ev d 103 33 (o0 :: o1 :: o2 :: some (.int x) :: T) (.int x :: st) h := ev_of d_103_32 rfl
theorem d_103_33 : decode (cd 103) 33 = .ok (.iaload, 1) := by rw [cd_103]; decide +kernel
theorem e_103_33 {d : Nat} {h : mM} {L : mLs} {st : List Value} {a : Nat} {i : Int32} : ev d 103 33 L (.int i :: .ref a :: st) h = if (mK h a = 11 ∨ mK h a = 19) ∧ ixOK i (mL h a) = true then ev d 103 34 L (.int (mI h a i.toNatClampNeg) :: st) h else none := ev_ia d_103_33
theorem d_103_34 : decode (cd 103) 34 = .ok (.idiv, 1) := by rw [cd_103]; decide +kernel
theorem e_103_34 {d : Nat} {h : mM} {L : mLs} {st : List Value} {x y : Int32} : ev d 103 34 L (.int y :: .int x :: st) h = if y = 0 then none else ev d 103 35 L (.int (x / y) :: st) h := ev_div d_103_34
theorem d_103_35 : decode (cd 103) 35 = .ok (.aload_n 1, 1) := by rw [cd_103]; decide +kernel
theorem e_103_35 {d : Nat} {h : mM} {o0 : Option Value} {T : mLs} {x : Nat} {st : List Value} : ev d 103 35 (o0 :: some (.ref x) :: T) st h = ev d 103 36 (o0 :: some (.ref x) :: T) (.ref x :: st) h := ev_of d_103_35 rfl
theorem d_103_36 : decode (cd 103) 36 = .ok (.iload 4, 2) := by rw [cd_103]; decide +kernel
theorem e_103_36 {d : Nat} {h : mM} {o0 o1 o2 o3 : Option Value} {T : mLs} {x : Int32} {st : List Value} : ev d 103 36 (o0 :: o1 :: o2 :: o3 :: some (.int x) :: T) st h = ev d 103 38 (o0 :: o1 :: o2 :: o3 :: some (.int x) :: T) (.int x :: st) h := ev_of d_103_36 rfl
theorem d_103_38 : decode (cd 103) 38 = .ok (.iaload, 1) := by rw [cd_103]; decide +kernel
theorem e_103_38 {d : Nat} {h : mM} {L : mLs} {st : List Value} {a : Nat} {i : Int32} : ev d 103 38 L (.int i :: .ref a :: st) h = if (mK h a = 11 ∨ mK h a = 19) ∧ ixOK i (mL h a) = true then ev d 103 39 L (.int (mI h a i.toNatClampNeg) :: st) h else none := ev_ia d_103_38
theorem d_103_39 : decode (cd 103) 39 = .ok (.aload_n 0, 1) := by rw [cd_103]; decide +kernel
theorem e_103_39 {d : Nat} {h : mM} {T : mLs} {x : Nat} {st : List Value} : ev d 103 39 ( some (.ref x) :: T) st h = ev d 103 40 ( some (.ref x) :: T) (.ref x :: st) h := ev_of d_103_39 rfl
theorem d_103_40 : decode (cd 103) 40 = .ok (.getfield 17, 3) := by rw [cd_103]; decide +kernel
theorem e_103_40 {d : Nat} {h : mM} {L : mLs} {st : List Value} {a : Nat} : ev d 103 40 L (.ref a :: st) h = if mK h a = 10 then oB (mR h a 4) (fun b => ev d 103 43 L (.ref b :: st) h) else none := ev_gR d_103_40 (by decide +kernel) (by decide +kernel)
theorem d_103_43 : decode (cd 103) 43 = .ok (.iload 4, 2) := by rw [cd_103]; decide +kernel
theorem e_103_43 {d : Nat} {h : mM} {o0 o1 o2 o3 : Option Value} {T : mLs} {x : Int32} {st : List Value} : ev d 103 43 (o0 :: o1 :: o2 :: o3 :: some (.int x) :: T) st h = ev d 103 45 (o0 :: o1 :: o2 :: o3 :: some (.int x) :: T) (.int x :: st) h := ev_of d_103_43 rfl
theorem d_103_45 : decode (cd 103) 45 = .ok (.iaload, 1) := by rw [cd_103]; decide +kernel
theorem e_103_45 {d : Nat} {h : mM} {L : mLs} {st : List Value} {a : Nat} {i : Int32} : ev d 103 45 L (.int i :: .ref a :: st) h = if (mK h a = 11 ∨ mK h a = 19) ∧ ixOK i (mL h a) = true then ev d 103 46 L (.int (mI h a i.toNatClampNeg) :: st) h else none := ev_ia d_103_45
theorem d_103_46 : decode (cd 103) 46 = .ok (.idiv, 1) := by rw [cd_103]; decide +kernel
theorem e_103_46 {d : Nat} {h : mM} {L : mLs} {st : List Value} {x y : Int32} : ev d 103 46 L (.int y :: .int x :: st) h = if y = 0 then none else ev d 103 47 L (.int (x / y) :: st) h := ev_div d_103_46
theorem d_103_47 : decode (cd 103) 47 = .ok (.if_icmp .le 7, 3) := by rw [cd_103]; decide +kernel
theorem e_103_47 {d : Nat} {h : mM} {L : mLs} {st : List Value} {x y : Int32} : ev d 103 47 L (.int y :: .int x :: st) h = if x ≤ y then ev d 103 54 L st h else ev d 103 50 L st h := ev_ic (x ≤ y) inferInstance rfl d_103_47 (by decide)
theorem d_103_50 : decode (cd 103) 50 = .ok (.iconst 1, 1) := by rw [cd_103]; decide +kernel
theorem e_103_50 {d : Nat} {h : mM} {L : mLs} {st : List Value} : ev d 103 50 L st h = ev d 103 51 L (.int 1 :: st) h := ev_of d_103_50 rfl
theorem d_103_51 : decode (cd 103) 51 = .ok (.goto 4, 3) := by rw [cd_103]; decide +kernel
theorem e_103_51 {d : Nat} {h : mM} {L : mLs} {st : List Value} : ev d 103 51 L st h = ev d 103 55 L st h := ev_go d_103_51 (by decide)
theorem d_103_54 : decode (cd 103) 54 = .ok (.iconst 0, 1) := by rw [cd_103]; decide +kernel
theorem e_103_54 {d : Nat} {h : mM} {L : mLs} {st : List Value} : ev d 103 54 L st h = ev d 103 55 L (.int 0 :: st) h := ev_of d_103_54 rfl
theorem d_103_55 : decode (cd 103) 55 = .ok (.istore 5, 2) := by rw [cd_103]; decide +kernel
theorem e_103_55 {d : Nat} {h : mM} {o0 o1 o2 o3 o4 o5 : Option Value} {T : mLs} {x : Int32} {st : List Value} (hl : mLong o4 = false) : ev d 103 55 (o0 :: o1 :: o2 :: o3 :: o4 :: o5 :: T) (.int x :: st) h = ev d 103 57 (o0 :: o1 :: o2 :: o3 :: o4 :: some (.int x) :: T) st h := ev_st_i d_103_55 (by decide +kernel) (mS1_s (j := 4) hl)
theorem d_103_57 : decode (cd 103) 57 = .ok (.iload 5, 2) := by rw [cd_103]; decide +kernel
theorem e_103_57 {d : Nat} {h : mM} {o0 o1 o2 o3 o4 : Option Value} {T : mLs} {x : Int32} {st : List Value} : ev d 103 57 (o0 :: o1 :: o2 :: o3 :: o4 :: some (.int x) :: T) st h = ev d 103 59 (o0 :: o1 :: o2 :: o3 :: o4 :: some (.int x) :: T) (.int x :: st) h := ev_of d_103_57 rfl
theorem d_103_59 : decode (cd 103) 59 = .ok (.ifCond .eq 7, 3) := by rw [cd_103]; decide +kernel
theorem e_103_59 {d : Nat} {h : mM} {L : mLs} {st : List Value} {x : Int32} : ev d 103 59 L (.int x :: st) h = if x = 0 then ev d 103 66 L st h else ev d 103 62 L st h := ev_if (x = 0) inferInstance rfl d_103_59 (by decide)
theorem d_103_62 : decode (cd 103) 62 = .ok (.iload_n 3, 1) := by rw [cd_103]; decide +kernel
theorem e_103_62 {d : Nat} {h : mM} {o0 o1 o2 : Option Value} {T : mLs} {x : Int32} {st : List Value} : ev d 103 62 (o0 :: o1 :: o2 :: some (.int x) :: T) st h = ev d 103 63 (o0 :: o1 :: o2 :: some (.int x) :: T) (.int x :: st) h := ev_of d_103_62 rfl
theorem d_103_63 : decode (cd 103) 63 = .ok (.goto 5, 3) := by rw [cd_103]; decide +kernel
theorem e_103_63 {d : Nat} {h : mM} {L : mLs} {st : List Value} : ev d 103 63 L st h = ev d 103 68 L st h := ev_go d_103_63 (by decide)
theorem d_103_66 : decode (cd 103) 66 = .ok (.iload 4, 2) := by rw [cd_103]; decide +kernel
theorem e_103_66 {d : Nat} {h : mM} {o0 o1 o2 o3 : Option Value} {T : mLs} {x : Int32} {st : List Value} : ev d 103 66 (o0 :: o1 :: o2 :: o3 :: some (.int x) :: T) st h = ev d 103 68 (o0 :: o1 :: o2 :: o3 :: some (.int x) :: T) (.int x :: st) h := ev_of d_103_66 rfl
theorem d_103_68 : decode (cd 103) 68 = .ok (.istore 6, 2) := by rw [cd_103]; decide +kernel
theorem e_103_68 {d : Nat} {h : mM} {o0 o1 o2 o3 o4 o5 o6 : Option Value} {T : mLs} {x : Int32} {st : List Value} (hl : mLong o5 = false) : ev d 103 68 (o0 :: o1 :: o2 :: o3 :: o4 :: o5 :: o6 :: T) (.int x :: st) h = ev d 103 70 (o0 :: o1 :: o2 :: o3 :: o4 :: o5 :: some (.int x) :: T) st h := ev_st_i d_103_68 (by decide +kernel) (mS1_s (j := 5) hl)
theorem d_103_70 : decode (cd 103) 70 = .ok (.iload 5, 2) := by rw [cd_103]; decide +kernel
theorem e_103_70 {d : Nat} {h : mM} {o0 o1 o2 o3 o4 : Option Value} {T : mLs} {x : Int32} {st : List Value} : ev d 103 70 (o0 :: o1 :: o2 :: o3 :: o4 :: some (.int x) :: T) st h = ev d 103 72 (o0 :: o1 :: o2 :: o3 :: o4 :: some (.int x) :: T) (.int x :: st) h := ev_of d_103_70 rfl
theorem d_103_72 : decode (cd 103) 72 = .ok (.ifCond .eq 8, 3) := by rw [cd_103]; decide +kernel
theorem e_103_72 {d : Nat} {h : mM} {L : mLs} {st : List Value} {x : Int32} : ev d 103 72 L (.int x :: st) h = if x = 0 then ev d 103 80 L st h else ev d 103 75 L st h := ev_if (x = 0) inferInstance rfl d_103_72 (by decide)
theorem d_103_75 : decode (cd 103) 75 = .ok (.iload 4, 2) := by rw [cd_103]; decide +kernel
theorem e_103_75 {d : Nat} {h : mM} {o0 o1 o2 o3 : Option Value} {T : mLs} {x : Int32} {st : List Value} : ev d 103 75 (o0 :: o1 :: o2 :: o3 :: some (.int x) :: T) st h = ev d 103 77 (o0 :: o1 :: o2 :: o3 :: some (.int x) :: T) (.int x :: st) h := ev_of d_103_75 rfl
theorem d_103_77 : decode (cd 103) 77 = .ok (.goto 4, 3) := by rw [cd_103]; decide +kernel
theorem e_103_77 {d : Nat} {h : mM} {L : mLs} {st : List Value} : ev d 103 77 L st h = ev d 103 81 L st h := ev_go d_103_77 (by decide)
theorem d_103_80 : decode (cd 103) 80 = .ok (.iload_n 3, 1) := by rw [cd_103]; decide +kernel
theorem e_103_80 {d : Nat} {h : mM} {o0 o1 o2 : Option Value} {T : mLs} {x : Int32} {st : List Value} : ev d 103 80 (o0 :: o1 :: o2 :: some (.int x) :: T) st h = ev d 103 81 (o0 :: o1 :: o2 :: some (.int x) :: T) (.int x :: st) h := ev_of d_103_80 rfl
theorem d_103_81 : decode (cd 103) 81 = .ok (.istore 7, 2) := by rw [cd_103]; decide +kernel
theorem e_103_81 {d : Nat} {h : mM} {o0 o1 o2 o3 o4 o5 o6 o7 : Option Value} {T : mLs} {x : Int32} {st : List Value} (hl : mLong o6 = false) : ev d 103 81 (o0 :: o1 :: o2 :: o3 :: o4 :: o5 :: o6 :: o7 :: T) (.int x :: st) h = ev d 103 83 (o0 :: o1 :: o2 :: o3 :: o4 :: o5 :: o6 :: some (.int x) :: T) st h := ev_st_i d_103_81 (by decide +kernel) (mS1_s (j := 6) hl)
theorem d_103_83 : decode (cd 103) 83 = .ok (.aload_n 1, 1) := by rw [cd_103]; decide +kernel
theorem e_103_83 {d : Nat} {h : mM} {o0 : Option Value} {T : mLs} {x : Nat} {st : List Value} : ev d 103 83 (o0 :: some (.ref x) :: T) st h = ev d 103 84 (o0 :: some (.ref x) :: T) (.ref x :: st) h := ev_of d_103_83 rfl
theorem d_103_84 : decode (cd 103) 84 = .ok (.iload 6, 2) := by rw [cd_103]; decide +kernel
theorem e_103_84 {d : Nat} {h : mM} {o0 o1 o2 o3 o4 o5 : Option Value} {T : mLs} {x : Int32} {st : List Value} : ev d 103 84 (o0 :: o1 :: o2 :: o3 :: o4 :: o5 :: some (.int x) :: T) st h = ev d 103 86 (o0 :: o1 :: o2 :: o3 :: o4 :: o5 :: some (.int x) :: T) (.int x :: st) h := ev_of d_103_84 rfl
theorem d_103_86 : decode (cd 103) 86 = .ok (.iaload, 1) := by rw [cd_103]; decide +kernel
theorem e_103_86 {d : Nat} {h : mM} {L : mLs} {st : List Value} {a : Nat} {i : Int32} : ev d 103 86 L (.int i :: .ref a :: st) h = if (mK h a = 11 ∨ mK h a = 19) ∧ ixOK i (mL h a) = true then ev d 103 87 L (.int (mI h a i.toNatClampNeg) :: st) h else none := ev_ia d_103_86
theorem d_103_87 : decode (cd 103) 87 = .ok (.aload_n 0, 1) := by rw [cd_103]; decide +kernel
theorem e_103_87 {d : Nat} {h : mM} {T : mLs} {x : Nat} {st : List Value} : ev d 103 87 ( some (.ref x) :: T) st h = ev d 103 88 ( some (.ref x) :: T) (.ref x :: st) h := ev_of d_103_87 rfl
theorem d_103_88 : decode (cd 103) 88 = .ok (.getfield 17, 3) := by rw [cd_103]; decide +kernel
theorem e_103_88 {d : Nat} {h : mM} {L : mLs} {st : List Value} {a : Nat} : ev d 103 88 L (.ref a :: st) h = if mK h a = 10 then oB (mR h a 4) (fun b => ev d 103 91 L (.ref b :: st) h) else none := ev_gR d_103_88 (by decide +kernel) (by decide +kernel)
theorem d_103_91 : decode (cd 103) 91 = .ok (.iload 6, 2) := by rw [cd_103]; decide +kernel
theorem e_103_91 {d : Nat} {h : mM} {o0 o1 o2 o3 o4 o5 : Option Value} {T : mLs} {x : Int32} {st : List Value} : ev d 103 91 (o0 :: o1 :: o2 :: o3 :: o4 :: o5 :: some (.int x) :: T) st h = ev d 103 93 (o0 :: o1 :: o2 :: o3 :: o4 :: o5 :: some (.int x) :: T) (.int x :: st) h := ev_of d_103_91 rfl
theorem d_103_93 : decode (cd 103) 93 = .ok (.iaload, 1) := by rw [cd_103]; decide +kernel
theorem e_103_93 {d : Nat} {h : mM} {L : mLs} {st : List Value} {a : Nat} {i : Int32} : ev d 103 93 L (.int i :: .ref a :: st) h = if (mK h a = 11 ∨ mK h a = 19) ∧ ixOK i (mL h a) = true then ev d 103 94 L (.int (mI h a i.toNatClampNeg) :: st) h else none := ev_ia d_103_93
theorem d_103_94 : decode (cd 103) 94 = .ok (.idiv, 1) := by rw [cd_103]; decide +kernel
theorem e_103_94 {d : Nat} {h : mM} {L : mLs} {st : List Value} {x y : Int32} : ev d 103 94 L (.int y :: .int x :: st) h = if y = 0 then none else ev d 103 95 L (.int (x / y) :: st) h := ev_div d_103_94
theorem d_103_95 : decode (cd 103) 95 = .ok (.aload_n 1, 1) := by rw [cd_103]; decide +kernel
theorem e_103_95 {d : Nat} {h : mM} {o0 : Option Value} {T : mLs} {x : Nat} {st : List Value} : ev d 103 95 (o0 :: some (.ref x) :: T) st h = ev d 103 96 (o0 :: some (.ref x) :: T) (.ref x :: st) h := ev_of d_103_95 rfl
theorem d_103_96 : decode (cd 103) 96 = .ok (.iload 7, 2) := by rw [cd_103]; decide +kernel
theorem e_103_96 {d : Nat} {h : mM} {o0 o1 o2 o3 o4 o5 o6 : Option Value} {T : mLs} {x : Int32} {st : List Value} : ev d 103 96 (o0 :: o1 :: o2 :: o3 :: o4 :: o5 :: o6 :: some (.int x) :: T) st h = ev d 103 98 (o0 :: o1 :: o2 :: o3 :: o4 :: o5 :: o6 :: some (.int x) :: T) (.int x :: st) h := ev_of d_103_96 rfl
theorem d_103_98 : decode (cd 103) 98 = .ok (.iaload, 1) := by rw [cd_103]; decide +kernel
theorem e_103_98 {d : Nat} {h : mM} {L : mLs} {st : List Value} {a : Nat} {i : Int32} : ev d 103 98 L (.int i :: .ref a :: st) h = if (mK h a = 11 ∨ mK h a = 19) ∧ ixOK i (mL h a) = true then ev d 103 99 L (.int (mI h a i.toNatClampNeg) :: st) h else none := ev_ia d_103_98
theorem d_103_99 : decode (cd 103) 99 = .ok (.aload_n 0, 1) := by rw [cd_103]; decide +kernel
theorem e_103_99 {d : Nat} {h : mM} {T : mLs} {x : Nat} {st : List Value} : ev d 103 99 ( some (.ref x) :: T) st h = ev d 103 100 ( some (.ref x) :: T) (.ref x :: st) h := ev_of d_103_99 rfl
theorem d_103_100 : decode (cd 103) 100 = .ok (.getfield 17, 3) := by rw [cd_103]; decide +kernel
theorem e_103_100 {d : Nat} {h : mM} {L : mLs} {st : List Value} {a : Nat} : ev d 103 100 L (.ref a :: st) h = if mK h a = 10 then oB (mR h a 4) (fun b => ev d 103 103 L (.ref b :: st) h) else none := ev_gR d_103_100 (by decide +kernel) (by decide +kernel)
theorem d_103_103 : decode (cd 103) 103 = .ok (.iload 7, 2) := by rw [cd_103]; decide +kernel
theorem e_103_103 {d : Nat} {h : mM} {o0 o1 o2 o3 o4 o5 o6 : Option Value} {T : mLs} {x : Int32} {st : List Value} : ev d 103 103 (o0 :: o1 :: o2 :: o3 :: o4 :: o5 :: o6 :: some (.int x) :: T) st h = ev d 103 105 (o0 :: o1 :: o2 :: o3 :: o4 :: o5 :: o6 :: some (.int x) :: T) (.int x :: st) h := ev_of d_103_103 rfl
theorem d_103_105 : decode (cd 103) 105 = .ok (.iaload, 1) := by rw [cd_103]; decide +kernel
theorem e_103_105 {d : Nat} {h : mM} {L : mLs} {st : List Value} {a : Nat} {i : Int32} : ev d 103 105 L (.int i :: .ref a :: st) h = if (mK h a = 11 ∨ mK h a = 19) ∧ ixOK i (mL h a) = true then ev d 103 106 L (.int (mI h a i.toNatClampNeg) :: st) h else none := ev_ia d_103_105
theorem d_103_106 : decode (cd 103) 106 = .ok (.idiv, 1) := by rw [cd_103]; decide +kernel
theorem e_103_106 {d : Nat} {h : mM} {L : mLs} {st : List Value} {x y : Int32} : ev d 103 106 L (.int y :: .int x :: st) h = if y = 0 then none else ev d 103 107 L (.int (x / y) :: st) h := ev_div d_103_106
theorem d_103_107 : decode (cd 103) 107 = .ok (.isub, 1) := by rw [cd_103]; decide +kernel
theorem e_103_107 {d : Nat} {h : mM} {L : mLs} {st : List Value} {x y : Int32} : ev d 103 107 L (.int y :: .int x :: st) h = ev d 103 108 L (.int (x - y) :: st) h := ev_of d_103_107 rfl
theorem d_103_108 : decode (cd 103) 108 = .ok (.istore 8, 2) := by rw [cd_103]; decide +kernel
theorem e_103_108 {d : Nat} {h : mM} {o0 o1 o2 o3 o4 o5 o6 o7 o8 : Option Value} {T : mLs} {x : Int32} {st : List Value} (hl : mLong o7 = false) : ev d 103 108 (o0 :: o1 :: o2 :: o3 :: o4 :: o5 :: o6 :: o7 :: o8 :: T) (.int x :: st) h = ev d 103 110 (o0 :: o1 :: o2 :: o3 :: o4 :: o5 :: o6 :: o7 :: some (.int x) :: T) st h := ev_st_i d_103_108 (by decide +kernel) (mS1_s (j := 7) hl)
theorem d_103_110 : decode (cd 103) 110 = .ok (.aload_n 0, 1) := by rw [cd_103]; decide +kernel
theorem e_103_110 {d : Nat} {h : mM} {T : mLs} {x : Nat} {st : List Value} : ev d 103 110 ( some (.ref x) :: T) st h = ev d 103 111 ( some (.ref x) :: T) (.ref x :: st) h := ev_of d_103_110 rfl
theorem d_103_111 : decode (cd 103) 111 = .ok (.getfield 38, 3) := by rw [cd_103]; decide +kernel
theorem e_103_111 {d : Nat} {h : mM} {L : mLs} {st : List Value} {a : Nat} : ev d 103 111 L (.ref a :: st) h = if mK h a = 10 then oB (mR h a 12) (fun b => ev d 103 114 L (.ref b :: st) h) else none := ev_gR d_103_111 (by decide +kernel) (by decide +kernel)
theorem d_103_114 : decode (cd 103) 114 = .ok (.iload_n 2, 1) := by rw [cd_103]; decide +kernel
theorem e_103_114 {d : Nat} {h : mM} {o0 o1 : Option Value} {T : mLs} {x : Int32} {st : List Value} : ev d 103 114 (o0 :: o1 :: some (.int x) :: T) st h = ev d 103 115 (o0 :: o1 :: some (.int x) :: T) (.int x :: st) h := ev_of d_103_114 rfl
theorem d_103_115 : decode (cd 103) 115 = .ok (.iaload, 1) := by rw [cd_103]; decide +kernel
theorem e_103_115 {d : Nat} {h : mM} {L : mLs} {st : List Value} {a : Nat} {i : Int32} : ev d 103 115 L (.int i :: .ref a :: st) h = if (mK h a = 11 ∨ mK h a = 19) ∧ ixOK i (mL h a) = true then ev d 103 116 L (.int (mI h a i.toNatClampNeg) :: st) h else none := ev_ia d_103_115
theorem d_103_116 : decode (cd 103) 116 = .ok (.iload 8, 2) := by rw [cd_103]; decide +kernel
theorem e_103_116 {d : Nat} {h : mM} {o0 o1 o2 o3 o4 o5 o6 o7 : Option Value} {T : mLs} {x : Int32} {st : List Value} : ev d 103 116 (o0 :: o1 :: o2 :: o3 :: o4 :: o5 :: o6 :: o7 :: some (.int x) :: T) st h = ev d 103 118 (o0 :: o1 :: o2 :: o3 :: o4 :: o5 :: o6 :: o7 :: some (.int x) :: T) (.int x :: st) h := ev_of d_103_116 rfl
theorem d_103_118 : decode (cd 103) 118 = .ok (.imul, 1) := by rw [cd_103]; decide +kernel
theorem e_103_118 {d : Nat} {h : mM} {L : mLs} {st : List Value} {x y : Int32} : ev d 103 118 L (.int y :: .int x :: st) h = ev d 103 119 L (.int (x * y) :: st) h := ev_of d_103_118 rfl
theorem d_103_119 : decode (cd 103) 119 = .ok (.aload_n 1, 1) := by rw [cd_103]; decide +kernel
theorem e_103_119 {d : Nat} {h : mM} {o0 : Option Value} {T : mLs} {x : Nat} {st : List Value} : ev d 103 119 (o0 :: some (.ref x) :: T) st h = ev d 103 120 (o0 :: some (.ref x) :: T) (.ref x :: st) h := ev_of d_103_119 rfl
theorem d_103_120 : decode (cd 103) 120 = .ok (.iload 6, 2) := by rw [cd_103]; decide +kernel
theorem e_103_120 {d : Nat} {h : mM} {o0 o1 o2 o3 o4 o5 : Option Value} {T : mLs} {x : Int32} {st : List Value} : ev d 103 120 (o0 :: o1 :: o2 :: o3 :: o4 :: o5 :: some (.int x) :: T) st h = ev d 103 122 (o0 :: o1 :: o2 :: o3 :: o4 :: o5 :: some (.int x) :: T) (.int x :: st) h := ev_of d_103_120 rfl
theorem d_103_122 : decode (cd 103) 122 = .ok (.iaload, 1) := by rw [cd_103]; decide +kernel
theorem e_103_122 {d : Nat} {h : mM} {L : mLs} {st : List Value} {a : Nat} {i : Int32} : ev d 103 122 L (.int i :: .ref a :: st) h = if (mK h a = 11 ∨ mK h a = 19) ∧ ixOK i (mL h a) = true then ev d 103 123 L (.int (mI h a i.toNatClampNeg) :: st) h else none := ev_ia d_103_122
theorem d_103_123 : decode (cd 103) 123 = .ok (.aload_n 0, 1) := by rw [cd_103]; decide +kernel
theorem e_103_123 {d : Nat} {h : mM} {T : mLs} {x : Nat} {st : List Value} : ev d 103 123 ( some (.ref x) :: T) st h = ev d 103 124 ( some (.ref x) :: T) (.ref x :: st) h := ev_of d_103_123 rfl
theorem d_103_124 : decode (cd 103) 124 = .ok (.getfield 17, 3) := by rw [cd_103]; decide +kernel
theorem e_103_124 {d : Nat} {h : mM} {L : mLs} {st : List Value} {a : Nat} : ev d 103 124 L (.ref a :: st) h = if mK h a = 10 then oB (mR h a 4) (fun b => ev d 103 127 L (.ref b :: st) h) else none := ev_gR d_103_124 (by decide +kernel) (by decide +kernel)
theorem d_103_127 : decode (cd 103) 127 = .ok (.iload 7, 2) := by rw [cd_103]; decide +kernel
theorem e_103_127 {d : Nat} {h : mM} {o0 o1 o2 o3 o4 o5 o6 : Option Value} {T : mLs} {x : Int32} {st : List Value} : ev d 103 127 (o0 :: o1 :: o2 :: o3 :: o4 :: o5 :: o6 :: some (.int x) :: T) st h = ev d 103 129 (o0 :: o1 :: o2 :: o3 :: o4 :: o5 :: o6 :: some (.int x) :: T) (.int x :: st) h := ev_of d_103_127 rfl
theorem d_103_129 : decode (cd 103) 129 = .ok (.iaload, 1) := by rw [cd_103]; decide +kernel
theorem e_103_129 {d : Nat} {h : mM} {L : mLs} {st : List Value} {a : Nat} {i : Int32} : ev d 103 129 L (.int i :: .ref a :: st) h = if (mK h a = 11 ∨ mK h a = 19) ∧ ixOK i (mL h a) = true then ev d 103 130 L (.int (mI h a i.toNatClampNeg) :: st) h else none := ev_ia d_103_129
theorem d_103_130 : decode (cd 103) 130 = .ok (.imul, 1) := by rw [cd_103]; decide +kernel
theorem e_103_130 {d : Nat} {h : mM} {L : mLs} {st : List Value} {x y : Int32} : ev d 103 130 L (.int y :: .int x :: st) h = ev d 103 131 L (.int (x * y) :: st) h := ev_of d_103_130 rfl
theorem d_103_131 : decode (cd 103) 131 = .ok (.aload_n 1, 1) := by rw [cd_103]; decide +kernel
theorem e_103_131 {d : Nat} {h : mM} {o0 : Option Value} {T : mLs} {x : Nat} {st : List Value} : ev d 103 131 (o0 :: some (.ref x) :: T) st h = ev d 103 132 (o0 :: some (.ref x) :: T) (.ref x :: st) h := ev_of d_103_131 rfl
theorem d_103_132 : decode (cd 103) 132 = .ok (.iload 7, 2) := by rw [cd_103]; decide +kernel
theorem e_103_132 {d : Nat} {h : mM} {o0 o1 o2 o3 o4 o5 o6 : Option Value} {T : mLs} {x : Int32} {st : List Value} : ev d 103 132 (o0 :: o1 :: o2 :: o3 :: o4 :: o5 :: o6 :: some (.int x) :: T) st h = ev d 103 134 (o0 :: o1 :: o2 :: o3 :: o4 :: o5 :: o6 :: some (.int x) :: T) (.int x :: st) h := ev_of d_103_132 rfl
theorem d_103_134 : decode (cd 103) 134 = .ok (.iaload, 1) := by rw [cd_103]; decide +kernel
theorem e_103_134 {d : Nat} {h : mM} {L : mLs} {st : List Value} {a : Nat} {i : Int32} : ev d 103 134 L (.int i :: .ref a :: st) h = if (mK h a = 11 ∨ mK h a = 19) ∧ ixOK i (mL h a) = true then ev d 103 135 L (.int (mI h a i.toNatClampNeg) :: st) h else none := ev_ia d_103_134
theorem d_103_135 : decode (cd 103) 135 = .ok (.aload_n 0, 1) := by rw [cd_103]; decide +kernel
theorem e_103_135 {d : Nat} {h : mM} {T : mLs} {x : Nat} {st : List Value} : ev d 103 135 ( some (.ref x) :: T) st h = ev d 103 136 ( some (.ref x) :: T) (.ref x :: st) h := ev_of d_103_135 rfl
theorem d_103_136 : decode (cd 103) 136 = .ok (.getfield 17, 3) := by rw [cd_103]; decide +kernel
theorem e_103_136 {d : Nat} {h : mM} {L : mLs} {st : List Value} {a : Nat} : ev d 103 136 L (.ref a :: st) h = if mK h a = 10 then oB (mR h a 4) (fun b => ev d 103 139 L (.ref b :: st) h) else none := ev_gR d_103_136 (by decide +kernel) (by decide +kernel)
theorem d_103_139 : decode (cd 103) 139 = .ok (.iload 6, 2) := by rw [cd_103]; decide +kernel
theorem e_103_139 {d : Nat} {h : mM} {o0 o1 o2 o3 o4 o5 : Option Value} {T : mLs} {x : Int32} {st : List Value} : ev d 103 139 (o0 :: o1 :: o2 :: o3 :: o4 :: o5 :: some (.int x) :: T) st h = ev d 103 141 (o0 :: o1 :: o2 :: o3 :: o4 :: o5 :: some (.int x) :: T) (.int x :: st) h := ev_of d_103_139 rfl
theorem d_103_141 : decode (cd 103) 141 = .ok (.iaload, 1) := by rw [cd_103]; decide +kernel
theorem e_103_141 {d : Nat} {h : mM} {L : mLs} {st : List Value} {a : Nat} {i : Int32} : ev d 103 141 L (.int i :: .ref a :: st) h = if (mK h a = 11 ∨ mK h a = 19) ∧ ixOK i (mL h a) = true then ev d 103 142 L (.int (mI h a i.toNatClampNeg) :: st) h else none := ev_ia d_103_141
theorem d_103_142 : decode (cd 103) 142 = .ok (.imul, 1) := by rw [cd_103]; decide +kernel
theorem e_103_142 {d : Nat} {h : mM} {L : mLs} {st : List Value} {x y : Int32} : ev d 103 142 L (.int y :: .int x :: st) h = ev d 103 143 L (.int (x * y) :: st) h := ev_of d_103_142 rfl
theorem d_103_143 : decode (cd 103) 143 = .ok (.isub, 1) := by rw [cd_103]; decide +kernel
theorem e_103_143 {d : Nat} {h : mM} {L : mLs} {st : List Value} {x y : Int32} : ev d 103 143 L (.int y :: .int x :: st) h = ev d 103 144 L (.int (x - y) :: st) h := ev_of d_103_143 rfl
theorem d_103_144 : decode (cd 103) 144 = .ok (.aload_n 0, 1) := by rw [cd_103]; decide +kernel
theorem e_103_144 {d : Nat} {h : mM} {T : mLs} {x : Nat} {st : List Value} : ev d 103 144 ( some (.ref x) :: T) st h = ev d 103 145 ( some (.ref x) :: T) (.ref x :: st) h := ev_of d_103_144 rfl
theorem d_103_145 : decode (cd 103) 145 = .ok (.getfield 17, 3) := by rw [cd_103]; decide +kernel
theorem e_103_145 {d : Nat} {h : mM} {L : mLs} {st : List Value} {a : Nat} : ev d 103 145 L (.ref a :: st) h = if mK h a = 10 then oB (mR h a 4) (fun b => ev d 103 148 L (.ref b :: st) h) else none := ev_gR d_103_145 (by decide +kernel) (by decide +kernel)
theorem d_103_148 : decode (cd 103) 148 = .ok (.iload 6, 2) := by rw [cd_103]; decide +kernel
theorem e_103_148 {d : Nat} {h : mM} {o0 o1 o2 o3 o4 o5 : Option Value} {T : mLs} {x : Int32} {st : List Value} : ev d 103 148 (o0 :: o1 :: o2 :: o3 :: o4 :: o5 :: some (.int x) :: T) st h = ev d 103 150 (o0 :: o1 :: o2 :: o3 :: o4 :: o5 :: some (.int x) :: T) (.int x :: st) h := ev_of d_103_148 rfl
theorem d_103_150 : decode (cd 103) 150 = .ok (.iaload, 1) := by rw [cd_103]; decide +kernel
theorem e_103_150 {d : Nat} {h : mM} {L : mLs} {st : List Value} {a : Nat} {i : Int32} : ev d 103 150 L (.int i :: .ref a :: st) h = if (mK h a = 11 ∨ mK h a = 19) ∧ ixOK i (mL h a) = true then ev d 103 151 L (.int (mI h a i.toNatClampNeg) :: st) h else none := ev_ia d_103_150
theorem d_103_151 : decode (cd 103) 151 = .ok (.aload_n 0, 1) := by rw [cd_103]; decide +kernel
theorem e_103_151 {d : Nat} {h : mM} {T : mLs} {x : Nat} {st : List Value} : ev d 103 151 ( some (.ref x) :: T) st h = ev d 103 152 ( some (.ref x) :: T) (.ref x :: st) h := ev_of d_103_151 rfl
theorem d_103_152 : decode (cd 103) 152 = .ok (.getfield 17, 3) := by rw [cd_103]; decide +kernel
theorem e_103_152 {d : Nat} {h : mM} {L : mLs} {st : List Value} {a : Nat} : ev d 103 152 L (.ref a :: st) h = if mK h a = 10 then oB (mR h a 4) (fun b => ev d 103 155 L (.ref b :: st) h) else none := ev_gR d_103_152 (by decide +kernel) (by decide +kernel)
theorem d_103_155 : decode (cd 103) 155 = .ok (.iload 7, 2) := by rw [cd_103]; decide +kernel
theorem e_103_155 {d : Nat} {h : mM} {o0 o1 o2 o3 o4 o5 o6 : Option Value} {T : mLs} {x : Int32} {st : List Value} : ev d 103 155 (o0 :: o1 :: o2 :: o3 :: o4 :: o5 :: o6 :: some (.int x) :: T) st h = ev d 103 157 (o0 :: o1 :: o2 :: o3 :: o4 :: o5 :: o6 :: some (.int x) :: T) (.int x :: st) h := ev_of d_103_155 rfl
theorem d_103_157 : decode (cd 103) 157 = .ok (.iaload, 1) := by rw [cd_103]; decide +kernel
theorem e_103_157 {d : Nat} {h : mM} {L : mLs} {st : List Value} {a : Nat} {i : Int32} : ev d 103 157 L (.int i :: .ref a :: st) h = if (mK h a = 11 ∨ mK h a = 19) ∧ ixOK i (mL h a) = true then ev d 103 158 L (.int (mI h a i.toNatClampNeg) :: st) h else none := ev_ia d_103_157
theorem d_103_158 : decode (cd 103) 158 = .ok (.iadd, 1) := by rw [cd_103]; decide +kernel
theorem e_103_158 {d : Nat} {h : mM} {L : mLs} {st : List Value} {x y : Int32} : ev d 103 158 L (.int y :: .int x :: st) h = ev d 103 159 L (.int (x + y) :: st) h := ev_of d_103_158 rfl
theorem d_103_159 : decode (cd 103) 159 = .ok (.idiv, 1) := by rw [cd_103]; decide +kernel
theorem e_103_159 {d : Nat} {h : mM} {L : mLs} {st : List Value} {x y : Int32} : ev d 103 159 L (.int y :: .int x :: st) h = if y = 0 then none else ev d 103 160 L (.int (x / y) :: st) h := ev_div d_103_159
theorem d_103_160 : decode (cd 103) 160 = .ok (.invokestatic 158, 3) := by rw [cd_103]; decide +kernel
theorem e_103_160 {d : Nat} {h : mM} {L : mLs} {st : List Value} {x y : Int32} (hc : mCat st ≤ 8) : ev d 103 160 L (.int y :: .int x :: st) h = ev d 103 163 L (.int (if y < x then y else x) :: st) h := ev_min (mj := 0) d_103_160 (by decide +kernel) hc
theorem d_103_163 : decode (cd 103) 163 = .ok (.istore 9, 2) := by rw [cd_103]; decide +kernel
theorem e_103_163 {d : Nat} {h : mM} {o0 o1 o2 o3 o4 o5 o6 o7 o8 o9 : Option Value} {T : mLs} {x : Int32} {st : List Value} (hl : mLong o8 = false) : ev d 103 163 (o0 :: o1 :: o2 :: o3 :: o4 :: o5 :: o6 :: o7 :: o8 :: o9 :: T) (.int x :: st) h = ev d 103 165 (o0 :: o1 :: o2 :: o3 :: o4 :: o5 :: o6 :: o7 :: o8 :: some (.int x) :: T) st h := ev_st_i d_103_163 (by decide +kernel) (mS1_s (j := 8) hl)
theorem d_103_165 : decode (cd 103) 165 = .ok (.iload 8, 2) := by rw [cd_103]; decide +kernel
theorem e_103_165 {d : Nat} {h : mM} {o0 o1 o2 o3 o4 o5 o6 o7 : Option Value} {T : mLs} {x : Int32} {st : List Value} : ev d 103 165 (o0 :: o1 :: o2 :: o3 :: o4 :: o5 :: o6 :: o7 :: some (.int x) :: T) st h = ev d 103 167 (o0 :: o1 :: o2 :: o3 :: o4 :: o5 :: o6 :: o7 :: some (.int x) :: T) (.int x :: st) h := ev_of d_103_165 rfl
theorem d_103_167 : decode (cd 103) 167 = .ok (.ifCond .le 21, 3) := by rw [cd_103]; decide +kernel
theorem e_103_167 {d : Nat} {h : mM} {L : mLs} {st : List Value} {x : Int32} : ev d 103 167 L (.int x :: st) h = if x ≤ 0 then ev d 103 188 L st h else ev d 103 170 L st h := ev_if (x ≤ 0) inferInstance rfl d_103_167 (by decide)
theorem d_103_170 : decode (cd 103) 170 = .ok (.aload_n 1, 1) := by rw [cd_103]; decide +kernel
theorem e_103_170 {d : Nat} {h : mM} {o0 : Option Value} {T : mLs} {x : Nat} {st : List Value} : ev d 103 170 (o0 :: some (.ref x) :: T) st h = ev d 103 171 (o0 :: some (.ref x) :: T) (.ref x :: st) h := ev_of d_103_170 rfl
theorem d_103_171 : decode (cd 103) 171 = .ok (.iload 6, 2) := by rw [cd_103]; decide +kernel
theorem e_103_171 {d : Nat} {h : mM} {o0 o1 o2 o3 o4 o5 : Option Value} {T : mLs} {x : Int32} {st : List Value} : ev d 103 171 (o0 :: o1 :: o2 :: o3 :: o4 :: o5 :: some (.int x) :: T) st h = ev d 103 173 (o0 :: o1 :: o2 :: o3 :: o4 :: o5 :: some (.int x) :: T) (.int x :: st) h := ev_of d_103_171 rfl
theorem d_103_173 : decode (cd 103) 173 = .ok (.dup2, 1) := by rw [cd_103]; decide +kernel
theorem e_103_173 {d : Nat} {h : mM} {L : mLs} {st : List Value} {a : Nat} {i : Int32} : ev d 103 173 L (.int i :: .ref a :: st) h = ev d 103 174 L (.int i :: .ref a :: .int i :: .ref a :: st) h := ev_of d_103_173 rfl
theorem d_103_174 : decode (cd 103) 174 = .ok (.iaload, 1) := by rw [cd_103]; decide +kernel
theorem e_103_174 {d : Nat} {h : mM} {L : mLs} {st : List Value} {a : Nat} {i : Int32} : ev d 103 174 L (.int i :: .ref a :: st) h = if (mK h a = 11 ∨ mK h a = 19) ∧ ixOK i (mL h a) = true then ev d 103 175 L (.int (mI h a i.toNatClampNeg) :: st) h else none := ev_ia d_103_174
theorem d_103_175 : decode (cd 103) 175 = .ok (.iload 9, 2) := by rw [cd_103]; decide +kernel
theorem e_103_175 {d : Nat} {h : mM} {o0 o1 o2 o3 o4 o5 o6 o7 o8 : Option Value} {T : mLs} {x : Int32} {st : List Value} : ev d 103 175 (o0 :: o1 :: o2 :: o3 :: o4 :: o5 :: o6 :: o7 :: o8 :: some (.int x) :: T) st h = ev d 103 177 (o0 :: o1 :: o2 :: o3 :: o4 :: o5 :: o6 :: o7 :: o8 :: some (.int x) :: T) (.int x :: st) h := ev_of d_103_175 rfl
theorem d_103_177 : decode (cd 103) 177 = .ok (.isub, 1) := by rw [cd_103]; decide +kernel
theorem e_103_177 {d : Nat} {h : mM} {L : mLs} {st : List Value} {x y : Int32} : ev d 103 177 L (.int y :: .int x :: st) h = ev d 103 178 L (.int (x - y) :: st) h := ev_of d_103_177 rfl
theorem d_103_178 : decode (cd 103) 178 = .ok (.iastore, 1) := by rw [cd_103]; decide +kernel
theorem e_103_178 {d : Nat} {h : mM} {L : mLs} {st : List Value} {a : Nat} {i v : Int32} : ev d 103 178 L (.int v :: .int i :: .ref a :: st) h = if mK h a = 11 ∧ ixOK i (mL h a) = true then ev d 103 179 L st (wI h a i.toNatClampNeg v) else none := ev_is d_103_178
theorem d_103_179 : decode (cd 103) 179 = .ok (.aload_n 1, 1) := by rw [cd_103]; decide +kernel
theorem e_103_179 {d : Nat} {h : mM} {o0 : Option Value} {T : mLs} {x : Nat} {st : List Value} : ev d 103 179 (o0 :: some (.ref x) :: T) st h = ev d 103 180 (o0 :: some (.ref x) :: T) (.ref x :: st) h := ev_of d_103_179 rfl
theorem d_103_180 : decode (cd 103) 180 = .ok (.iload 7, 2) := by rw [cd_103]; decide +kernel
theorem e_103_180 {d : Nat} {h : mM} {o0 o1 o2 o3 o4 o5 o6 : Option Value} {T : mLs} {x : Int32} {st : List Value} : ev d 103 180 (o0 :: o1 :: o2 :: o3 :: o4 :: o5 :: o6 :: some (.int x) :: T) st h = ev d 103 182 (o0 :: o1 :: o2 :: o3 :: o4 :: o5 :: o6 :: some (.int x) :: T) (.int x :: st) h := ev_of d_103_180 rfl
theorem d_103_182 : decode (cd 103) 182 = .ok (.dup2, 1) := by rw [cd_103]; decide +kernel
theorem e_103_182 {d : Nat} {h : mM} {L : mLs} {st : List Value} {a : Nat} {i : Int32} : ev d 103 182 L (.int i :: .ref a :: st) h = ev d 103 183 L (.int i :: .ref a :: .int i :: .ref a :: st) h := ev_of d_103_182 rfl
theorem d_103_183 : decode (cd 103) 183 = .ok (.iaload, 1) := by rw [cd_103]; decide +kernel
theorem e_103_183 {d : Nat} {h : mM} {L : mLs} {st : List Value} {a : Nat} {i : Int32} : ev d 103 183 L (.int i :: .ref a :: st) h = if (mK h a = 11 ∨ mK h a = 19) ∧ ixOK i (mL h a) = true then ev d 103 184 L (.int (mI h a i.toNatClampNeg) :: st) h else none := ev_ia d_103_183
theorem d_103_184 : decode (cd 103) 184 = .ok (.iload 9, 2) := by rw [cd_103]; decide +kernel
theorem e_103_184 {d : Nat} {h : mM} {o0 o1 o2 o3 o4 o5 o6 o7 o8 : Option Value} {T : mLs} {x : Int32} {st : List Value} : ev d 103 184 (o0 :: o1 :: o2 :: o3 :: o4 :: o5 :: o6 :: o7 :: o8 :: some (.int x) :: T) st h = ev d 103 186 (o0 :: o1 :: o2 :: o3 :: o4 :: o5 :: o6 :: o7 :: o8 :: some (.int x) :: T) (.int x :: st) h := ev_of d_103_184 rfl
theorem d_103_186 : decode (cd 103) 186 = .ok (.iadd, 1) := by rw [cd_103]; decide +kernel
theorem e_103_186 {d : Nat} {h : mM} {L : mLs} {st : List Value} {x y : Int32} : ev d 103 186 L (.int y :: .int x :: st) h = ev d 103 187 L (.int (x + y) :: st) h := ev_of d_103_186 rfl
theorem d_103_187 : decode (cd 103) 187 = .ok (.iastore, 1) := by rw [cd_103]; decide +kernel
theorem e_103_187 {d : Nat} {h : mM} {L : mLs} {st : List Value} {a : Nat} {i v : Int32} : ev d 103 187 L (.int v :: .int i :: .ref a :: st) h = if mK h a = 11 ∧ ixOK i (mL h a) = true then ev d 103 188 L st (wI h a i.toNatClampNeg v) else none := ev_is d_103_187
theorem d_103_188 : decode (cd 103) 188 = .ok (.iinc 2 1, 3) := by rw [cd_103]; decide +kernel
theorem e_103_188 {d : Nat} {h : mM} {o0 o1 : Option Value} {T : mLs} {x : Int32} {st : List Value} (hl : mLong o1 = false) : ev d 103 188 (o0 :: o1 :: some (.int x) :: T) st h = ev d 103 191 (o0 :: o1 :: some (.int (x + 1)) :: T) st h := ev_inc d_103_188 (by decide +kernel) rfl rfl (mS1_s (j := 1) hl)
theorem d_103_191 : decode (cd 103) 191 = .ok (.goto (-189), 3) := by rw [cd_103]; decide +kernel
theorem e_103_191 {d : Nat} {h : mM} {L : mLs} {st : List Value} : ev d 103 191 L st h = ev d 103 2 L st h := ev_go d_103_191 (by decide)
theorem d_103_194 : decode (cd 103) 194 = .ok (.return_, 1) := by rw [cd_103]; decide +kernel
theorem e_103_194 {d : Nat} {h : mM} {L : mLs} : ev d 103 194 L [] h = some (none, h) := ev_rv d_103_194 (by decide +kernel)
-- 104: Model.keptFor
theorem cd_104 : cd 104 = prog_12_method_27_code := rfl
theorem d_104_0 : decode (cd 104) 0 = .ok (.iconst 0, 1) := by rw [cd_104]; decide +kernel
theorem e_104_0 {d : Nat} {h : mM} {L : mLs} {st : List Value} : ev d 104 0 L st h = ev d 104 1 L (.int 0 :: st) h := ev_of d_104_0 rfl
theorem d_104_1 : decode (cd 104) 1 = .ok (.istore_n 2, 1) := by rw [cd_104]; decide +kernel
theorem e_104_1 {d : Nat} {h : mM} {o0 o1 o2 : Option Value} {T : mLs} {x : Int32} {st : List Value} (hl : mLong o1 = false) : ev d 104 1 (o0 :: o1 :: o2 :: T) (.int x :: st) h = ev d 104 2 (o0 :: o1 :: some (.int x) :: T) st h := ev_st_in d_104_1 (by decide +kernel) (mS1_s (j := 1) hl)
theorem d_104_2 : decode (cd 104) 2 = .ok (.iconst 0, 1) := by rw [cd_104]; decide +kernel
theorem e_104_2 {d : Nat} {h : mM} {L : mLs} {st : List Value} : ev d 104 2 L st h = ev d 104 3 L (.int 0 :: st) h := ev_of d_104_2 rfl
theorem d_104_3 : decode (cd 104) 3 = .ok (.istore_n 3, 1) := by rw [cd_104]; decide +kernel
theorem e_104_3 {d : Nat} {h : mM} {o0 o1 o2 o3 : Option Value} {T : mLs} {x : Int32} {st : List Value} (hl : mLong o2 = false) : ev d 104 3 (o0 :: o1 :: o2 :: o3 :: T) (.int x :: st) h = ev d 104 4 (o0 :: o1 :: o2 :: some (.int x) :: T) st h := ev_st_in d_104_3 (by decide +kernel) (mS1_s (j := 2) hl)
theorem d_104_4 : decode (cd 104) 4 = .ok (.iload_n 3, 1) := by rw [cd_104]; decide +kernel
theorem e_104_4 {d : Nat} {h : mM} {o0 o1 o2 : Option Value} {T : mLs} {x : Int32} {st : List Value} : ev d 104 4 (o0 :: o1 :: o2 :: some (.int x) :: T) st h = ev d 104 5 (o0 :: o1 :: o2 :: some (.int x) :: T) (.int x :: st) h := ev_of d_104_4 rfl
theorem d_104_5 : decode (cd 104) 5 = .ok (.aload_n 0, 1) := by rw [cd_104]; decide +kernel
theorem e_104_5 {d : Nat} {h : mM} {T : mLs} {x : Nat} {st : List Value} : ev d 104 5 ( some (.ref x) :: T) st h = ev d 104 6 ( some (.ref x) :: T) (.ref x :: st) h := ev_of d_104_5 rfl
theorem d_104_6 : decode (cd 104) 6 = .ok (.getfield 118, 3) := by rw [cd_104]; decide +kernel
theorem e_104_6 {d : Nat} {h : mM} {L : mLs} {st : List Value} {a : Nat} : ev d 104 6 L (.ref a :: st) h = if mK h a = 10 then ev d 104 9 L (.int (mI h a 13) :: st) h else none := ev_gI d_104_6 (by decide +kernel) (by decide +kernel)
theorem d_104_9 : decode (cd 104) 9 = .ok (.if_icmp .ge 54, 3) := by rw [cd_104]; decide +kernel
theorem e_104_9 {d : Nat} {h : mM} {L : mLs} {st : List Value} {x y : Int32} : ev d 104 9 L (.int y :: .int x :: st) h = if y ≤ x then ev d 104 63 L st h else ev d 104 12 L st h := ev_ic (y ≤ x) inferInstance rfl d_104_9 (by decide)
theorem d_104_12 : decode (cd 104) 12 = .ok (.aload_n 0, 1) := by rw [cd_104]; decide +kernel
theorem e_104_12 {d : Nat} {h : mM} {T : mLs} {x : Nat} {st : List Value} : ev d 104 12 ( some (.ref x) :: T) st h = ev d 104 13 ( some (.ref x) :: T) (.ref x :: st) h := ev_of d_104_12 rfl
theorem d_104_13 : decode (cd 104) 13 = .ok (.getfield 44, 3) := by rw [cd_104]; decide +kernel
theorem e_104_13 {d : Nat} {h : mM} {L : mLs} {st : List Value} {a : Nat} : ev d 104 13 L (.ref a :: st) h = if mK h a = 10 then oB (mR h a 15) (fun b => ev d 104 16 L (.ref b :: st) h) else none := ev_gR d_104_13 (by decide +kernel) (by decide +kernel)
theorem d_104_16 : decode (cd 104) 16 = .ok (.iload_n 3, 1) := by rw [cd_104]; decide +kernel
theorem e_104_16 {d : Nat} {h : mM} {o0 o1 o2 : Option Value} {T : mLs} {x : Int32} {st : List Value} : ev d 104 16 (o0 :: o1 :: o2 :: some (.int x) :: T) st h = ev d 104 17 (o0 :: o1 :: o2 :: some (.int x) :: T) (.int x :: st) h := ev_of d_104_16 rfl
theorem d_104_17 : decode (cd 104) 17 = .ok (.iaload, 1) := by rw [cd_104]; decide +kernel
theorem e_104_17 {d : Nat} {h : mM} {L : mLs} {st : List Value} {a : Nat} {i : Int32} : ev d 104 17 L (.int i :: .ref a :: st) h = if (mK h a = 11 ∨ mK h a = 19) ∧ ixOK i (mL h a) = true then ev d 104 18 L (.int (mI h a i.toNatClampNeg) :: st) h else none := ev_ia d_104_17
theorem d_104_18 : decode (cd 104) 18 = .ok (.aload_n 0, 1) := by rw [cd_104]; decide +kernel
theorem e_104_18 {d : Nat} {h : mM} {T : mLs} {x : Nat} {st : List Value} : ev d 104 18 ( some (.ref x) :: T) st h = ev d 104 19 ( some (.ref x) :: T) (.ref x :: st) h := ev_of d_104_18 rfl
theorem d_104_19 : decode (cd 104) 19 = .ok (.getfield 44, 3) := by rw [cd_104]; decide +kernel
theorem e_104_19 {d : Nat} {h : mM} {L : mLs} {st : List Value} {a : Nat} : ev d 104 19 L (.ref a :: st) h = if mK h a = 10 then oB (mR h a 15) (fun b => ev d 104 22 L (.ref b :: st) h) else none := ev_gR d_104_19 (by decide +kernel) (by decide +kernel)
theorem d_104_22 : decode (cd 104) 22 = .ok (.iload_n 1, 1) := by rw [cd_104]; decide +kernel
theorem e_104_22 {d : Nat} {h : mM} {o0 : Option Value} {T : mLs} {x : Int32} {st : List Value} : ev d 104 22 (o0 :: some (.int x) :: T) st h = ev d 104 23 (o0 :: some (.int x) :: T) (.int x :: st) h := ev_of d_104_22 rfl
theorem d_104_23 : decode (cd 104) 23 = .ok (.iaload, 1) := by rw [cd_104]; decide +kernel
theorem e_104_23 {d : Nat} {h : mM} {L : mLs} {st : List Value} {a : Nat} {i : Int32} : ev d 104 23 L (.int i :: .ref a :: st) h = if (mK h a = 11 ∨ mK h a = 19) ∧ ixOK i (mL h a) = true then ev d 104 24 L (.int (mI h a i.toNatClampNeg) :: st) h else none := ev_ia d_104_23
theorem d_104_24 : decode (cd 104) 24 = .ok (.if_icmp .ne 31, 3) := by rw [cd_104]; decide +kernel
theorem e_104_24 {d : Nat} {h : mM} {L : mLs} {st : List Value} {x y : Int32} : ev d 104 24 L (.int y :: .int x :: st) h = if ¬ x = y then ev d 104 55 L st h else ev d 104 27 L st h := ev_ic (¬ x = y) inferInstance rfl d_104_24 (by decide)
theorem d_104_27 : decode (cd 104) 27 = .ok (.aload_n 0, 1) := by rw [cd_104]; decide +kernel
theorem e_104_27 {d : Nat} {h : mM} {T : mLs} {x : Nat} {st : List Value} : ev d 104 27 ( some (.ref x) :: T) st h = ev d 104 28 ( some (.ref x) :: T) (.ref x :: st) h := ev_of d_104_27 rfl
theorem d_104_28 : decode (cd 104) 28 = .ok (.getfield 47, 3) := by rw [cd_104]; decide +kernel
theorem e_104_28 {d : Nat} {h : mM} {L : mLs} {st : List Value} {a : Nat} : ev d 104 28 L (.ref a :: st) h = if mK h a = 10 then oB (mR h a 16) (fun b => ev d 104 31 L (.ref b :: st) h) else none := ev_gR d_104_28 (by decide +kernel) (by decide +kernel)
theorem d_104_31 : decode (cd 104) 31 = .ok (.iload_n 3, 1) := by rw [cd_104]; decide +kernel
theorem e_104_31 {d : Nat} {h : mM} {o0 o1 o2 : Option Value} {T : mLs} {x : Int32} {st : List Value} : ev d 104 31 (o0 :: o1 :: o2 :: some (.int x) :: T) st h = ev d 104 32 (o0 :: o1 :: o2 :: some (.int x) :: T) (.int x :: st) h := ev_of d_104_31 rfl
theorem d_104_32 : decode (cd 104) 32 = .ok (.iaload, 1) := by rw [cd_104]; decide +kernel
theorem e_104_32 {d : Nat} {h : mM} {L : mLs} {st : List Value} {a : Nat} {i : Int32} : ev d 104 32 L (.int i :: .ref a :: st) h = if (mK h a = 11 ∨ mK h a = 19) ∧ ixOK i (mL h a) = true then ev d 104 33 L (.int (mI h a i.toNatClampNeg) :: st) h else none := ev_ia d_104_32
theorem d_104_33 : decode (cd 104) 33 = .ok (.aload_n 0, 1) := by rw [cd_104]; decide +kernel
theorem e_104_33 {d : Nat} {h : mM} {T : mLs} {x : Nat} {st : List Value} : ev d 104 33 ( some (.ref x) :: T) st h = ev d 104 34 ( some (.ref x) :: T) (.ref x :: st) h := ev_of d_104_33 rfl
theorem d_104_34 : decode (cd 104) 34 = .ok (.getfield 47, 3) := by rw [cd_104]; decide +kernel
theorem e_104_34 {d : Nat} {h : mM} {L : mLs} {st : List Value} {a : Nat} : ev d 104 34 L (.ref a :: st) h = if mK h a = 10 then oB (mR h a 16) (fun b => ev d 104 37 L (.ref b :: st) h) else none := ev_gR d_104_34 (by decide +kernel) (by decide +kernel)
theorem d_104_37 : decode (cd 104) 37 = .ok (.iload_n 1, 1) := by rw [cd_104]; decide +kernel
theorem e_104_37 {d : Nat} {h : mM} {o0 : Option Value} {T : mLs} {x : Int32} {st : List Value} : ev d 104 37 (o0 :: some (.int x) :: T) st h = ev d 104 38 (o0 :: some (.int x) :: T) (.int x :: st) h := ev_of d_104_37 rfl
theorem d_104_38 : decode (cd 104) 38 = .ok (.iaload, 1) := by rw [cd_104]; decide +kernel
theorem e_104_38 {d : Nat} {h : mM} {L : mLs} {st : List Value} {a : Nat} {i : Int32} : ev d 104 38 L (.int i :: .ref a :: st) h = if (mK h a = 11 ∨ mK h a = 19) ∧ ixOK i (mL h a) = true then ev d 104 39 L (.int (mI h a i.toNatClampNeg) :: st) h else none := ev_ia d_104_38
theorem d_104_39 : decode (cd 104) 39 = .ok (.if_icmp .ge 16, 3) := by rw [cd_104]; decide +kernel
theorem e_104_39 {d : Nat} {h : mM} {L : mLs} {st : List Value} {x y : Int32} : ev d 104 39 L (.int y :: .int x :: st) h = if y ≤ x then ev d 104 55 L st h else ev d 104 42 L st h := ev_ic (y ≤ x) inferInstance rfl d_104_39 (by decide)
theorem d_104_42 : decode (cd 104) 42 = .ok (.iload_n 2, 1) := by rw [cd_104]; decide +kernel
theorem e_104_42 {d : Nat} {h : mM} {o0 o1 : Option Value} {T : mLs} {x : Int32} {st : List Value} : ev d 104 42 (o0 :: o1 :: some (.int x) :: T) st h = ev d 104 43 (o0 :: o1 :: some (.int x) :: T) (.int x :: st) h := ev_of d_104_42 rfl
theorem d_104_43 : decode (cd 104) 43 = .ok (.aload_n 0, 1) := by rw [cd_104]; decide +kernel
theorem e_104_43 {d : Nat} {h : mM} {T : mLs} {x : Nat} {st : List Value} : ev d 104 43 ( some (.ref x) :: T) st h = ev d 104 44 ( some (.ref x) :: T) (.ref x :: st) h := ev_of d_104_43 rfl
theorem d_104_44 : decode (cd 104) 44 = .ok (.getfield 50, 3) := by rw [cd_104]; decide +kernel
theorem e_104_44 {d : Nat} {h : mM} {L : mLs} {st : List Value} {a : Nat} : ev d 104 44 L (.ref a :: st) h = if mK h a = 10 then oB (mR h a 17) (fun b => ev d 104 47 L (.ref b :: st) h) else none := ev_gR d_104_44 (by decide +kernel) (by decide +kernel)
theorem d_104_47 : decode (cd 104) 47 = .ok (.iload_n 3, 1) := by rw [cd_104]; decide +kernel
theorem e_104_47 {d : Nat} {h : mM} {o0 o1 o2 : Option Value} {T : mLs} {x : Int32} {st : List Value} : ev d 104 47 (o0 :: o1 :: o2 :: some (.int x) :: T) st h = ev d 104 48 (o0 :: o1 :: o2 :: some (.int x) :: T) (.int x :: st) h := ev_of d_104_47 rfl
theorem d_104_48 : decode (cd 104) 48 = .ok (.iaload, 1) := by rw [cd_104]; decide +kernel
theorem e_104_48 {d : Nat} {h : mM} {L : mLs} {st : List Value} {a : Nat} {i : Int32} : ev d 104 48 L (.int i :: .ref a :: st) h = if (mK h a = 11 ∨ mK h a = 19) ∧ ixOK i (mL h a) = true then ev d 104 49 L (.int (mI h a i.toNatClampNeg) :: st) h else none := ev_ia d_104_48
theorem d_104_49 : decode (cd 104) 49 = .ok (.invokestatic 105, 3) := by rw [cd_104]; decide +kernel
theorem e_104_49 {d : Nat} {h : mM} {L : mLs} {st : List Value} {x y : Int32} (hc : mCat st ≤ 8) : ev d 104 49 L (.int y :: .int x :: st) h = ev d 104 52 L (.int (if x < y then y else x) :: st) h := ev_max (mj := 0) d_104_49 (by decide +kernel) hc
theorem d_104_52 : decode (cd 104) 52 = .ok (.goto 4, 3) := by rw [cd_104]; decide +kernel
theorem e_104_52 {d : Nat} {h : mM} {L : mLs} {st : List Value} : ev d 104 52 L st h = ev d 104 56 L st h := ev_go d_104_52 (by decide)
theorem d_104_55 : decode (cd 104) 55 = .ok (.iload_n 2, 1) := by rw [cd_104]; decide +kernel
theorem e_104_55 {d : Nat} {h : mM} {o0 o1 : Option Value} {T : mLs} {x : Int32} {st : List Value} : ev d 104 55 (o0 :: o1 :: some (.int x) :: T) st h = ev d 104 56 (o0 :: o1 :: some (.int x) :: T) (.int x :: st) h := ev_of d_104_55 rfl
theorem d_104_56 : decode (cd 104) 56 = .ok (.istore_n 2, 1) := by rw [cd_104]; decide +kernel
theorem e_104_56 {d : Nat} {h : mM} {o0 o1 o2 : Option Value} {T : mLs} {x : Int32} {st : List Value} (hl : mLong o1 = false) : ev d 104 56 (o0 :: o1 :: o2 :: T) (.int x :: st) h = ev d 104 57 (o0 :: o1 :: some (.int x) :: T) st h := ev_st_in d_104_56 (by decide +kernel) (mS1_s (j := 1) hl)
theorem d_104_57 : decode (cd 104) 57 = .ok (.iinc 3 1, 3) := by rw [cd_104]; decide +kernel
theorem e_104_57 {d : Nat} {h : mM} {o0 o1 o2 : Option Value} {T : mLs} {x : Int32} {st : List Value} (hl : mLong o2 = false) : ev d 104 57 (o0 :: o1 :: o2 :: some (.int x) :: T) st h = ev d 104 60 (o0 :: o1 :: o2 :: some (.int (x + 1)) :: T) st h := ev_inc d_104_57 (by decide +kernel) rfl rfl (mS1_s (j := 2) hl)
theorem d_104_60 : decode (cd 104) 60 = .ok (.goto (-56), 3) := by rw [cd_104]; decide +kernel
theorem e_104_60 {d : Nat} {h : mM} {L : mLs} {st : List Value} : ev d 104 60 L st h = ev d 104 4 L st h := ev_go d_104_60 (by decide)
theorem d_104_63 : decode (cd 104) 63 = .ok (.iload_n 2, 1) := by rw [cd_104]; decide +kernel
theorem e_104_63 {d : Nat} {h : mM} {o0 o1 : Option Value} {T : mLs} {x : Int32} {st : List Value} : ev d 104 63 (o0 :: o1 :: some (.int x) :: T) st h = ev d 104 64 (o0 :: o1 :: some (.int x) :: T) (.int x :: st) h := ev_of d_104_63 rfl
theorem d_104_64 : decode (cd 104) 64 = .ok (.ireturn, 1) := by rw [cd_104]; decide +kernel
theorem e_104_64 {d : Nat} {h : mM} {L : mLs} {v : Int32} : ev d 104 64 L [.int v] h = some (some (.int v), h) := ev_ri d_104_64 (by decide +kernel)
-- 105: Model.turns
theorem cd_105 : cd 105 = prog_12_method_28_code := rfl
theorem d_105_0 : decode (cd 105) 0 = .ok (.aload_n 0, 1) := by rw [cd_105]; decide +kernel
theorem e_105_0 {d : Nat} {h : mM} {T : mLs} {x : Nat} {st : List Value} : ev d 105 0 ( some (.ref x) :: T) st h = ev d 105 1 ( some (.ref x) :: T) (.ref x :: st) h := ev_of d_105_0 rfl
theorem d_105_1 : decode (cd 105) 1 = .ok (.iconst 0, 1) := by rw [cd_105]; decide +kernel
theorem e_105_1 {d : Nat} {h : mM} {L : mLs} {st : List Value} : ev d 105 1 L st h = ev d 105 2 L (.int 0 :: st) h := ev_of d_105_1 rfl
theorem d_105_2 : decode (cd 105) 2 = .ok (.putfield 164, 3) := by rw [cd_105]; decide +kernel
theorem e_105_2 {d : Nat} {h : mM} {L : mLs} {st : List Value} {a : Nat} {v : Int32} : ev d 105 2 L (.int v :: .ref a :: st) h = if mK h a = 10 then ev d 105 5 L st (wI h a 34 v) else none := ev_pI d_105_2 (by decide +kernel) (by decide +kernel) (by decide +kernel)
theorem d_105_5 : decode (cd 105) 5 = .ok (.iconst 0, 1) := by rw [cd_105]; decide +kernel
theorem e_105_5 {d : Nat} {h : mM} {L : mLs} {st : List Value} : ev d 105 5 L st h = ev d 105 6 L (.int 0 :: st) h := ev_of d_105_5 rfl
theorem d_105_6 : decode (cd 105) 6 = .ok (.istore 4, 2) := by rw [cd_105]; decide +kernel
theorem e_105_6 {d : Nat} {h : mM} {o0 o1 o2 o3 o4 : Option Value} {T : mLs} {x : Int32} {st : List Value} (hl : mLong o3 = false) : ev d 105 6 (o0 :: o1 :: o2 :: o3 :: o4 :: T) (.int x :: st) h = ev d 105 8 (o0 :: o1 :: o2 :: o3 :: some (.int x) :: T) st h := ev_st_i d_105_6 (by decide +kernel) (mS1_s (j := 3) hl)
theorem d_105_8 : decode (cd 105) 8 = .ok (.iload 4, 2) := by rw [cd_105]; decide +kernel
theorem e_105_8 {d : Nat} {h : mM} {o0 o1 o2 o3 : Option Value} {T : mLs} {x : Int32} {st : List Value} : ev d 105 8 (o0 :: o1 :: o2 :: o3 :: some (.int x) :: T) st h = ev d 105 10 (o0 :: o1 :: o2 :: o3 :: some (.int x) :: T) (.int x :: st) h := ev_of d_105_8 rfl
theorem d_105_10 : decode (cd 105) 10 = .ok (.aload_n 0, 1) := by rw [cd_105]; decide +kernel
theorem e_105_10 {d : Nat} {h : mM} {T : mLs} {x : Nat} {st : List Value} : ev d 105 10 ( some (.ref x) :: T) st h = ev d 105 11 ( some (.ref x) :: T) (.ref x :: st) h := ev_of d_105_10 rfl
theorem d_105_11 : decode (cd 105) 11 = .ok (.getfield 118, 3) := by rw [cd_105]; decide +kernel
theorem e_105_11 {d : Nat} {h : mM} {L : mLs} {st : List Value} {a : Nat} : ev d 105 11 L (.ref a :: st) h = if mK h a = 10 then ev d 105 14 L (.int (mI h a 13) :: st) h else none := ev_gI d_105_11 (by decide +kernel) (by decide +kernel)
theorem d_105_14 : decode (cd 105) 14 = .ok (.if_icmp .ge 17, 3) := by rw [cd_105]; decide +kernel
theorem e_105_14 {d : Nat} {h : mM} {L : mLs} {st : List Value} {x y : Int32} : ev d 105 14 L (.int y :: .int x :: st) h = if y ≤ x then ev d 105 31 L st h else ev d 105 17 L st h := ev_ic (y ≤ x) inferInstance rfl d_105_14 (by decide)
theorem d_105_17 : decode (cd 105) 17 = .ok (.aload_n 0, 1) := by rw [cd_105]; decide +kernel
theorem e_105_17 {d : Nat} {h : mM} {T : mLs} {x : Nat} {st : List Value} : ev d 105 17 ( some (.ref x) :: T) st h = ev d 105 18 ( some (.ref x) :: T) (.ref x :: st) h := ev_of d_105_17 rfl
theorem d_105_18 : decode (cd 105) 18 = .ok (.getfield 96, 3) := by rw [cd_105]; decide +kernel
theorem e_105_18 {d : Nat} {h : mM} {L : mLs} {st : List Value} {a : Nat} : ev d 105 18 L (.ref a :: st) h = if mK h a = 10 then oB (mR h a 35) (fun b => ev d 105 21 L (.ref b :: st) h) else none := ev_gR d_105_18 (by decide +kernel) (by decide +kernel)
theorem d_105_21 : decode (cd 105) 21 = .ok (.iload 4, 2) := by rw [cd_105]; decide +kernel
theorem e_105_21 {d : Nat} {h : mM} {o0 o1 o2 o3 : Option Value} {T : mLs} {x : Int32} {st : List Value} : ev d 105 21 (o0 :: o1 :: o2 :: o3 :: some (.int x) :: T) st h = ev d 105 23 (o0 :: o1 :: o2 :: o3 :: some (.int x) :: T) (.int x :: st) h := ev_of d_105_21 rfl
theorem d_105_23 : decode (cd 105) 23 = .ok (.lconst 0, 1) := by rw [cd_105]; decide +kernel
theorem e_105_23 {d : Nat} {h : mM} {L : mLs} {st : List Value} : ev d 105 23 L st h = ev d 105 24 L (.long 0 :: st) h := ev_of d_105_23 rfl
theorem d_105_24 : decode (cd 105) 24 = .ok (.lastore, 1) := by rw [cd_105]; decide +kernel
theorem e_105_24 {d : Nat} {h : mM} {L : mLs} {st : List Value} {a : Nat} {i : Int32} {v : Int64} : ev d 105 24 L (.long v :: .int i :: .ref a :: st) h = if mK h a = 12 ∧ ixOK i (mL h a) = true then ev d 105 25 L st (wJ h a i.toNatClampNeg v) else none := ev_ls d_105_24
theorem d_105_25 : decode (cd 105) 25 = .ok (.iinc 4 1, 3) := by rw [cd_105]; decide +kernel
theorem e_105_25 {d : Nat} {h : mM} {o0 o1 o2 o3 : Option Value} {T : mLs} {x : Int32} {st : List Value} (hl : mLong o3 = false) : ev d 105 25 (o0 :: o1 :: o2 :: o3 :: some (.int x) :: T) st h = ev d 105 28 (o0 :: o1 :: o2 :: o3 :: some (.int (x + 1)) :: T) st h := ev_inc d_105_25 (by decide +kernel) rfl rfl (mS1_s (j := 3) hl)
theorem d_105_28 : decode (cd 105) 28 = .ok (.goto (-20), 3) := by rw [cd_105]; decide +kernel
theorem e_105_28 {d : Nat} {h : mM} {L : mLs} {st : List Value} : ev d 105 28 L st h = ev d 105 8 L st h := ev_go d_105_28 (by decide)
theorem d_105_31 : decode (cd 105) 31 = .ok (.iconst 0, 1) := by rw [cd_105]; decide +kernel
theorem e_105_31 {d : Nat} {h : mM} {L : mLs} {st : List Value} : ev d 105 31 L st h = ev d 105 32 L (.int 0 :: st) h := ev_of d_105_31 rfl
theorem d_105_32 : decode (cd 105) 32 = .ok (.istore 4, 2) := by rw [cd_105]; decide +kernel
theorem e_105_32 {d : Nat} {h : mM} {o0 o1 o2 o3 o4 : Option Value} {T : mLs} {x : Int32} {st : List Value} (hl : mLong o3 = false) : ev d 105 32 (o0 :: o1 :: o2 :: o3 :: o4 :: T) (.int x :: st) h = ev d 105 34 (o0 :: o1 :: o2 :: o3 :: some (.int x) :: T) st h := ev_st_i d_105_32 (by decide +kernel) (mS1_s (j := 3) hl)
theorem d_105_34 : decode (cd 105) 34 = .ok (.iload 4, 2) := by rw [cd_105]; decide +kernel
theorem e_105_34 {d : Nat} {h : mM} {o0 o1 o2 o3 : Option Value} {T : mLs} {x : Int32} {st : List Value} : ev d 105 34 (o0 :: o1 :: o2 :: o3 :: some (.int x) :: T) st h = ev d 105 36 (o0 :: o1 :: o2 :: o3 :: some (.int x) :: T) (.int x :: st) h := ev_of d_105_34 rfl
theorem d_105_36 : decode (cd 105) 36 = .ok (.bipush 10, 2) := by rw [cd_105]; decide +kernel
theorem e_105_36 {d : Nat} {h : mM} {L : mLs} {st : List Value} : ev d 105 36 L st h = ev d 105 38 L (.int 10 :: st) h := ev_of d_105_36 rfl
theorem d_105_38 : decode (cd 105) 38 = .ok (.if_icmp .ge 76, 3) := by rw [cd_105]; decide +kernel
theorem e_105_38 {d : Nat} {h : mM} {L : mLs} {st : List Value} {x y : Int32} : ev d 105 38 L (.int y :: .int x :: st) h = if y ≤ x then ev d 105 114 L st h else ev d 105 41 L st h := ev_ic (y ≤ x) inferInstance rfl d_105_38 (by decide)
theorem d_105_41 : decode (cd 105) 41 = .ok (.iconst 0, 1) := by rw [cd_105]; decide +kernel
theorem e_105_41 {d : Nat} {h : mM} {L : mLs} {st : List Value} : ev d 105 41 L st h = ev d 105 42 L (.int 0 :: st) h := ev_of d_105_41 rfl
theorem d_105_42 : decode (cd 105) 42 = .ok (.istore 5, 2) := by rw [cd_105]; decide +kernel
theorem e_105_42 {d : Nat} {h : mM} {o0 o1 o2 o3 o4 o5 : Option Value} {T : mLs} {x : Int32} {st : List Value} (hl : mLong o4 = false) : ev d 105 42 (o0 :: o1 :: o2 :: o3 :: o4 :: o5 :: T) (.int x :: st) h = ev d 105 44 (o0 :: o1 :: o2 :: o3 :: o4 :: some (.int x) :: T) st h := ev_st_i d_105_42 (by decide +kernel) (mS1_s (j := 4) hl)
theorem d_105_44 : decode (cd 105) 44 = .ok (.iload 5, 2) := by rw [cd_105]; decide +kernel
theorem e_105_44 {d : Nat} {h : mM} {o0 o1 o2 o3 o4 : Option Value} {T : mLs} {x : Int32} {st : List Value} : ev d 105 44 (o0 :: o1 :: o2 :: o3 :: o4 :: some (.int x) :: T) st h = ev d 105 46 (o0 :: o1 :: o2 :: o3 :: o4 :: some (.int x) :: T) (.int x :: st) h := ev_of d_105_44 rfl
theorem d_105_46 : decode (cd 105) 46 = .ok (.aload_n 0, 1) := by rw [cd_105]; decide +kernel
theorem e_105_46 {d : Nat} {h : mM} {T : mLs} {x : Nat} {st : List Value} : ev d 105 46 ( some (.ref x) :: T) st h = ev d 105 47 ( some (.ref x) :: T) (.ref x :: st) h := ev_of d_105_46 rfl
theorem d_105_47 : decode (cd 105) 47 = .ok (.getfield 118, 3) := by rw [cd_105]; decide +kernel
theorem e_105_47 {d : Nat} {h : mM} {L : mLs} {st : List Value} {a : Nat} : ev d 105 47 L (.ref a :: st) h = if mK h a = 10 then ev d 105 50 L (.int (mI h a 13) :: st) h else none := ev_gI d_105_47 (by decide +kernel) (by decide +kernel)
theorem d_105_50 : decode (cd 105) 50 = .ok (.if_icmp .ge 58, 3) := by rw [cd_105]; decide +kernel
theorem e_105_50 {d : Nat} {h : mM} {L : mLs} {st : List Value} {x y : Int32} : ev d 105 50 L (.int y :: .int x :: st) h = if y ≤ x then ev d 105 108 L st h else ev d 105 53 L st h := ev_ic (y ≤ x) inferInstance rfl d_105_50 (by decide)
theorem d_105_53 : decode (cd 105) 53 = .ok (.iconst 0, 1) := by rw [cd_105]; decide +kernel
theorem e_105_53 {d : Nat} {h : mM} {L : mLs} {st : List Value} : ev d 105 53 L st h = ev d 105 54 L (.int 0 :: st) h := ev_of d_105_53 rfl
theorem d_105_54 : decode (cd 105) 54 = .ok (.istore 6, 2) := by rw [cd_105]; decide +kernel
theorem e_105_54 {d : Nat} {h : mM} {o0 o1 o2 o3 o4 o5 o6 : Option Value} {T : mLs} {x : Int32} {st : List Value} (hl : mLong o5 = false) : ev d 105 54 (o0 :: o1 :: o2 :: o3 :: o4 :: o5 :: o6 :: T) (.int x :: st) h = ev d 105 56 (o0 :: o1 :: o2 :: o3 :: o4 :: o5 :: some (.int x) :: T) st h := ev_st_i d_105_54 (by decide +kernel) (mS1_s (j := 5) hl)
theorem d_105_56 : decode (cd 105) 56 = .ok (.iload 6, 2) := by rw [cd_105]; decide +kernel
theorem e_105_56 {d : Nat} {h : mM} {o0 o1 o2 o3 o4 o5 : Option Value} {T : mLs} {x : Int32} {st : List Value} : ev d 105 56 (o0 :: o1 :: o2 :: o3 :: o4 :: o5 :: some (.int x) :: T) st h = ev d 105 58 (o0 :: o1 :: o2 :: o3 :: o4 :: o5 :: some (.int x) :: T) (.int x :: st) h := ev_of d_105_56 rfl
theorem d_105_58 : decode (cd 105) 58 = .ok (.aload_n 0, 1) := by rw [cd_105]; decide +kernel
theorem e_105_58 {d : Nat} {h : mM} {T : mLs} {x : Nat} {st : List Value} : ev d 105 58 ( some (.ref x) :: T) st h = ev d 105 59 ( some (.ref x) :: T) (.ref x :: st) h := ev_of d_105_58 rfl
theorem d_105_59 : decode (cd 105) 59 = .ok (.getfield 56, 3) := by rw [cd_105]; decide +kernel
theorem e_105_59 {d : Nat} {h : mM} {L : mLs} {st : List Value} {a : Nat} : ev d 105 59 L (.ref a :: st) h = if mK h a = 10 then oB (mR h a 19) (fun b => ev d 105 62 L (.ref b :: st) h) else none := ev_gR d_105_59 (by decide +kernel) (by decide +kernel)
theorem d_105_62 : decode (cd 105) 62 = .ok (.iload 5, 2) := by rw [cd_105]; decide +kernel
theorem e_105_62 {d : Nat} {h : mM} {o0 o1 o2 o3 o4 : Option Value} {T : mLs} {x : Int32} {st : List Value} : ev d 105 62 (o0 :: o1 :: o2 :: o3 :: o4 :: some (.int x) :: T) st h = ev d 105 64 (o0 :: o1 :: o2 :: o3 :: o4 :: some (.int x) :: T) (.int x :: st) h := ev_of d_105_62 rfl
theorem d_105_64 : decode (cd 105) 64 = .ok (.iaload, 1) := by rw [cd_105]; decide +kernel
theorem e_105_64 {d : Nat} {h : mM} {L : mLs} {st : List Value} {a : Nat} {i : Int32} : ev d 105 64 L (.int i :: .ref a :: st) h = if (mK h a = 11 ∨ mK h a = 19) ∧ ixOK i (mL h a) = true then ev d 105 65 L (.int (mI h a i.toNatClampNeg) :: st) h else none := ev_ia d_105_64
theorem d_105_65 : decode (cd 105) 65 = .ok (.if_icmp .ge 37, 3) := by rw [cd_105]; decide +kernel
theorem e_105_65 {d : Nat} {h : mM} {L : mLs} {st : List Value} {x y : Int32} : ev d 105 65 L (.int y :: .int x :: st) h = if y ≤ x then ev d 105 102 L st h else ev d 105 68 L st h := ev_ic (y ≤ x) inferInstance rfl d_105_65 (by decide)
theorem d_105_68 : decode (cd 105) 68 = .ok (.aload_n 0, 1) := by rw [cd_105]; decide +kernel
theorem e_105_68 {d : Nat} {h : mM} {T : mLs} {x : Nat} {st : List Value} : ev d 105 68 ( some (.ref x) :: T) st h = ev d 105 69 ( some (.ref x) :: T) (.ref x :: st) h := ev_of d_105_68 rfl
theorem d_105_69 : decode (cd 105) 69 = .ok (.getfield 47, 3) := by rw [cd_105]; decide +kernel
theorem e_105_69 {d : Nat} {h : mM} {L : mLs} {st : List Value} {a : Nat} : ev d 105 69 L (.ref a :: st) h = if mK h a = 10 then oB (mR h a 16) (fun b => ev d 105 72 L (.ref b :: st) h) else none := ev_gR d_105_69 (by decide +kernel) (by decide +kernel)
theorem d_105_72 : decode (cd 105) 72 = .ok (.iload 5, 2) := by rw [cd_105]; decide +kernel
theorem e_105_72 {d : Nat} {h : mM} {o0 o1 o2 o3 o4 : Option Value} {T : mLs} {x : Int32} {st : List Value} : ev d 105 72 (o0 :: o1 :: o2 :: o3 :: o4 :: some (.int x) :: T) st h = ev d 105 74 (o0 :: o1 :: o2 :: o3 :: o4 :: some (.int x) :: T) (.int x :: st) h := ev_of d_105_72 rfl
theorem d_105_74 : decode (cd 105) 74 = .ok (.iaload, 1) := by rw [cd_105]; decide +kernel
theorem e_105_74 {d : Nat} {h : mM} {L : mLs} {st : List Value} {a : Nat} {i : Int32} : ev d 105 74 L (.int i :: .ref a :: st) h = if (mK h a = 11 ∨ mK h a = 19) ∧ ixOK i (mL h a) = true then ev d 105 75 L (.int (mI h a i.toNatClampNeg) :: st) h else none := ev_ia d_105_74
theorem d_105_75 : decode (cd 105) 75 = .ok (.iload 4, 2) := by rw [cd_105]; decide +kernel
theorem e_105_75 {d : Nat} {h : mM} {o0 o1 o2 o3 : Option Value} {T : mLs} {x : Int32} {st : List Value} : ev d 105 75 (o0 :: o1 :: o2 :: o3 :: some (.int x) :: T) st h = ev d 105 77 (o0 :: o1 :: o2 :: o3 :: some (.int x) :: T) (.int x :: st) h := ev_of d_105_75 rfl
theorem d_105_77 : decode (cd 105) 77 = .ok (.if_icmp .ne 25, 3) := by rw [cd_105]; decide +kernel
theorem e_105_77 {d : Nat} {h : mM} {L : mLs} {st : List Value} {x y : Int32} : ev d 105 77 L (.int y :: .int x :: st) h = if ¬ x = y then ev d 105 102 L st h else ev d 105 80 L st h := ev_ic (¬ x = y) inferInstance rfl d_105_77 (by decide)
theorem d_105_80 : decode (cd 105) 80 = .ok (.aload_n 0, 1) := by rw [cd_105]; decide +kernel
theorem e_105_80 {d : Nat} {h : mM} {T : mLs} {x : Nat} {st : List Value} : ev d 105 80 ( some (.ref x) :: T) st h = ev d 105 81 ( some (.ref x) :: T) (.ref x :: st) h := ev_of d_105_80 rfl
theorem d_105_81 : decode (cd 105) 81 = .ok (.aload_n 1, 1) := by rw [cd_105]; decide +kernel
theorem e_105_81 {d : Nat} {h : mM} {o0 : Option Value} {T : mLs} {x : Nat} {st : List Value} : ev d 105 81 (o0 :: some (.ref x) :: T) st h = ev d 105 82 (o0 :: some (.ref x) :: T) (.ref x :: st) h := ev_of d_105_81 rfl
theorem d_105_82 : decode (cd 105) 82 = .ok (.iload_n 2, 1) := by rw [cd_105]; decide +kernel
theorem e_105_82 {d : Nat} {h : mM} {o0 o1 : Option Value} {T : mLs} {x : Int32} {st : List Value} : ev d 105 82 (o0 :: o1 :: some (.int x) :: T) st h = ev d 105 83 (o0 :: o1 :: some (.int x) :: T) (.int x :: st) h := ev_of d_105_82 rfl
theorem d_105_83 : decode (cd 105) 83 = .ok (.iload 5, 2) := by rw [cd_105]; decide +kernel
theorem e_105_83 {d : Nat} {h : mM} {o0 o1 o2 o3 o4 : Option Value} {T : mLs} {x : Int32} {st : List Value} : ev d 105 83 (o0 :: o1 :: o2 :: o3 :: o4 :: some (.int x) :: T) st h = ev d 105 85 (o0 :: o1 :: o2 :: o3 :: o4 :: some (.int x) :: T) (.int x :: st) h := ev_of d_105_83 rfl
theorem d_105_85 : decode (cd 105) 85 = .ok (.iconst 3, 1) := by rw [cd_105]; decide +kernel
theorem e_105_85 {d : Nat} {h : mM} {L : mLs} {st : List Value} : ev d 105 85 L st h = ev d 105 86 L (.int 3 :: st) h := ev_of d_105_85 rfl
theorem d_105_86 : decode (cd 105) 86 = .ok (.iload 5, 2) := by rw [cd_105]; decide +kernel
theorem e_105_86 {d : Nat} {h : mM} {o0 o1 o2 o3 o4 : Option Value} {T : mLs} {x : Int32} {st : List Value} : ev d 105 86 (o0 :: o1 :: o2 :: o3 :: o4 :: some (.int x) :: T) st h = ev d 105 88 (o0 :: o1 :: o2 :: o3 :: o4 :: some (.int x) :: T) (.int x :: st) h := ev_of d_105_86 rfl
theorem d_105_88 : decode (cd 105) 88 = .ok (.imul, 1) := by rw [cd_105]; decide +kernel
theorem e_105_88 {d : Nat} {h : mM} {L : mLs} {st : List Value} {x y : Int32} : ev d 105 88 L (.int y :: .int x :: st) h = ev d 105 89 L (.int (x * y) :: st) h := ev_of d_105_88 rfl
theorem d_105_89 : decode (cd 105) 89 = .ok (.iload 6, 2) := by rw [cd_105]; decide +kernel
theorem e_105_89 {d : Nat} {h : mM} {o0 o1 o2 o3 o4 o5 : Option Value} {T : mLs} {x : Int32} {st : List Value} : ev d 105 89 (o0 :: o1 :: o2 :: o3 :: o4 :: o5 :: some (.int x) :: T) st h = ev d 105 91 (o0 :: o1 :: o2 :: o3 :: o4 :: o5 :: some (.int x) :: T) (.int x :: st) h := ev_of d_105_89 rfl
theorem d_105_91 : decode (cd 105) 91 = .ok (.iadd, 1) := by rw [cd_105]; decide +kernel
theorem e_105_91 {d : Nat} {h : mM} {L : mLs} {st : List Value} {x y : Int32} : ev d 105 91 L (.int y :: .int x :: st) h = ev d 105 92 L (.int (x + y) :: st) h := ev_of d_105_91 rfl
theorem d_105_92 : decode (cd 105) 92 = .ok (.iload_n 3, 1) := by rw [cd_105]; decide +kernel
theorem e_105_92 {d : Nat} {h : mM} {o0 o1 o2 : Option Value} {T : mLs} {x : Int32} {st : List Value} : ev d 105 92 (o0 :: o1 :: o2 :: some (.int x) :: T) st h = ev d 105 93 (o0 :: o1 :: o2 :: some (.int x) :: T) (.int x :: st) h := ev_of d_105_92 rfl
theorem d_105_93 : decode (cd 105) 93 = .ok (.invokevirtual 167, 3) := by rw [cd_105]; decide +kernel
theorem e_105_93 {d : Nat} {h : mM} {L : mLs} {st : List Value} {a : Nat} {x0 : Nat} {x1 : Int32} {x2 : Int32} {x3 : Int32} {x4 : Int32} (hc : mCat st ≤ 8) : ev (d + 1) 105 93 L (.int x4 :: .int x3 :: .int x2 :: .int x1 :: .ref x0 :: .ref a :: st) h = if mK h a = 10 then cV (ev d 106 0 [some (.ref a), some (.ref x0), some (.int x1), some (.int x2), some (.int x3), some (.int x4), none, none, none] [] h) (fun v h1 => ev (d + 1) 105 96 L (v ++ st) h1) else none := ev_cv (mj := 106) (as := [.ref x0, .int x1, .int x2, .int x3, .int x4]) (rest := st) d_105_93 (by decide +kernel) rfl rfl (by show _ ≤ List.length _; simp only [List.length_cons]; have : na 106 = 5 := rfl; omega) rfl (Nat.le_of_ble_eq_true rfl) hc
theorem d_105_96 : decode (cd 105) 96 = .ok (.iinc 6 1, 3) := by rw [cd_105]; decide +kernel
theorem e_105_96 {d : Nat} {h : mM} {o0 o1 o2 o3 o4 o5 : Option Value} {T : mLs} {x : Int32} {st : List Value} (hl : mLong o5 = false) : ev d 105 96 (o0 :: o1 :: o2 :: o3 :: o4 :: o5 :: some (.int x) :: T) st h = ev d 105 99 (o0 :: o1 :: o2 :: o3 :: o4 :: o5 :: some (.int (x + 1)) :: T) st h := ev_inc d_105_96 (by decide +kernel) rfl rfl (mS1_s (j := 5) hl)
theorem d_105_99 : decode (cd 105) 99 = .ok (.goto (-43), 3) := by rw [cd_105]; decide +kernel
theorem e_105_99 {d : Nat} {h : mM} {L : mLs} {st : List Value} : ev d 105 99 L st h = ev d 105 56 L st h := ev_go d_105_99 (by decide)
theorem d_105_102 : decode (cd 105) 102 = .ok (.iinc 5 1, 3) := by rw [cd_105]; decide +kernel
theorem e_105_102 {d : Nat} {h : mM} {o0 o1 o2 o3 o4 : Option Value} {T : mLs} {x : Int32} {st : List Value} (hl : mLong o4 = false) : ev d 105 102 (o0 :: o1 :: o2 :: o3 :: o4 :: some (.int x) :: T) st h = ev d 105 105 (o0 :: o1 :: o2 :: o3 :: o4 :: some (.int (x + 1)) :: T) st h := ev_inc d_105_102 (by decide +kernel) rfl rfl (mS1_s (j := 4) hl)
theorem d_105_105 : decode (cd 105) 105 = .ok (.goto (-61), 3) := by rw [cd_105]; decide +kernel
theorem e_105_105 {d : Nat} {h : mM} {L : mLs} {st : List Value} : ev d 105 105 L st h = ev d 105 44 L st h := ev_go d_105_105 (by decide)
theorem d_105_108 : decode (cd 105) 108 = .ok (.iinc 4 1, 3) := by rw [cd_105]; decide +kernel
theorem e_105_108 {d : Nat} {h : mM} {o0 o1 o2 o3 : Option Value} {T : mLs} {x : Int32} {st : List Value} (hl : mLong o3 = false) : ev d 105 108 (o0 :: o1 :: o2 :: o3 :: some (.int x) :: T) st h = ev d 105 111 (o0 :: o1 :: o2 :: o3 :: some (.int (x + 1)) :: T) st h := ev_inc d_105_108 (by decide +kernel) rfl rfl (mS1_s (j := 3) hl)
theorem d_105_111 : decode (cd 105) 111 = .ok (.goto (-77), 3) := by rw [cd_105]; decide +kernel
theorem e_105_111 {d : Nat} {h : mM} {L : mLs} {st : List Value} : ev d 105 111 L st h = ev d 105 34 L st h := ev_go d_105_111 (by decide)
theorem d_105_114 : decode (cd 105) 114 = .ok (.return_, 1) := by rw [cd_105]; decide +kernel
theorem e_105_114 {d : Nat} {h : mM} {L : mLs} : ev d 105 114 L [] h = some (none, h) := ev_rv d_105_114 (by decide +kernel)
-- 106: Model.turn
theorem cd_106 : cd 106 = prog_12_method_29_code := rfl
theorem d_106_0 : decode (cd 106) 0 = .ok (.aload_n 0, 1) := by rw [cd_106]; decide +kernel
theorem e_106_0 {d : Nat} {h : mM} {T : mLs} {x : Nat} {st : List Value} : ev d 106 0 ( some (.ref x) :: T) st h = ev d 106 1 ( some (.ref x) :: T) (.ref x :: st) h := ev_of d_106_0 rfl
theorem d_106_1 : decode (cd 106) 1 = .ok (.getfield 44, 3) := by rw [cd_106]; decide +kernel
theorem e_106_1 {d : Nat} {h : mM} {L : mLs} {st : List Value} {a : Nat} : ev d 106 1 L (.ref a :: st) h = if mK h a = 10 then oB (mR h a 15) (fun b => ev d 106 4 L (.ref b :: st) h) else none := ev_gR d_106_1 (by decide +kernel) (by decide +kernel)
theorem d_106_4 : decode (cd 106) 4 = .ok (.iload_n 3, 1) := by rw [cd_106]; decide +kernel
theorem e_106_4 {d : Nat} {h : mM} {o0 o1 o2 : Option Value} {T : mLs} {x : Int32} {st : List Value} : ev d 106 4 (o0 :: o1 :: o2 :: some (.int x) :: T) st h = ev d 106 5 (o0 :: o1 :: o2 :: some (.int x) :: T) (.int x :: st) h := ev_of d_106_4 rfl
theorem d_106_5 : decode (cd 106) 5 = .ok (.iaload, 1) := by rw [cd_106]; decide +kernel
theorem e_106_5 {d : Nat} {h : mM} {L : mLs} {st : List Value} {a : Nat} {i : Int32} : ev d 106 5 L (.int i :: .ref a :: st) h = if (mK h a = 11 ∨ mK h a = 19) ∧ ixOK i (mL h a) = true then ev d 106 6 L (.int (mI h a i.toNatClampNeg) :: st) h else none := ev_ia d_106_5
theorem d_106_6 : decode (cd 106) 6 = .ok (.istore 6, 2) := by rw [cd_106]; decide +kernel
theorem e_106_6 {d : Nat} {h : mM} {o0 o1 o2 o3 o4 o5 o6 : Option Value} {T : mLs} {x : Int32} {st : List Value} (hl : mLong o5 = false) : ev d 106 6 (o0 :: o1 :: o2 :: o3 :: o4 :: o5 :: o6 :: T) (.int x :: st) h = ev d 106 8 (o0 :: o1 :: o2 :: o3 :: o4 :: o5 :: some (.int x) :: T) st h := ev_st_i d_106_6 (by decide +kernel) (mS1_s (j := 5) hl)
theorem d_106_8 : decode (cd 106) 8 = .ok (.aload_n 1, 1) := by rw [cd_106]; decide +kernel
theorem e_106_8 {d : Nat} {h : mM} {o0 : Option Value} {T : mLs} {x : Nat} {st : List Value} : ev d 106 8 (o0 :: some (.ref x) :: T) st h = ev d 106 9 (o0 :: some (.ref x) :: T) (.ref x :: st) h := ev_of d_106_8 rfl
theorem d_106_9 : decode (cd 106) 9 = .ok (.iload 6, 2) := by rw [cd_106]; decide +kernel
theorem e_106_9 {d : Nat} {h : mM} {o0 o1 o2 o3 o4 o5 : Option Value} {T : mLs} {x : Int32} {st : List Value} : ev d 106 9 (o0 :: o1 :: o2 :: o3 :: o4 :: o5 :: some (.int x) :: T) st h = ev d 106 11 (o0 :: o1 :: o2 :: o3 :: o4 :: o5 :: some (.int x) :: T) (.int x :: st) h := ev_of d_106_9 rfl
theorem d_106_11 : decode (cd 106) 11 = .ok (.iaload, 1) := by rw [cd_106]; decide +kernel
theorem e_106_11 {d : Nat} {h : mM} {L : mLs} {st : List Value} {a : Nat} {i : Int32} : ev d 106 11 L (.int i :: .ref a :: st) h = if (mK h a = 11 ∨ mK h a = 19) ∧ ixOK i (mL h a) = true then ev d 106 12 L (.int (mI h a i.toNatClampNeg) :: st) h else none := ev_ia d_106_11
theorem d_106_12 : decode (cd 106) 12 = .ok (.aload_n 0, 1) := by rw [cd_106]; decide +kernel
theorem e_106_12 {d : Nat} {h : mM} {T : mLs} {x : Nat} {st : List Value} : ev d 106 12 ( some (.ref x) :: T) st h = ev d 106 13 ( some (.ref x) :: T) (.ref x :: st) h := ev_of d_106_12 rfl
theorem d_106_13 : decode (cd 106) 13 = .ok (.getfield 17, 3) := by rw [cd_106]; decide +kernel
theorem e_106_13 {d : Nat} {h : mM} {L : mLs} {st : List Value} {a : Nat} : ev d 106 13 L (.ref a :: st) h = if mK h a = 10 then oB (mR h a 4) (fun b => ev d 106 16 L (.ref b :: st) h) else none := ev_gR d_106_13 (by decide +kernel) (by decide +kernel)
theorem d_106_16 : decode (cd 106) 16 = .ok (.iload 6, 2) := by rw [cd_106]; decide +kernel
theorem e_106_16 {d : Nat} {h : mM} {o0 o1 o2 o3 o4 o5 : Option Value} {T : mLs} {x : Int32} {st : List Value} : ev d 106 16 (o0 :: o1 :: o2 :: o3 :: o4 :: o5 :: some (.int x) :: T) st h = ev d 106 18 (o0 :: o1 :: o2 :: o3 :: o4 :: o5 :: some (.int x) :: T) (.int x :: st) h := ev_of d_106_16 rfl
theorem d_106_18 : decode (cd 106) 18 = .ok (.iaload, 1) := by rw [cd_106]; decide +kernel
theorem e_106_18 {d : Nat} {h : mM} {L : mLs} {st : List Value} {a : Nat} {i : Int32} : ev d 106 18 L (.int i :: .ref a :: st) h = if (mK h a = 11 ∨ mK h a = 19) ∧ ixOK i (mL h a) = true then ev d 106 19 L (.int (mI h a i.toNatClampNeg) :: st) h else none := ev_ia d_106_18
theorem d_106_19 : decode (cd 106) 19 = .ok (.idiv, 1) := by rw [cd_106]; decide +kernel
theorem e_106_19 {d : Nat} {h : mM} {L : mLs} {st : List Value} {x y : Int32} : ev d 106 19 L (.int y :: .int x :: st) h = if y = 0 then none else ev d 106 20 L (.int (x / y) :: st) h := ev_div d_106_19
theorem d_106_20 : decode (cd 106) 20 = .ok (.iload_n 2, 1) := by rw [cd_106]; decide +kernel
theorem e_106_20 {d : Nat} {h : mM} {o0 o1 : Option Value} {T : mLs} {x : Int32} {st : List Value} : ev d 106 20 (o0 :: o1 :: some (.int x) :: T) st h = ev d 106 21 (o0 :: o1 :: some (.int x) :: T) (.int x :: st) h := ev_of d_106_20 rfl
theorem d_106_21 : decode (cd 106) 21 = .ok (.isub, 1) := by rw [cd_106]; decide +kernel
theorem e_106_21 {d : Nat} {h : mM} {L : mLs} {st : List Value} {x y : Int32} : ev d 106 21 L (.int y :: .int x :: st) h = ev d 106 22 L (.int (x - y) :: st) h := ev_of d_106_21 rfl
theorem d_106_22 : decode (cd 106) 22 = .ok (.istore 7, 2) := by rw [cd_106]; decide +kernel
theorem e_106_22 {d : Nat} {h : mM} {o0 o1 o2 o3 o4 o5 o6 o7 : Option Value} {T : mLs} {x : Int32} {st : List Value} (hl : mLong o6 = false) : ev d 106 22 (o0 :: o1 :: o2 :: o3 :: o4 :: o5 :: o6 :: o7 :: T) (.int x :: st) h = ev d 106 24 (o0 :: o1 :: o2 :: o3 :: o4 :: o5 :: o6 :: some (.int x) :: T) st h := ev_st_i d_106_22 (by decide +kernel) (mS1_s (j := 6) hl)
theorem d_106_24 : decode (cd 106) 24 = .ok (.iload 5, 2) := by rw [cd_106]; decide +kernel
theorem e_106_24 {d : Nat} {h : mM} {o0 o1 o2 o3 o4 : Option Value} {T : mLs} {x : Int32} {st : List Value} : ev d 106 24 (o0 :: o1 :: o2 :: o3 :: o4 :: some (.int x) :: T) st h = ev d 106 26 (o0 :: o1 :: o2 :: o3 :: o4 :: some (.int x) :: T) (.int x :: st) h := ev_of d_106_24 rfl
theorem d_106_26 : decode (cd 106) 26 = .ok (.iload 4, 2) := by rw [cd_106]; decide +kernel
theorem e_106_26 {d : Nat} {h : mM} {o0 o1 o2 o3 : Option Value} {T : mLs} {x : Int32} {st : List Value} : ev d 106 26 (o0 :: o1 :: o2 :: o3 :: some (.int x) :: T) st h = ev d 106 28 (o0 :: o1 :: o2 :: o3 :: some (.int x) :: T) (.int x :: st) h := ev_of d_106_26 rfl
theorem d_106_28 : decode (cd 106) 28 = .ok (.ishr, 1) := by rw [cd_106]; decide +kernel
theorem e_106_28 {d : Nat} {h : mM} {L : mLs} {st : List Value} {x y : Int32} : ev d 106 28 L (.int y :: .int x :: st) h = ev d 106 29 L (.int (x >>> (y &&& 31)) :: st) h := ev_of d_106_28 rfl
theorem d_106_29 : decode (cd 106) 29 = .ok (.iconst 1, 1) := by rw [cd_106]; decide +kernel
theorem e_106_29 {d : Nat} {h : mM} {L : mLs} {st : List Value} : ev d 106 29 L st h = ev d 106 30 L (.int 1 :: st) h := ev_of d_106_29 rfl
theorem d_106_30 : decode (cd 106) 30 = .ok (.iand, 1) := by rw [cd_106]; decide +kernel
theorem e_106_30 {d : Nat} {h : mM} {L : mLs} {st : List Value} {x y : Int32} : ev d 106 30 L (.int y :: .int x :: st) h = ev d 106 31 L (.int (x &&& y) :: st) h := ev_of d_106_30 rfl
theorem d_106_31 : decode (cd 106) 31 = .ok (.ifCond .eq 57, 3) := by rw [cd_106]; decide +kernel
theorem e_106_31 {d : Nat} {h : mM} {L : mLs} {st : List Value} {x : Int32} : ev d 106 31 L (.int x :: st) h = if x = 0 then ev d 106 88 L st h else ev d 106 34 L st h := ev_if (x = 0) inferInstance rfl d_106_31 (by decide)
theorem d_106_34 : decode (cd 106) 34 = .ok (.iload 7, 2) := by rw [cd_106]; decide +kernel
theorem e_106_34 {d : Nat} {h : mM} {o0 o1 o2 o3 o4 o5 o6 : Option Value} {T : mLs} {x : Int32} {st : List Value} : ev d 106 34 (o0 :: o1 :: o2 :: o3 :: o4 :: o5 :: o6 :: some (.int x) :: T) st h = ev d 106 36 (o0 :: o1 :: o2 :: o3 :: o4 :: o5 :: o6 :: some (.int x) :: T) (.int x :: st) h := ev_of d_106_34 rfl
theorem d_106_36 : decode (cd 106) 36 = .ok (.aload_n 0, 1) := by rw [cd_106]; decide +kernel
theorem e_106_36 {d : Nat} {h : mM} {T : mLs} {x : Nat} {st : List Value} : ev d 106 36 ( some (.ref x) :: T) st h = ev d 106 37 ( some (.ref x) :: T) (.ref x :: st) h := ev_of d_106_36 rfl
theorem d_106_37 : decode (cd 106) 37 = .ok (.getfield 59, 3) := by rw [cd_106]; decide +kernel
theorem e_106_37 {d : Nat} {h : mM} {L : mLs} {st : List Value} {a : Nat} : ev d 106 37 L (.ref a :: st) h = if mK h a = 10 then oB (mR h a 20) (fun b => ev d 106 40 L (.ref b :: st) h) else none := ev_gR d_106_37 (by decide +kernel) (by decide +kernel)
theorem d_106_40 : decode (cd 106) 40 = .ok (.iload 4, 2) := by rw [cd_106]; decide +kernel
theorem e_106_40 {d : Nat} {h : mM} {o0 o1 o2 o3 : Option Value} {T : mLs} {x : Int32} {st : List Value} : ev d 106 40 (o0 :: o1 :: o2 :: o3 :: some (.int x) :: T) st h = ev d 106 42 (o0 :: o1 :: o2 :: o3 :: some (.int x) :: T) (.int x :: st) h := ev_of d_106_40 rfl
theorem d_106_42 : decode (cd 106) 42 = .ok (.iaload, 1) := by rw [cd_106]; decide +kernel
theorem e_106_42 {d : Nat} {h : mM} {L : mLs} {st : List Value} {a : Nat} {i : Int32} : ev d 106 42 L (.int i :: .ref a :: st) h = if (mK h a = 11 ∨ mK h a = 19) ∧ ixOK i (mL h a) = true then ev d 106 43 L (.int (mI h a i.toNatClampNeg) :: st) h else none := ev_ia d_106_42
theorem d_106_43 : decode (cd 106) 43 = .ok (.if_icmp .lt 45, 3) := by rw [cd_106]; decide +kernel
theorem e_106_43 {d : Nat} {h : mM} {L : mLs} {st : List Value} {x y : Int32} : ev d 106 43 L (.int y :: .int x :: st) h = if x < y then ev d 106 88 L st h else ev d 106 46 L st h := ev_ic (x < y) inferInstance rfl d_106_43 (by decide)
theorem d_106_46 : decode (cd 106) 46 = .ok (.aload_n 1, 1) := by rw [cd_106]; decide +kernel
theorem e_106_46 {d : Nat} {h : mM} {o0 : Option Value} {T : mLs} {x : Nat} {st : List Value} : ev d 106 46 (o0 :: some (.ref x) :: T) st h = ev d 106 47 (o0 :: some (.ref x) :: T) (.ref x :: st) h := ev_of d_106_46 rfl
theorem d_106_47 : decode (cd 106) 47 = .ok (.iload 6, 2) := by rw [cd_106]; decide +kernel
theorem e_106_47 {d : Nat} {h : mM} {o0 o1 o2 o3 o4 o5 : Option Value} {T : mLs} {x : Int32} {st : List Value} : ev d 106 47 (o0 :: o1 :: o2 :: o3 :: o4 :: o5 :: some (.int x) :: T) st h = ev d 106 49 (o0 :: o1 :: o2 :: o3 :: o4 :: o5 :: some (.int x) :: T) (.int x :: st) h := ev_of d_106_47 rfl
theorem d_106_49 : decode (cd 106) 49 = .ok (.iaload, 1) := by rw [cd_106]; decide +kernel
theorem e_106_49 {d : Nat} {h : mM} {L : mLs} {st : List Value} {a : Nat} {i : Int32} : ev d 106 49 L (.int i :: .ref a :: st) h = if (mK h a = 11 ∨ mK h a = 19) ∧ ixOK i (mL h a) = true then ev d 106 50 L (.int (mI h a i.toNatClampNeg) :: st) h else none := ev_ia d_106_49
theorem d_106_50 : decode (cd 106) 50 = .ok (.aload_n 0, 1) := by rw [cd_106]; decide +kernel
theorem e_106_50 {d : Nat} {h : mM} {T : mLs} {x : Nat} {st : List Value} : ev d 106 50 ( some (.ref x) :: T) st h = ev d 106 51 ( some (.ref x) :: T) (.ref x :: st) h := ev_of d_106_50 rfl
theorem d_106_51 : decode (cd 106) 51 = .ok (.getfield 62, 3) := by rw [cd_106]; decide +kernel
theorem e_106_51 {d : Nat} {h : mM} {L : mLs} {st : List Value} {a : Nat} : ev d 106 51 L (.ref a :: st) h = if mK h a = 10 then oB (mR h a 21) (fun b => ev d 106 54 L (.ref b :: st) h) else none := ev_gR d_106_51 (by decide +kernel) (by decide +kernel)
theorem d_106_54 : decode (cd 106) 54 = .ok (.iload 4, 2) := by rw [cd_106]; decide +kernel
theorem e_106_54 {d : Nat} {h : mM} {o0 o1 o2 o3 : Option Value} {T : mLs} {x : Int32} {st : List Value} : ev d 106 54 (o0 :: o1 :: o2 :: o3 :: some (.int x) :: T) st h = ev d 106 56 (o0 :: o1 :: o2 :: o3 :: some (.int x) :: T) (.int x :: st) h := ev_of d_106_54 rfl
theorem d_106_56 : decode (cd 106) 56 = .ok (.iaload, 1) := by rw [cd_106]; decide +kernel
theorem e_106_56 {d : Nat} {h : mM} {L : mLs} {st : List Value} {a : Nat} {i : Int32} : ev d 106 56 L (.int i :: .ref a :: st) h = if (mK h a = 11 ∨ mK h a = 19) ∧ ixOK i (mL h a) = true then ev d 106 57 L (.int (mI h a i.toNatClampNeg) :: st) h else none := ev_ia d_106_56
theorem d_106_57 : decode (cd 106) 57 = .ok (.if_icmp .lt 31, 3) := by rw [cd_106]; decide +kernel
theorem e_106_57 {d : Nat} {h : mM} {L : mLs} {st : List Value} {x y : Int32} : ev d 106 57 L (.int y :: .int x :: st) h = if x < y then ev d 106 88 L st h else ev d 106 60 L st h := ev_ic (x < y) inferInstance rfl d_106_57 (by decide)
theorem d_106_60 : decode (cd 106) 60 = .ok (.aload_n 1, 1) := by rw [cd_106]; decide +kernel
theorem e_106_60 {d : Nat} {h : mM} {o0 : Option Value} {T : mLs} {x : Nat} {st : List Value} : ev d 106 60 (o0 :: some (.ref x) :: T) st h = ev d 106 61 (o0 :: some (.ref x) :: T) (.ref x :: st) h := ev_of d_106_60 rfl
theorem d_106_61 : decode (cd 106) 61 = .ok (.iload 6, 2) := by rw [cd_106]; decide +kernel
theorem e_106_61 {d : Nat} {h : mM} {o0 o1 o2 o3 o4 o5 : Option Value} {T : mLs} {x : Int32} {st : List Value} : ev d 106 61 (o0 :: o1 :: o2 :: o3 :: o4 :: o5 :: some (.int x) :: T) st h = ev d 106 63 (o0 :: o1 :: o2 :: o3 :: o4 :: o5 :: some (.int x) :: T) (.int x :: st) h := ev_of d_106_61 rfl
theorem d_106_63 : decode (cd 106) 63 = .ok (.iaload, 1) := by rw [cd_106]; decide +kernel
theorem e_106_63 {d : Nat} {h : mM} {L : mLs} {st : List Value} {a : Nat} {i : Int32} : ev d 106 63 L (.int i :: .ref a :: st) h = if (mK h a = 11 ∨ mK h a = 19) ∧ ixOK i (mL h a) = true then ev d 106 64 L (.int (mI h a i.toNatClampNeg) :: st) h else none := ev_ia d_106_63
theorem d_106_64 : decode (cd 106) 64 = .ok (.aload_n 0, 1) := by rw [cd_106]; decide +kernel
theorem e_106_64 {d : Nat} {h : mM} {T : mLs} {x : Nat} {st : List Value} : ev d 106 64 ( some (.ref x) :: T) st h = ev d 106 65 ( some (.ref x) :: T) (.ref x :: st) h := ev_of d_106_64 rfl
theorem d_106_65 : decode (cd 106) 65 = .ok (.getfield 62, 3) := by rw [cd_106]; decide +kernel
theorem e_106_65 {d : Nat} {h : mM} {L : mLs} {st : List Value} {a : Nat} : ev d 106 65 L (.ref a :: st) h = if mK h a = 10 then oB (mR h a 21) (fun b => ev d 106 68 L (.ref b :: st) h) else none := ev_gR d_106_65 (by decide +kernel) (by decide +kernel)
theorem d_106_68 : decode (cd 106) 68 = .ok (.iload 4, 2) := by rw [cd_106]; decide +kernel
theorem e_106_68 {d : Nat} {h : mM} {o0 o1 o2 o3 : Option Value} {T : mLs} {x : Int32} {st : List Value} : ev d 106 68 (o0 :: o1 :: o2 :: o3 :: some (.int x) :: T) st h = ev d 106 70 (o0 :: o1 :: o2 :: o3 :: some (.int x) :: T) (.int x :: st) h := ev_of d_106_68 rfl
theorem d_106_70 : decode (cd 106) 70 = .ok (.iaload, 1) := by rw [cd_106]; decide +kernel
theorem e_106_70 {d : Nat} {h : mM} {L : mLs} {st : List Value} {a : Nat} {i : Int32} : ev d 106 70 L (.int i :: .ref a :: st) h = if (mK h a = 11 ∨ mK h a = 19) ∧ ixOK i (mL h a) = true then ev d 106 71 L (.int (mI h a i.toNatClampNeg) :: st) h else none := ev_ia d_106_70
theorem d_106_71 : decode (cd 106) 71 = .ok (.isub, 1) := by rw [cd_106]; decide +kernel
theorem e_106_71 {d : Nat} {h : mM} {L : mLs} {st : List Value} {x y : Int32} : ev d 106 71 L (.int y :: .int x :: st) h = ev d 106 72 L (.int (x - y) :: st) h := ev_of d_106_71 rfl
theorem d_106_72 : decode (cd 106) 72 = .ok (.aload_n 0, 1) := by rw [cd_106]; decide +kernel
theorem e_106_72 {d : Nat} {h : mM} {T : mLs} {x : Nat} {st : List Value} : ev d 106 72 ( some (.ref x) :: T) st h = ev d 106 73 ( some (.ref x) :: T) (.ref x :: st) h := ev_of d_106_72 rfl
theorem d_106_73 : decode (cd 106) 73 = .ok (.getfield 17, 3) := by rw [cd_106]; decide +kernel
theorem e_106_73 {d : Nat} {h : mM} {L : mLs} {st : List Value} {a : Nat} : ev d 106 73 L (.ref a :: st) h = if mK h a = 10 then oB (mR h a 4) (fun b => ev d 106 76 L (.ref b :: st) h) else none := ev_gR d_106_73 (by decide +kernel) (by decide +kernel)
theorem d_106_76 : decode (cd 106) 76 = .ok (.iload 6, 2) := by rw [cd_106]; decide +kernel
theorem e_106_76 {d : Nat} {h : mM} {o0 o1 o2 o3 o4 o5 : Option Value} {T : mLs} {x : Int32} {st : List Value} : ev d 106 76 (o0 :: o1 :: o2 :: o3 :: o4 :: o5 :: some (.int x) :: T) st h = ev d 106 78 (o0 :: o1 :: o2 :: o3 :: o4 :: o5 :: some (.int x) :: T) (.int x :: st) h := ev_of d_106_76 rfl
theorem d_106_78 : decode (cd 106) 78 = .ok (.iaload, 1) := by rw [cd_106]; decide +kernel
theorem e_106_78 {d : Nat} {h : mM} {L : mLs} {st : List Value} {a : Nat} {i : Int32} : ev d 106 78 L (.int i :: .ref a :: st) h = if (mK h a = 11 ∨ mK h a = 19) ∧ ixOK i (mL h a) = true then ev d 106 79 L (.int (mI h a i.toNatClampNeg) :: st) h else none := ev_ia d_106_78
theorem d_106_79 : decode (cd 106) 79 = .ok (.aload_n 0, 1) := by rw [cd_106]; decide +kernel
theorem e_106_79 {d : Nat} {h : mM} {T : mLs} {x : Nat} {st : List Value} : ev d 106 79 ( some (.ref x) :: T) st h = ev d 106 80 ( some (.ref x) :: T) (.ref x :: st) h := ev_of d_106_79 rfl
theorem d_106_80 : decode (cd 106) 80 = .ok (.iload_n 3, 1) := by rw [cd_106]; decide +kernel
theorem e_106_80 {d : Nat} {h : mM} {o0 o1 o2 : Option Value} {T : mLs} {x : Int32} {st : List Value} : ev d 106 80 (o0 :: o1 :: o2 :: some (.int x) :: T) st h = ev d 106 81 (o0 :: o1 :: o2 :: some (.int x) :: T) (.int x :: st) h := ev_of d_106_80 rfl
theorem d_106_81 : decode (cd 106) 81 = .ok (.invokevirtual 171, 3) := by rw [cd_106]; decide +kernel
theorem e_106_81 {d : Nat} {h : mM} {L : mLs} {st : List Value} {a : Nat} {x0 : Int32} (hc : mCat st ≤ 8) : ev (d + 1) 106 81 L (.int x0 :: .ref a :: st) h = if mK h a = 10 then cV (ev d 104 0 [some (.ref a), some (.int x0), none, none] [] h) (fun v h1 => ev (d + 1) 106 84 L (v ++ st) h1) else none := ev_cv (mj := 104) (as := [.int x0]) (rest := st) d_106_81 (by decide +kernel) rfl rfl (by show _ ≤ List.length _; simp only [List.length_cons]; have : na 104 = 1 := rfl; omega) rfl (Nat.le_of_ble_eq_true rfl) hc
theorem d_106_84 : decode (cd 106) 84 = .ok (.imul, 1) := by rw [cd_106]; decide +kernel
theorem e_106_84 {d : Nat} {h : mM} {L : mLs} {st : List Value} {x y : Int32} : ev d 106 84 L (.int y :: .int x :: st) h = ev d 106 85 L (.int (x * y) :: st) h := ev_of d_106_84 rfl
theorem d_106_85 : decode (cd 106) 85 = .ok (.if_icmp .ge 4, 3) := by rw [cd_106]; decide +kernel
theorem e_106_85 {d : Nat} {h : mM} {L : mLs} {st : List Value} {x y : Int32} : ev d 106 85 L (.int y :: .int x :: st) h = if y ≤ x then ev d 106 89 L st h else ev d 106 88 L st h := ev_ic (y ≤ x) inferInstance rfl d_106_85 (by decide)
theorem d_106_88 : decode (cd 106) 88 = .ok (.return_, 1) := by rw [cd_106]; decide +kernel
theorem e_106_88 {d : Nat} {h : mM} {L : mLs} : ev d 106 88 L [] h = some (none, h) := ev_rv d_106_88 (by decide +kernel)
theorem d_106_89 : decode (cd 106) 89 = .ok (.aload_n 1, 1) := by rw [cd_106]; decide +kernel
theorem e_106_89 {d : Nat} {h : mM} {o0 : Option Value} {T : mLs} {x : Nat} {st : List Value} : ev d 106 89 (o0 :: some (.ref x) :: T) st h = ev d 106 90 (o0 :: some (.ref x) :: T) (.ref x :: st) h := ev_of d_106_89 rfl
theorem d_106_90 : decode (cd 106) 90 = .ok (.iload 6, 2) := by rw [cd_106]; decide +kernel
theorem e_106_90 {d : Nat} {h : mM} {o0 o1 o2 o3 o4 o5 : Option Value} {T : mLs} {x : Int32} {st : List Value} : ev d 106 90 (o0 :: o1 :: o2 :: o3 :: o4 :: o5 :: some (.int x) :: T) st h = ev d 106 92 (o0 :: o1 :: o2 :: o3 :: o4 :: o5 :: some (.int x) :: T) (.int x :: st) h := ev_of d_106_90 rfl
theorem d_106_92 : decode (cd 106) 92 = .ok (.dup2, 1) := by rw [cd_106]; decide +kernel
theorem e_106_92 {d : Nat} {h : mM} {L : mLs} {st : List Value} {a : Nat} {i : Int32} : ev d 106 92 L (.int i :: .ref a :: st) h = ev d 106 93 L (.int i :: .ref a :: .int i :: .ref a :: st) h := ev_of d_106_92 rfl
theorem d_106_93 : decode (cd 106) 93 = .ok (.iaload, 1) := by rw [cd_106]; decide +kernel
theorem e_106_93 {d : Nat} {h : mM} {L : mLs} {st : List Value} {a : Nat} {i : Int32} : ev d 106 93 L (.int i :: .ref a :: st) h = if (mK h a = 11 ∨ mK h a = 19) ∧ ixOK i (mL h a) = true then ev d 106 94 L (.int (mI h a i.toNatClampNeg) :: st) h else none := ev_ia d_106_93
theorem d_106_94 : decode (cd 106) 94 = .ok (.aload_n 0, 1) := by rw [cd_106]; decide +kernel
theorem e_106_94 {d : Nat} {h : mM} {T : mLs} {x : Nat} {st : List Value} : ev d 106 94 ( some (.ref x) :: T) st h = ev d 106 95 ( some (.ref x) :: T) (.ref x :: st) h := ev_of d_106_94 rfl
theorem d_106_95 : decode (cd 106) 95 = .ok (.getfield 62, 3) := by rw [cd_106]; decide +kernel
theorem e_106_95 {d : Nat} {h : mM} {L : mLs} {st : List Value} {a : Nat} : ev d 106 95 L (.ref a :: st) h = if mK h a = 10 then oB (mR h a 21) (fun b => ev d 106 98 L (.ref b :: st) h) else none := ev_gR d_106_95 (by decide +kernel) (by decide +kernel)
theorem d_106_98 : decode (cd 106) 98 = .ok (.iload 4, 2) := by rw [cd_106]; decide +kernel
theorem e_106_98 {d : Nat} {h : mM} {o0 o1 o2 o3 : Option Value} {T : mLs} {x : Int32} {st : List Value} : ev d 106 98 (o0 :: o1 :: o2 :: o3 :: some (.int x) :: T) st h = ev d 106 100 (o0 :: o1 :: o2 :: o3 :: some (.int x) :: T) (.int x :: st) h := ev_of d_106_98 rfl
theorem d_106_100 : decode (cd 106) 100 = .ok (.iaload, 1) := by rw [cd_106]; decide +kernel
theorem e_106_100 {d : Nat} {h : mM} {L : mLs} {st : List Value} {a : Nat} {i : Int32} : ev d 106 100 L (.int i :: .ref a :: st) h = if (mK h a = 11 ∨ mK h a = 19) ∧ ixOK i (mL h a) = true then ev d 106 101 L (.int (mI h a i.toNatClampNeg) :: st) h else none := ev_ia d_106_100
theorem d_106_101 : decode (cd 106) 101 = .ok (.isub, 1) := by rw [cd_106]; decide +kernel
theorem e_106_101 {d : Nat} {h : mM} {L : mLs} {st : List Value} {x y : Int32} : ev d 106 101 L (.int y :: .int x :: st) h = ev d 106 102 L (.int (x - y) :: st) h := ev_of d_106_101 rfl
theorem d_106_102 : decode (cd 106) 102 = .ok (.iastore, 1) := by rw [cd_106]; decide +kernel
theorem e_106_102 {d : Nat} {h : mM} {L : mLs} {st : List Value} {a : Nat} {i v : Int32} : ev d 106 102 L (.int v :: .int i :: .ref a :: st) h = if mK h a = 11 ∧ ixOK i (mL h a) = true then ev d 106 103 L st (wI h a i.toNatClampNeg v) else none := ev_is d_106_102
theorem d_106_103 : decode (cd 106) 103 = .ok (.aload_n 0, 1) := by rw [cd_106]; decide +kernel
theorem e_106_103 {d : Nat} {h : mM} {T : mLs} {x : Nat} {st : List Value} : ev d 106 103 ( some (.ref x) :: T) st h = ev d 106 104 ( some (.ref x) :: T) (.ref x :: st) h := ev_of d_106_103 rfl
theorem d_106_104 : decode (cd 106) 104 = .ok (.iconst 3, 1) := by rw [cd_106]; decide +kernel
theorem e_106_104 {d : Nat} {h : mM} {L : mLs} {st : List Value} : ev d 106 104 L st h = ev d 106 105 L (.int 3 :: st) h := ev_of d_106_104 rfl
theorem d_106_105 : decode (cd 106) 105 = .ok (.aload_n 0, 1) := by rw [cd_106]; decide +kernel
theorem e_106_105 {d : Nat} {h : mM} {T : mLs} {x : Nat} {st : List Value} : ev d 106 105 ( some (.ref x) :: T) st h = ev d 106 106 ( some (.ref x) :: T) (.ref x :: st) h := ev_of d_106_105 rfl
theorem d_106_106 : decode (cd 106) 106 = .ok (.getfield 62, 3) := by rw [cd_106]; decide +kernel
theorem e_106_106 {d : Nat} {h : mM} {L : mLs} {st : List Value} {a : Nat} : ev d 106 106 L (.ref a :: st) h = if mK h a = 10 then oB (mR h a 21) (fun b => ev d 106 109 L (.ref b :: st) h) else none := ev_gR d_106_106 (by decide +kernel) (by decide +kernel)
theorem d_106_109 : decode (cd 106) 109 = .ok (.iload 4, 2) := by rw [cd_106]; decide +kernel
theorem e_106_109 {d : Nat} {h : mM} {o0 o1 o2 o3 : Option Value} {T : mLs} {x : Int32} {st : List Value} : ev d 106 109 (o0 :: o1 :: o2 :: o3 :: some (.int x) :: T) st h = ev d 106 111 (o0 :: o1 :: o2 :: o3 :: some (.int x) :: T) (.int x :: st) h := ev_of d_106_109 rfl
theorem d_106_111 : decode (cd 106) 111 = .ok (.iaload, 1) := by rw [cd_106]; decide +kernel
theorem e_106_111 {d : Nat} {h : mM} {L : mLs} {st : List Value} {a : Nat} {i : Int32} : ev d 106 111 L (.int i :: .ref a :: st) h = if (mK h a = 11 ∨ mK h a = 19) ∧ ixOK i (mL h a) = true then ev d 106 112 L (.int (mI h a i.toNatClampNeg) :: st) h else none := ev_ia d_106_111
theorem d_106_112 : decode (cd 106) 112 = .ok (.invokevirtual 161, 3) := by rw [cd_106]; decide +kernel
theorem e_106_112 {d : Nat} {h : mM} {L : mLs} {st : List Value} {a : Nat} {x0 : Int32} {x1 : Int32} (hc : mCat st ≤ 8) : ev (d + 1) 106 112 L (.int x1 :: .int x0 :: .ref a :: st) h = if mK h a = 10 then cV (ev d 101 0 [some (.ref a), some (.int x0), some (.int x1)] [] h) (fun v h1 => ev (d + 1) 106 115 L (v ++ st) h1) else none := ev_cv (mj := 101) (as := [.int x0, .int x1]) (rest := st) d_106_112 (by decide +kernel) rfl rfl (by show _ ≤ List.length _; simp only [List.length_cons]; have : na 101 = 2 := rfl; omega) rfl (Nat.le_of_ble_eq_true rfl) hc
theorem d_106_115 : decode (cd 106) 115 = .ok (.aload_n 0, 1) := by rw [cd_106]; decide +kernel
theorem e_106_115 {d : Nat} {h : mM} {T : mLs} {x : Nat} {st : List Value} : ev d 106 115 ( some (.ref x) :: T) st h = ev d 106 116 ( some (.ref x) :: T) (.ref x :: st) h := ev_of d_106_115 rfl
theorem d_106_116 : decode (cd 106) 116 = .ok (.dup, 1) := by rw [cd_106]; decide +kernel
theorem e_106_116r {d : Nat} {h : mM} {L : mLs} {st : List Value} {a : Nat} : ev d 106 116 L (.ref a :: st) h = ev d 106 117 L (.ref a :: .ref a :: st) h := ev_of d_106_116 rfl
theorem e_106_116i {d : Nat} {h : mM} {L : mLs} {st : List Value} {x : Int32} : ev d 106 116 L (.int x :: st) h = ev d 106 117 L (.int x :: .int x :: st) h := ev_of d_106_116 rfl
theorem d_106_117 : decode (cd 106) 117 = .ok (.getfield 164, 3) := by rw [cd_106]; decide +kernel
theorem e_106_117 {d : Nat} {h : mM} {L : mLs} {st : List Value} {a : Nat} : ev d 106 117 L (.ref a :: st) h = if mK h a = 10 then ev d 106 120 L (.int (mI h a 34) :: st) h else none := ev_gI d_106_117 (by decide +kernel) (by decide +kernel)
theorem d_106_120 : decode (cd 106) 120 = .ok (.iconst 1, 1) := by rw [cd_106]; decide +kernel
theorem e_106_120 {d : Nat} {h : mM} {L : mLs} {st : List Value} : ev d 106 120 L st h = ev d 106 121 L (.int 1 :: st) h := ev_of d_106_120 rfl
theorem d_106_121 : decode (cd 106) 121 = .ok (.iload 4, 2) := by rw [cd_106]; decide +kernel
theorem e_106_121 {d : Nat} {h : mM} {o0 o1 o2 o3 : Option Value} {T : mLs} {x : Int32} {st : List Value} : ev d 106 121 (o0 :: o1 :: o2 :: o3 :: some (.int x) :: T) st h = ev d 106 123 (o0 :: o1 :: o2 :: o3 :: some (.int x) :: T) (.int x :: st) h := ev_of d_106_121 rfl
theorem d_106_123 : decode (cd 106) 123 = .ok (.ishl, 1) := by rw [cd_106]; decide +kernel
theorem e_106_123 {d : Nat} {h : mM} {L : mLs} {st : List Value} {x y : Int32} : ev d 106 123 L (.int y :: .int x :: st) h = ev d 106 124 L (.int (x <<< (y &&& 31)) :: st) h := ev_of d_106_123 rfl
theorem d_106_124 : decode (cd 106) 124 = .ok (.ior, 1) := by rw [cd_106]; decide +kernel
theorem e_106_124 {d : Nat} {h : mM} {L : mLs} {st : List Value} {x y : Int32} : ev d 106 124 L (.int y :: .int x :: st) h = ev d 106 125 L (.int (x ||| y) :: st) h := ev_of d_106_124 rfl
theorem d_106_125 : decode (cd 106) 125 = .ok (.putfield 164, 3) := by rw [cd_106]; decide +kernel
theorem e_106_125 {d : Nat} {h : mM} {L : mLs} {st : List Value} {a : Nat} {v : Int32} : ev d 106 125 L (.int v :: .ref a :: st) h = if mK h a = 10 then ev d 106 128 L st (wI h a 34 v) else none := ev_pI d_106_125 (by decide +kernel) (by decide +kernel) (by decide +kernel)
theorem d_106_128 : decode (cd 106) 128 = .ok (.iload 7, 2) := by rw [cd_106]; decide +kernel
theorem e_106_128 {d : Nat} {h : mM} {o0 o1 o2 o3 o4 o5 o6 : Option Value} {T : mLs} {x : Int32} {st : List Value} : ev d 106 128 (o0 :: o1 :: o2 :: o3 :: o4 :: o5 :: o6 :: some (.int x) :: T) st h = ev d 106 130 (o0 :: o1 :: o2 :: o3 :: o4 :: o5 :: o6 :: some (.int x) :: T) (.int x :: st) h := ev_of d_106_128 rfl
theorem d_106_130 : decode (cd 106) 130 = .ok (.aload_n 0, 1) := by rw [cd_106]; decide +kernel
theorem e_106_130 {d : Nat} {h : mM} {T : mLs} {x : Nat} {st : List Value} : ev d 106 130 ( some (.ref x) :: T) st h = ev d 106 131 ( some (.ref x) :: T) (.ref x :: st) h := ev_of d_106_130 rfl
theorem d_106_131 : decode (cd 106) 131 = .ok (.getfield 65, 3) := by rw [cd_106]; decide +kernel
theorem e_106_131 {d : Nat} {h : mM} {L : mLs} {st : List Value} {a : Nat} : ev d 106 131 L (.ref a :: st) h = if mK h a = 10 then oB (mR h a 22) (fun b => ev d 106 134 L (.ref b :: st) h) else none := ev_gR d_106_131 (by decide +kernel) (by decide +kernel)
theorem d_106_134 : decode (cd 106) 134 = .ok (.iload 4, 2) := by rw [cd_106]; decide +kernel
theorem e_106_134 {d : Nat} {h : mM} {o0 o1 o2 o3 : Option Value} {T : mLs} {x : Int32} {st : List Value} : ev d 106 134 (o0 :: o1 :: o2 :: o3 :: some (.int x) :: T) st h = ev d 106 136 (o0 :: o1 :: o2 :: o3 :: some (.int x) :: T) (.int x :: st) h := ev_of d_106_134 rfl
theorem d_106_136 : decode (cd 106) 136 = .ok (.iaload, 1) := by rw [cd_106]; decide +kernel
theorem e_106_136 {d : Nat} {h : mM} {L : mLs} {st : List Value} {a : Nat} {i : Int32} : ev d 106 136 L (.int i :: .ref a :: st) h = if (mK h a = 11 ∨ mK h a = 19) ∧ ixOK i (mL h a) = true then ev d 106 137 L (.int (mI h a i.toNatClampNeg) :: st) h else none := ev_ia d_106_136
theorem d_106_137 : decode (cd 106) 137 = .ok (.imul, 1) := by rw [cd_106]; decide +kernel
theorem e_106_137 {d : Nat} {h : mM} {L : mLs} {st : List Value} {x y : Int32} : ev d 106 137 L (.int y :: .int x :: st) h = ev d 106 138 L (.int (x * y) :: st) h := ev_of d_106_137 rfl
theorem d_106_138 : decode (cd 106) 138 = .ok (.aload_n 0, 1) := by rw [cd_106]; decide +kernel
theorem e_106_138 {d : Nat} {h : mM} {T : mLs} {x : Nat} {st : List Value} : ev d 106 138 ( some (.ref x) :: T) st h = ev d 106 139 ( some (.ref x) :: T) (.ref x :: st) h := ev_of d_106_138 rfl
theorem d_106_139 : decode (cd 106) 139 = .ok (.getfield 68, 3) := by rw [cd_106]; decide +kernel
theorem e_106_139 {d : Nat} {h : mM} {L : mLs} {st : List Value} {a : Nat} : ev d 106 139 L (.ref a :: st) h = if mK h a = 10 then oB (mR h a 23) (fun b => ev d 106 142 L (.ref b :: st) h) else none := ev_gR d_106_139 (by decide +kernel) (by decide +kernel)
theorem d_106_142 : decode (cd 106) 142 = .ok (.iload 4, 2) := by rw [cd_106]; decide +kernel
theorem e_106_142 {d : Nat} {h : mM} {o0 o1 o2 o3 : Option Value} {T : mLs} {x : Int32} {st : List Value} : ev d 106 142 (o0 :: o1 :: o2 :: o3 :: some (.int x) :: T) st h = ev d 106 144 (o0 :: o1 :: o2 :: o3 :: some (.int x) :: T) (.int x :: st) h := ev_of d_106_142 rfl
theorem d_106_144 : decode (cd 106) 144 = .ok (.iaload, 1) := by rw [cd_106]; decide +kernel
theorem e_106_144 {d : Nat} {h : mM} {L : mLs} {st : List Value} {a : Nat} {i : Int32} : ev d 106 144 L (.int i :: .ref a :: st) h = if (mK h a = 11 ∨ mK h a = 19) ∧ ixOK i (mL h a) = true then ev d 106 145 L (.int (mI h a i.toNatClampNeg) :: st) h else none := ev_ia d_106_144
theorem d_106_145 : decode (cd 106) 145 = .ok (.invokestatic 158, 3) := by rw [cd_106]; decide +kernel
theorem e_106_145 {d : Nat} {h : mM} {L : mLs} {st : List Value} {x y : Int32} (hc : mCat st ≤ 8) : ev d 106 145 L (.int y :: .int x :: st) h = ev d 106 148 L (.int (if y < x then y else x) :: st) h := ev_min (mj := 0) d_106_145 (by decide +kernel) hc
theorem d_106_148 : decode (cd 106) 148 = .ok (.istore 8, 2) := by rw [cd_106]; decide +kernel
theorem e_106_148 {d : Nat} {h : mM} {o0 o1 o2 o3 o4 o5 o6 o7 o8 : Option Value} {T : mLs} {x : Int32} {st : List Value} (hl : mLong o7 = false) : ev d 106 148 (o0 :: o1 :: o2 :: o3 :: o4 :: o5 :: o6 :: o7 :: o8 :: T) (.int x :: st) h = ev d 106 150 (o0 :: o1 :: o2 :: o3 :: o4 :: o5 :: o6 :: o7 :: some (.int x) :: T) st h := ev_st_i d_106_148 (by decide +kernel) (mS1_s (j := 7) hl)
theorem d_106_150 : decode (cd 106) 150 = .ok (.aload_n 0, 1) := by rw [cd_106]; decide +kernel
theorem e_106_150 {d : Nat} {h : mM} {T : mLs} {x : Nat} {st : List Value} : ev d 106 150 ( some (.ref x) :: T) st h = ev d 106 151 ( some (.ref x) :: T) (.ref x :: st) h := ev_of d_106_150 rfl
theorem d_106_151 : decode (cd 106) 151 = .ok (.getfield 96, 3) := by rw [cd_106]; decide +kernel
theorem e_106_151 {d : Nat} {h : mM} {L : mLs} {st : List Value} {a : Nat} : ev d 106 151 L (.ref a :: st) h = if mK h a = 10 then oB (mR h a 35) (fun b => ev d 106 154 L (.ref b :: st) h) else none := ev_gR d_106_151 (by decide +kernel) (by decide +kernel)
theorem d_106_154 : decode (cd 106) 154 = .ok (.iload_n 3, 1) := by rw [cd_106]; decide +kernel
theorem e_106_154 {d : Nat} {h : mM} {o0 o1 o2 : Option Value} {T : mLs} {x : Int32} {st : List Value} : ev d 106 154 (o0 :: o1 :: o2 :: some (.int x) :: T) st h = ev d 106 155 (o0 :: o1 :: o2 :: some (.int x) :: T) (.int x :: st) h := ev_of d_106_154 rfl
theorem d_106_155 : decode (cd 106) 155 = .ok (.dup2, 1) := by rw [cd_106]; decide +kernel
theorem e_106_155 {d : Nat} {h : mM} {L : mLs} {st : List Value} {a : Nat} {i : Int32} : ev d 106 155 L (.int i :: .ref a :: st) h = ev d 106 156 L (.int i :: .ref a :: .int i :: .ref a :: st) h := ev_of d_106_155 rfl
theorem d_106_156 : decode (cd 106) 156 = .ok (.laload, 1) := by rw [cd_106]; decide +kernel
theorem e_106_156 {d : Nat} {h : mM} {L : mLs} {st : List Value} {a : Nat} {i : Int32} : ev d 106 156 L (.int i :: .ref a :: st) h = if mK h a = 12 ∧ ixOK i (mL h a) = true then ev d 106 157 L (.long (mJ h a i.toNatClampNeg) :: st) h else none := ev_la d_106_156
theorem d_106_157 : decode (cd 106) 157 = .ok (.iload 8, 2) := by rw [cd_106]; decide +kernel
theorem e_106_157 {d : Nat} {h : mM} {o0 o1 o2 o3 o4 o5 o6 o7 : Option Value} {T : mLs} {x : Int32} {st : List Value} : ev d 106 157 (o0 :: o1 :: o2 :: o3 :: o4 :: o5 :: o6 :: o7 :: some (.int x) :: T) st h = ev d 106 159 (o0 :: o1 :: o2 :: o3 :: o4 :: o5 :: o6 :: o7 :: some (.int x) :: T) (.int x :: st) h := ev_of d_106_157 rfl
theorem d_106_159 : decode (cd 106) 159 = .ok (.i2l, 1) := by rw [cd_106]; decide +kernel
theorem e_106_159 {d : Nat} {h : mM} {L : mLs} {st : List Value} {x : Int32} : ev d 106 159 L (.int x :: st) h = ev d 106 160 L (.long x.toInt64 :: st) h := ev_of d_106_159 rfl
theorem d_106_160 : decode (cd 106) 160 = .ok (.ladd, 1) := by rw [cd_106]; decide +kernel
theorem e_106_160 {d : Nat} {h : mM} {L : mLs} {st : List Value} {x y : Int64} : ev d 106 160 L (.long y :: .long x :: st) h = ev d 106 161 L (.long (x + y) :: st) h := ev_of d_106_160 rfl
theorem d_106_161 : decode (cd 106) 161 = .ok (.lastore, 1) := by rw [cd_106]; decide +kernel
theorem e_106_161 {d : Nat} {h : mM} {L : mLs} {st : List Value} {a : Nat} {i : Int32} {v : Int64} : ev d 106 161 L (.long v :: .int i :: .ref a :: st) h = if mK h a = 12 ∧ ixOK i (mL h a) = true then ev d 106 162 L st (wJ h a i.toNatClampNeg v) else none := ev_ls d_106_161
theorem d_106_162 : decode (cd 106) 162 = .ok (.aload_n 0, 1) := by rw [cd_106]; decide +kernel
theorem e_106_162 {d : Nat} {h : mM} {T : mLs} {x : Nat} {st : List Value} : ev d 106 162 ( some (.ref x) :: T) st h = ev d 106 163 ( some (.ref x) :: T) (.ref x :: st) h := ev_of d_106_162 rfl
theorem d_106_163 : decode (cd 106) 163 = .ok (.getfield 154, 3) := by rw [cd_106]; decide +kernel
theorem e_106_163 {d : Nat} {h : mM} {L : mLs} {st : List Value} {a : Nat} : ev d 106 163 L (.ref a :: st) h = if mK h a = 10 then ev d 106 166 L (.int (mI h a 36) :: st) h else none := ev_gI d_106_163 (by decide +kernel) (by decide +kernel)
theorem d_106_166 : decode (cd 106) 166 = .ok (.ifCond .eq 10, 3) := by rw [cd_106]; decide +kernel
theorem e_106_166 {d : Nat} {h : mM} {L : mLs} {st : List Value} {x : Int32} : ev d 106 166 L (.int x :: st) h = if x = 0 then ev d 106 176 L st h else ev d 106 169 L st h := ev_if (x = 0) inferInstance rfl d_106_166 (by decide)
theorem d_106_169 : decode (cd 106) 169 = .ok (.aload_n 0, 1) := by rw [cd_106]; decide +kernel
theorem e_106_169 {d : Nat} {h : mM} {T : mLs} {x : Nat} {st : List Value} : ev d 106 169 ( some (.ref x) :: T) st h = ev d 106 170 ( some (.ref x) :: T) (.ref x :: st) h := ev_of d_106_169 rfl
theorem d_106_170 : decode (cd 106) 170 = .ok (.iload_n 3, 1) := by rw [cd_106]; decide +kernel
theorem e_106_170 {d : Nat} {h : mM} {o0 o1 o2 : Option Value} {T : mLs} {x : Int32} {st : List Value} : ev d 106 170 (o0 :: o1 :: o2 :: some (.int x) :: T) st h = ev d 106 171 (o0 :: o1 :: o2 :: some (.int x) :: T) (.int x :: st) h := ev_of d_106_170 rfl
theorem d_106_171 : decode (cd 106) 171 = .ok (.iload 8, 2) := by rw [cd_106]; decide +kernel
theorem e_106_171 {d : Nat} {h : mM} {o0 o1 o2 o3 o4 o5 o6 o7 : Option Value} {T : mLs} {x : Int32} {st : List Value} : ev d 106 171 (o0 :: o1 :: o2 :: o3 :: o4 :: o5 :: o6 :: o7 :: some (.int x) :: T) st h = ev d 106 173 (o0 :: o1 :: o2 :: o3 :: o4 :: o5 :: o6 :: o7 :: some (.int x) :: T) (.int x :: st) h := ev_of d_106_171 rfl
theorem d_106_173 : decode (cd 106) 173 = .ok (.invokevirtual 174, 3) := by rw [cd_106]; decide +kernel
theorem e_106_173 {d : Nat} {h : mM} {L : mLs} {st : List Value} {a : Nat} {x0 : Int32} {x1 : Int32} (hc : mCat st ≤ 8) : ev (d + 1) 106 173 L (.int x1 :: .int x0 :: .ref a :: st) h = if mK h a = 10 then cV (ev d 107 0 [some (.ref a), some (.int x0), some (.int x1), none, none, none, none] [] h) (fun v h1 => ev (d + 1) 106 176 L (v ++ st) h1) else none := ev_cv (mj := 107) (as := [.int x0, .int x1]) (rest := st) d_106_173 (by decide +kernel) rfl rfl (by show _ ≤ List.length _; simp only [List.length_cons]; have : na 107 = 2 := rfl; omega) rfl (Nat.le_of_ble_eq_true rfl) hc
theorem d_106_176 : decode (cd 106) 176 = .ok (.return_, 1) := by rw [cd_106]; decide +kernel
theorem e_106_176 {d : Nat} {h : mM} {L : mLs} : ev d 106 176 L [] h = some (none, h) := ev_rv d_106_176 (by decide +kernel)
-- 107: Model.gives
theorem cd_107 : cd 107 = prog_12_method_30_code := rfl
theorem d_107_0 : decode (cd 107) 0 = .ok (.bipush 6, 2) := by rw [cd_107]; decide +kernel
theorem e_107_0 {d : Nat} {h : mM} {L : mLs} {st : List Value} : ev d 107 0 L st h = ev d 107 2 L (.int 6 :: st) h := ev_of d_107_0 rfl
theorem d_107_2 : decode (cd 107) 2 = .ok (.iload_n 1, 1) := by rw [cd_107]; decide +kernel
theorem e_107_2 {d : Nat} {h : mM} {o0 : Option Value} {T : mLs} {x : Int32} {st : List Value} : ev d 107 2 (o0 :: some (.int x) :: T) st h = ev d 107 3 (o0 :: some (.int x) :: T) (.int x :: st) h := ev_of d_107_2 rfl
theorem d_107_3 : decode (cd 107) 3 = .ok (.imul, 1) := by rw [cd_107]; decide +kernel
theorem e_107_3 {d : Nat} {h : mM} {L : mLs} {st : List Value} {x y : Int32} : ev d 107 3 L (.int y :: .int x :: st) h = ev d 107 4 L (.int (x * y) :: st) h := ev_of d_107_3 rfl
theorem d_107_4 : decode (cd 107) 4 = .ok (.istore_n 3, 1) := by rw [cd_107]; decide +kernel
theorem e_107_4 {d : Nat} {h : mM} {o0 o1 o2 o3 : Option Value} {T : mLs} {x : Int32} {st : List Value} (hl : mLong o2 = false) : ev d 107 4 (o0 :: o1 :: o2 :: o3 :: T) (.int x :: st) h = ev d 107 5 (o0 :: o1 :: o2 :: some (.int x) :: T) st h := ev_st_in d_107_4 (by decide +kernel) (mS1_s (j := 2) hl)
theorem d_107_5 : decode (cd 107) 5 = .ok (.aload_n 0, 1) := by rw [cd_107]; decide +kernel
theorem e_107_5 {d : Nat} {h : mM} {T : mLs} {x : Nat} {st : List Value} : ev d 107 5 ( some (.ref x) :: T) st h = ev d 107 6 ( some (.ref x) :: T) (.ref x :: st) h := ev_of d_107_5 rfl
theorem d_107_6 : decode (cd 107) 6 = .ok (.getfield 41, 3) := by rw [cd_107]; decide +kernel
theorem e_107_6 {d : Nat} {h : mM} {L : mLs} {st : List Value} {a : Nat} : ev d 107 6 L (.ref a :: st) h = if mK h a = 10 then oB (mR h a 14) (fun b => ev d 107 9 L (.ref b :: st) h) else none := ev_gR d_107_6 (by decide +kernel) (by decide +kernel)
theorem d_107_9 : decode (cd 107) 9 = .ok (.iload_n 1, 1) := by rw [cd_107]; decide +kernel
theorem e_107_9 {d : Nat} {h : mM} {o0 : Option Value} {T : mLs} {x : Int32} {st : List Value} : ev d 107 9 (o0 :: some (.int x) :: T) st h = ev d 107 10 (o0 :: some (.int x) :: T) (.int x :: st) h := ev_of d_107_9 rfl
theorem d_107_10 : decode (cd 107) 10 = .ok (.iaload, 1) := by rw [cd_107]; decide +kernel
theorem e_107_10 {d : Nat} {h : mM} {L : mLs} {st : List Value} {a : Nat} {i : Int32} : ev d 107 10 L (.int i :: .ref a :: st) h = if (mK h a = 11 ∨ mK h a = 19) ∧ ixOK i (mL h a) = true then ev d 107 11 L (.int (mI h a i.toNatClampNeg) :: st) h else none := ev_ia d_107_10
theorem d_107_11 : decode (cd 107) 11 = .ok (.iconst 2, 1) := by rw [cd_107]; decide +kernel
theorem e_107_11 {d : Nat} {h : mM} {L : mLs} {st : List Value} : ev d 107 11 L st h = ev d 107 12 L (.int 2 :: st) h := ev_of d_107_11 rfl
theorem d_107_12 : decode (cd 107) 12 = .ok (.if_icmp .ne 16, 3) := by rw [cd_107]; decide +kernel
theorem e_107_12 {d : Nat} {h : mM} {L : mLs} {st : List Value} {x y : Int32} : ev d 107 12 L (.int y :: .int x :: st) h = if ¬ x = y then ev d 107 28 L st h else ev d 107 15 L st h := ev_ic (¬ x = y) inferInstance rfl d_107_12 (by decide)
theorem d_107_15 : decode (cd 107) 15 = .ok (.aload_n 0, 1) := by rw [cd_107]; decide +kernel
theorem e_107_15 {d : Nat} {h : mM} {T : mLs} {x : Nat} {st : List Value} : ev d 107 15 ( some (.ref x) :: T) st h = ev d 107 16 ( some (.ref x) :: T) (.ref x :: st) h := ev_of d_107_15 rfl
theorem d_107_16 : decode (cd 107) 16 = .ok (.getfield 77, 3) := by rw [cd_107]; decide +kernel
theorem e_107_16 {d : Nat} {h : mM} {L : mLs} {st : List Value} {a : Nat} : ev d 107 16 L (.ref a :: st) h = if mK h a = 10 then oB (mR h a 27) (fun b => ev d 107 19 L (.ref b :: st) h) else none := ev_gR d_107_16 (by decide +kernel) (by decide +kernel)
theorem d_107_19 : decode (cd 107) 19 = .ok (.iload_n 3, 1) := by rw [cd_107]; decide +kernel
theorem e_107_19 {d : Nat} {h : mM} {o0 o1 o2 : Option Value} {T : mLs} {x : Int32} {st : List Value} : ev d 107 19 (o0 :: o1 :: o2 :: some (.int x) :: T) st h = ev d 107 20 (o0 :: o1 :: o2 :: some (.int x) :: T) (.int x :: st) h := ev_of d_107_19 rfl
theorem d_107_20 : decode (cd 107) 20 = .ok (.iconst 5, 1) := by rw [cd_107]; decide +kernel
theorem e_107_20 {d : Nat} {h : mM} {L : mLs} {st : List Value} : ev d 107 20 L st h = ev d 107 21 L (.int 5 :: st) h := ev_of d_107_20 rfl
theorem d_107_21 : decode (cd 107) 21 = .ok (.iadd, 1) := by rw [cd_107]; decide +kernel
theorem e_107_21 {d : Nat} {h : mM} {L : mLs} {st : List Value} {x y : Int32} : ev d 107 21 L (.int y :: .int x :: st) h = ev d 107 22 L (.int (x + y) :: st) h := ev_of d_107_21 rfl
theorem d_107_22 : decode (cd 107) 22 = .ok (.dup2, 1) := by rw [cd_107]; decide +kernel
theorem e_107_22 {d : Nat} {h : mM} {L : mLs} {st : List Value} {a : Nat} {i : Int32} : ev d 107 22 L (.int i :: .ref a :: st) h = ev d 107 23 L (.int i :: .ref a :: .int i :: .ref a :: st) h := ev_of d_107_22 rfl
theorem d_107_23 : decode (cd 107) 23 = .ok (.laload, 1) := by rw [cd_107]; decide +kernel
theorem e_107_23 {d : Nat} {h : mM} {L : mLs} {st : List Value} {a : Nat} {i : Int32} : ev d 107 23 L (.int i :: .ref a :: st) h = if mK h a = 12 ∧ ixOK i (mL h a) = true then ev d 107 24 L (.long (mJ h a i.toNatClampNeg) :: st) h else none := ev_la d_107_23
theorem d_107_24 : decode (cd 107) 24 = .ok (.lconst 1, 1) := by rw [cd_107]; decide +kernel
theorem e_107_24 {d : Nat} {h : mM} {L : mLs} {st : List Value} : ev d 107 24 L st h = ev d 107 25 L (.long 1 :: st) h := ev_of d_107_24 rfl
theorem d_107_25 : decode (cd 107) 25 = .ok (.ladd, 1) := by rw [cd_107]; decide +kernel
theorem e_107_25 {d : Nat} {h : mM} {L : mLs} {st : List Value} {x y : Int64} : ev d 107 25 L (.long y :: .long x :: st) h = ev d 107 26 L (.long (x + y) :: st) h := ev_of d_107_25 rfl
theorem d_107_26 : decode (cd 107) 26 = .ok (.lastore, 1) := by rw [cd_107]; decide +kernel
theorem e_107_26 {d : Nat} {h : mM} {L : mLs} {st : List Value} {a : Nat} {i : Int32} {v : Int64} : ev d 107 26 L (.long v :: .int i :: .ref a :: st) h = if mK h a = 12 ∧ ixOK i (mL h a) = true then ev d 107 27 L st (wJ h a i.toNatClampNeg v) else none := ev_ls d_107_26
theorem d_107_27 : decode (cd 107) 27 = .ok (.return_, 1) := by rw [cd_107]; decide +kernel
theorem e_107_27 {d : Nat} {h : mM} {L : mLs} : ev d 107 27 L [] h = some (none, h) := ev_rv d_107_27 (by decide +kernel)
theorem d_107_28 : decode (cd 107) 28 = .ok (.aload_n 0, 1) := by rw [cd_107]; decide +kernel
theorem e_107_28 {d : Nat} {h : mM} {T : mLs} {x : Nat} {st : List Value} : ev d 107 28 ( some (.ref x) :: T) st h = ev d 107 29 ( some (.ref x) :: T) (.ref x :: st) h := ev_of d_107_28 rfl
theorem d_107_29 : decode (cd 107) 29 = .ok (.getfield 77, 3) := by rw [cd_107]; decide +kernel
theorem e_107_29 {d : Nat} {h : mM} {L : mLs} {st : List Value} {a : Nat} : ev d 107 29 L (.ref a :: st) h = if mK h a = 10 then oB (mR h a 27) (fun b => ev d 107 32 L (.ref b :: st) h) else none := ev_gR d_107_29 (by decide +kernel) (by decide +kernel)
theorem d_107_32 : decode (cd 107) 32 = .ok (.iload_n 3, 1) := by rw [cd_107]; decide +kernel
theorem e_107_32 {d : Nat} {h : mM} {o0 o1 o2 : Option Value} {T : mLs} {x : Int32} {st : List Value} : ev d 107 32 (o0 :: o1 :: o2 :: some (.int x) :: T) st h = ev d 107 33 (o0 :: o1 :: o2 :: some (.int x) :: T) (.int x :: st) h := ev_of d_107_32 rfl
theorem d_107_33 : decode (cd 107) 33 = .ok (.dup2, 1) := by rw [cd_107]; decide +kernel
theorem e_107_33 {d : Nat} {h : mM} {L : mLs} {st : List Value} {a : Nat} {i : Int32} : ev d 107 33 L (.int i :: .ref a :: st) h = ev d 107 34 L (.int i :: .ref a :: .int i :: .ref a :: st) h := ev_of d_107_33 rfl
theorem d_107_34 : decode (cd 107) 34 = .ok (.laload, 1) := by rw [cd_107]; decide +kernel
theorem e_107_34 {d : Nat} {h : mM} {L : mLs} {st : List Value} {a : Nat} {i : Int32} : ev d 107 34 L (.int i :: .ref a :: st) h = if mK h a = 12 ∧ ixOK i (mL h a) = true then ev d 107 35 L (.long (mJ h a i.toNatClampNeg) :: st) h else none := ev_la d_107_34
theorem d_107_35 : decode (cd 107) 35 = .ok (.iload_n 2, 1) := by rw [cd_107]; decide +kernel
theorem e_107_35 {d : Nat} {h : mM} {o0 o1 : Option Value} {T : mLs} {x : Int32} {st : List Value} : ev d 107 35 (o0 :: o1 :: some (.int x) :: T) st h = ev d 107 36 (o0 :: o1 :: some (.int x) :: T) (.int x :: st) h := ev_of d_107_35 rfl
theorem d_107_36 : decode (cd 107) 36 = .ok (.i2l, 1) := by rw [cd_107]; decide +kernel
theorem e_107_36 {d : Nat} {h : mM} {L : mLs} {st : List Value} {x : Int32} : ev d 107 36 L (.int x :: st) h = ev d 107 37 L (.long x.toInt64 :: st) h := ev_of d_107_36 rfl
theorem d_107_37 : decode (cd 107) 37 = .ok (.ladd, 1) := by rw [cd_107]; decide +kernel
theorem e_107_37 {d : Nat} {h : mM} {L : mLs} {st : List Value} {x y : Int64} : ev d 107 37 L (.long y :: .long x :: st) h = ev d 107 38 L (.long (x + y) :: st) h := ev_of d_107_37 rfl
theorem d_107_38 : decode (cd 107) 38 = .ok (.lastore, 1) := by rw [cd_107]; decide +kernel
theorem e_107_38 {d : Nat} {h : mM} {L : mLs} {st : List Value} {a : Nat} {i : Int32} {v : Int64} : ev d 107 38 L (.long v :: .int i :: .ref a :: st) h = if mK h a = 12 ∧ ixOK i (mL h a) = true then ev d 107 39 L st (wJ h a i.toNatClampNeg v) else none := ev_ls d_107_38
theorem d_107_39 : decode (cd 107) 39 = .ok (.iload_n 2, 1) := by rw [cd_107]; decide +kernel
theorem e_107_39 {d : Nat} {h : mM} {o0 o1 : Option Value} {T : mLs} {x : Int32} {st : List Value} : ev d 107 39 (o0 :: o1 :: some (.int x) :: T) st h = ev d 107 40 (o0 :: o1 :: some (.int x) :: T) (.int x :: st) h := ev_of d_107_39 rfl
theorem d_107_40 : decode (cd 107) 40 = .ok (.istore 4, 2) := by rw [cd_107]; decide +kernel
theorem e_107_40 {d : Nat} {h : mM} {o0 o1 o2 o3 o4 : Option Value} {T : mLs} {x : Int32} {st : List Value} (hl : mLong o3 = false) : ev d 107 40 (o0 :: o1 :: o2 :: o3 :: o4 :: T) (.int x :: st) h = ev d 107 42 (o0 :: o1 :: o2 :: o3 :: some (.int x) :: T) st h := ev_st_i d_107_40 (by decide +kernel) (mS1_s (j := 3) hl)
theorem d_107_42 : decode (cd 107) 42 = .ok (.iload 4, 2) := by rw [cd_107]; decide +kernel
theorem e_107_42 {d : Nat} {h : mM} {o0 o1 o2 o3 : Option Value} {T : mLs} {x : Int32} {st : List Value} : ev d 107 42 (o0 :: o1 :: o2 :: o3 :: some (.int x) :: T) st h = ev d 107 44 (o0 :: o1 :: o2 :: o3 :: some (.int x) :: T) (.int x :: st) h := ev_of d_107_42 rfl
theorem d_107_44 : decode (cd 107) 44 = .ok (.ifCond .le 77, 3) := by rw [cd_107]; decide +kernel
theorem e_107_44 {d : Nat} {h : mM} {L : mLs} {st : List Value} {x : Int32} : ev d 107 44 L (.int x :: st) h = if x ≤ 0 then ev d 107 121 L st h else ev d 107 47 L st h := ev_if (x ≤ 0) inferInstance rfl d_107_44 (by decide)
theorem d_107_47 : decode (cd 107) 47 = .ok (.aload_n 0, 1) := by rw [cd_107]; decide +kernel
theorem e_107_47 {d : Nat} {h : mM} {T : mLs} {x : Nat} {st : List Value} : ev d 107 47 ( some (.ref x) :: T) st h = ev d 107 48 ( some (.ref x) :: T) (.ref x :: st) h := ev_of d_107_47 rfl
theorem d_107_48 : decode (cd 107) 48 = .ok (.getfield 71, 3) := by rw [cd_107]; decide +kernel
theorem e_107_48 {d : Nat} {h : mM} {L : mLs} {st : List Value} {a : Nat} : ev d 107 48 L (.ref a :: st) h = if mK h a = 10 then oB (mR h a 25) (fun b => ev d 107 51 L (.ref b :: st) h) else none := ev_gR d_107_48 (by decide +kernel) (by decide +kernel)
theorem d_107_51 : decode (cd 107) 51 = .ok (.iload_n 1, 1) := by rw [cd_107]; decide +kernel
theorem e_107_51 {d : Nat} {h : mM} {o0 : Option Value} {T : mLs} {x : Int32} {st : List Value} : ev d 107 51 (o0 :: some (.int x) :: T) st h = ev d 107 52 (o0 :: some (.int x) :: T) (.int x :: st) h := ev_of d_107_51 rfl
theorem d_107_52 : decode (cd 107) 52 = .ok (.iaload, 1) := by rw [cd_107]; decide +kernel
theorem e_107_52 {d : Nat} {h : mM} {L : mLs} {st : List Value} {a : Nat} {i : Int32} : ev d 107 52 L (.int i :: .ref a :: st) h = if (mK h a = 11 ∨ mK h a = 19) ∧ ixOK i (mL h a) = true then ev d 107 53 L (.int (mI h a i.toNatClampNeg) :: st) h else none := ev_ia d_107_52
theorem d_107_53 : decode (cd 107) 53 = .ok (.ifCond .le 68, 3) := by rw [cd_107]; decide +kernel
theorem e_107_53 {d : Nat} {h : mM} {L : mLs} {st : List Value} {x : Int32} : ev d 107 53 L (.int x :: st) h = if x ≤ 0 then ev d 107 121 L st h else ev d 107 56 L st h := ev_if (x ≤ 0) inferInstance rfl d_107_53 (by decide)
theorem d_107_56 : decode (cd 107) 56 = .ok (.bipush 48, 2) := by rw [cd_107]; decide +kernel
theorem e_107_56 {d : Nat} {h : mM} {L : mLs} {st : List Value} : ev d 107 56 L st h = ev d 107 58 L (.int 48 :: st) h := ev_of d_107_56 rfl
theorem d_107_58 : decode (cd 107) 58 = .ok (.iload_n 1, 1) := by rw [cd_107]; decide +kernel
theorem e_107_58 {d : Nat} {h : mM} {o0 : Option Value} {T : mLs} {x : Int32} {st : List Value} : ev d 107 58 (o0 :: some (.int x) :: T) st h = ev d 107 59 (o0 :: some (.int x) :: T) (.int x :: st) h := ev_of d_107_58 rfl
theorem d_107_59 : decode (cd 107) 59 = .ok (.imul, 1) := by rw [cd_107]; decide +kernel
theorem e_107_59 {d : Nat} {h : mM} {L : mLs} {st : List Value} {x y : Int32} : ev d 107 59 L (.int y :: .int x :: st) h = ev d 107 60 L (.int (x * y) :: st) h := ev_of d_107_59 rfl
theorem d_107_60 : decode (cd 107) 60 = .ok (.istore 5, 2) := by rw [cd_107]; decide +kernel
theorem e_107_60 {d : Nat} {h : mM} {o0 o1 o2 o3 o4 o5 : Option Value} {T : mLs} {x : Int32} {st : List Value} (hl : mLong o4 = false) : ev d 107 60 (o0 :: o1 :: o2 :: o3 :: o4 :: o5 :: T) (.int x :: st) h = ev d 107 62 (o0 :: o1 :: o2 :: o3 :: o4 :: some (.int x) :: T) st h := ev_st_i d_107_60 (by decide +kernel) (mS1_s (j := 4) hl)
theorem d_107_62 : decode (cd 107) 62 = .ok (.iload 4, 2) := by rw [cd_107]; decide +kernel
theorem e_107_62 {d : Nat} {h : mM} {o0 o1 o2 o3 : Option Value} {T : mLs} {x : Int32} {st : List Value} : ev d 107 62 (o0 :: o1 :: o2 :: o3 :: some (.int x) :: T) st h = ev d 107 64 (o0 :: o1 :: o2 :: o3 :: some (.int x) :: T) (.int x :: st) h := ev_of d_107_62 rfl
theorem d_107_64 : decode (cd 107) 64 = .ok (.aload_n 0, 1) := by rw [cd_107]; decide +kernel
theorem e_107_64 {d : Nat} {h : mM} {T : mLs} {x : Nat} {st : List Value} : ev d 107 64 ( some (.ref x) :: T) st h = ev d 107 65 ( some (.ref x) :: T) (.ref x :: st) h := ev_of d_107_64 rfl
theorem d_107_65 : decode (cd 107) 65 = .ok (.getfield 74, 3) := by rw [cd_107]; decide +kernel
theorem e_107_65 {d : Nat} {h : mM} {L : mLs} {st : List Value} {a : Nat} : ev d 107 65 L (.ref a :: st) h = if mK h a = 10 then oB (mR h a 26) (fun b => ev d 107 68 L (.ref b :: st) h) else none := ev_gR d_107_65 (by decide +kernel) (by decide +kernel)
theorem d_107_68 : decode (cd 107) 68 = .ok (.iload 5, 2) := by rw [cd_107]; decide +kernel
theorem e_107_68 {d : Nat} {h : mM} {o0 o1 o2 o3 o4 : Option Value} {T : mLs} {x : Int32} {st : List Value} : ev d 107 68 (o0 :: o1 :: o2 :: o3 :: o4 :: some (.int x) :: T) st h = ev d 107 70 (o0 :: o1 :: o2 :: o3 :: o4 :: some (.int x) :: T) (.int x :: st) h := ev_of d_107_68 rfl
theorem d_107_70 : decode (cd 107) 70 = .ok (.iconst 2, 1) := by rw [cd_107]; decide +kernel
theorem e_107_70 {d : Nat} {h : mM} {L : mLs} {st : List Value} : ev d 107 70 L st h = ev d 107 71 L (.int 2 :: st) h := ev_of d_107_70 rfl
theorem d_107_71 : decode (cd 107) 71 = .ok (.iadd, 1) := by rw [cd_107]; decide +kernel
theorem e_107_71 {d : Nat} {h : mM} {L : mLs} {st : List Value} {x y : Int32} : ev d 107 71 L (.int y :: .int x :: st) h = ev d 107 72 L (.int (x + y) :: st) h := ev_of d_107_71 rfl
theorem d_107_72 : decode (cd 107) 72 = .ok (.iaload, 1) := by rw [cd_107]; decide +kernel
theorem e_107_72 {d : Nat} {h : mM} {L : mLs} {st : List Value} {a : Nat} {i : Int32} : ev d 107 72 L (.int i :: .ref a :: st) h = if (mK h a = 11 ∨ mK h a = 19) ∧ ixOK i (mL h a) = true then ev d 107 73 L (.int (mI h a i.toNatClampNeg) :: st) h else none := ev_ia d_107_72
theorem d_107_73 : decode (cd 107) 73 = .ok (.invokestatic 158, 3) := by rw [cd_107]; decide +kernel
theorem e_107_73 {d : Nat} {h : mM} {L : mLs} {st : List Value} {x y : Int32} (hc : mCat st ≤ 8) : ev d 107 73 L (.int y :: .int x :: st) h = ev d 107 76 L (.int (if y < x then y else x) :: st) h := ev_min (mj := 0) d_107_73 (by decide +kernel) hc
theorem d_107_76 : decode (cd 107) 76 = .ok (.istore 6, 2) := by rw [cd_107]; decide +kernel
theorem e_107_76 {d : Nat} {h : mM} {o0 o1 o2 o3 o4 o5 o6 : Option Value} {T : mLs} {x : Int32} {st : List Value} (hl : mLong o5 = false) : ev d 107 76 (o0 :: o1 :: o2 :: o3 :: o4 :: o5 :: o6 :: T) (.int x :: st) h = ev d 107 78 (o0 :: o1 :: o2 :: o3 :: o4 :: o5 :: some (.int x) :: T) st h := ev_st_i d_107_76 (by decide +kernel) (mS1_s (j := 5) hl)
theorem d_107_78 : decode (cd 107) 78 = .ok (.aload_n 0, 1) := by rw [cd_107]; decide +kernel
theorem e_107_78 {d : Nat} {h : mM} {T : mLs} {x : Nat} {st : List Value} : ev d 107 78 ( some (.ref x) :: T) st h = ev d 107 79 ( some (.ref x) :: T) (.ref x :: st) h := ev_of d_107_78 rfl
theorem d_107_79 : decode (cd 107) 79 = .ok (.getfield 74, 3) := by rw [cd_107]; decide +kernel
theorem e_107_79 {d : Nat} {h : mM} {L : mLs} {st : List Value} {a : Nat} : ev d 107 79 L (.ref a :: st) h = if mK h a = 10 then oB (mR h a 26) (fun b => ev d 107 82 L (.ref b :: st) h) else none := ev_gR d_107_79 (by decide +kernel) (by decide +kernel)
theorem d_107_82 : decode (cd 107) 82 = .ok (.iload 5, 2) := by rw [cd_107]; decide +kernel
theorem e_107_82 {d : Nat} {h : mM} {o0 o1 o2 o3 o4 : Option Value} {T : mLs} {x : Int32} {st : List Value} : ev d 107 82 (o0 :: o1 :: o2 :: o3 :: o4 :: some (.int x) :: T) st h = ev d 107 84 (o0 :: o1 :: o2 :: o3 :: o4 :: some (.int x) :: T) (.int x :: st) h := ev_of d_107_82 rfl
theorem d_107_84 : decode (cd 107) 84 = .ok (.iconst 2, 1) := by rw [cd_107]; decide +kernel
theorem e_107_84 {d : Nat} {h : mM} {L : mLs} {st : List Value} : ev d 107 84 L st h = ev d 107 85 L (.int 2 :: st) h := ev_of d_107_84 rfl
theorem d_107_85 : decode (cd 107) 85 = .ok (.iadd, 1) := by rw [cd_107]; decide +kernel
theorem e_107_85 {d : Nat} {h : mM} {L : mLs} {st : List Value} {x y : Int32} : ev d 107 85 L (.int y :: .int x :: st) h = ev d 107 86 L (.int (x + y) :: st) h := ev_of d_107_85 rfl
theorem d_107_86 : decode (cd 107) 86 = .ok (.dup2, 1) := by rw [cd_107]; decide +kernel
theorem e_107_86 {d : Nat} {h : mM} {L : mLs} {st : List Value} {a : Nat} {i : Int32} : ev d 107 86 L (.int i :: .ref a :: st) h = ev d 107 87 L (.int i :: .ref a :: .int i :: .ref a :: st) h := ev_of d_107_86 rfl
theorem d_107_87 : decode (cd 107) 87 = .ok (.iaload, 1) := by rw [cd_107]; decide +kernel
theorem e_107_87 {d : Nat} {h : mM} {L : mLs} {st : List Value} {a : Nat} {i : Int32} : ev d 107 87 L (.int i :: .ref a :: st) h = if (mK h a = 11 ∨ mK h a = 19) ∧ ixOK i (mL h a) = true then ev d 107 88 L (.int (mI h a i.toNatClampNeg) :: st) h else none := ev_ia d_107_87
theorem d_107_88 : decode (cd 107) 88 = .ok (.iload 6, 2) := by rw [cd_107]; decide +kernel
theorem e_107_88 {d : Nat} {h : mM} {o0 o1 o2 o3 o4 o5 : Option Value} {T : mLs} {x : Int32} {st : List Value} : ev d 107 88 (o0 :: o1 :: o2 :: o3 :: o4 :: o5 :: some (.int x) :: T) st h = ev d 107 90 (o0 :: o1 :: o2 :: o3 :: o4 :: o5 :: some (.int x) :: T) (.int x :: st) h := ev_of d_107_88 rfl
theorem d_107_90 : decode (cd 107) 90 = .ok (.isub, 1) := by rw [cd_107]; decide +kernel
theorem e_107_90 {d : Nat} {h : mM} {L : mLs} {st : List Value} {x y : Int32} : ev d 107 90 L (.int y :: .int x :: st) h = ev d 107 91 L (.int (x - y) :: st) h := ev_of d_107_90 rfl
theorem d_107_91 : decode (cd 107) 91 = .ok (.iastore, 1) := by rw [cd_107]; decide +kernel
theorem e_107_91 {d : Nat} {h : mM} {L : mLs} {st : List Value} {a : Nat} {i v : Int32} : ev d 107 91 L (.int v :: .int i :: .ref a :: st) h = if mK h a = 11 ∧ ixOK i (mL h a) = true then ev d 107 92 L st (wI h a i.toNatClampNeg v) else none := ev_is d_107_91
theorem d_107_92 : decode (cd 107) 92 = .ok (.iload 4, 2) := by rw [cd_107]; decide +kernel
theorem e_107_92 {d : Nat} {h : mM} {o0 o1 o2 o3 : Option Value} {T : mLs} {x : Int32} {st : List Value} : ev d 107 92 (o0 :: o1 :: o2 :: o3 :: some (.int x) :: T) st h = ev d 107 94 (o0 :: o1 :: o2 :: o3 :: some (.int x) :: T) (.int x :: st) h := ev_of d_107_92 rfl
theorem d_107_94 : decode (cd 107) 94 = .ok (.iload 6, 2) := by rw [cd_107]; decide +kernel
theorem e_107_94 {d : Nat} {h : mM} {o0 o1 o2 o3 o4 o5 : Option Value} {T : mLs} {x : Int32} {st : List Value} : ev d 107 94 (o0 :: o1 :: o2 :: o3 :: o4 :: o5 :: some (.int x) :: T) st h = ev d 107 96 (o0 :: o1 :: o2 :: o3 :: o4 :: o5 :: some (.int x) :: T) (.int x :: st) h := ev_of d_107_94 rfl
theorem d_107_96 : decode (cd 107) 96 = .ok (.isub, 1) := by rw [cd_107]; decide +kernel
theorem e_107_96 {d : Nat} {h : mM} {L : mLs} {st : List Value} {x y : Int32} : ev d 107 96 L (.int y :: .int x :: st) h = ev d 107 97 L (.int (x - y) :: st) h := ev_of d_107_96 rfl
theorem d_107_97 : decode (cd 107) 97 = .ok (.istore 4, 2) := by rw [cd_107]; decide +kernel
theorem e_107_97 {d : Nat} {h : mM} {o0 o1 o2 o3 o4 : Option Value} {T : mLs} {x : Int32} {st : List Value} (hl : mLong o3 = false) : ev d 107 97 (o0 :: o1 :: o2 :: o3 :: o4 :: T) (.int x :: st) h = ev d 107 99 (o0 :: o1 :: o2 :: o3 :: some (.int x) :: T) st h := ev_st_i d_107_97 (by decide +kernel) (mS1_s (j := 3) hl)
theorem d_107_99 : decode (cd 107) 99 = .ok (.aload_n 0, 1) := by rw [cd_107]; decide +kernel
theorem e_107_99 {d : Nat} {h : mM} {T : mLs} {x : Nat} {st : List Value} : ev d 107 99 ( some (.ref x) :: T) st h = ev d 107 100 ( some (.ref x) :: T) (.ref x :: st) h := ev_of d_107_99 rfl
theorem d_107_100 : decode (cd 107) 100 = .ok (.getfield 74, 3) := by rw [cd_107]; decide +kernel
theorem e_107_100 {d : Nat} {h : mM} {L : mLs} {st : List Value} {a : Nat} : ev d 107 100 L (.ref a :: st) h = if mK h a = 10 then oB (mR h a 26) (fun b => ev d 107 103 L (.ref b :: st) h) else none := ev_gR d_107_100 (by decide +kernel) (by decide +kernel)
theorem d_107_103 : decode (cd 107) 103 = .ok (.iload 5, 2) := by rw [cd_107]; decide +kernel
theorem e_107_103 {d : Nat} {h : mM} {o0 o1 o2 o3 o4 : Option Value} {T : mLs} {x : Int32} {st : List Value} : ev d 107 103 (o0 :: o1 :: o2 :: o3 :: o4 :: some (.int x) :: T) st h = ev d 107 105 (o0 :: o1 :: o2 :: o3 :: o4 :: some (.int x) :: T) (.int x :: st) h := ev_of d_107_103 rfl
theorem d_107_105 : decode (cd 107) 105 = .ok (.iconst 2, 1) := by rw [cd_107]; decide +kernel
theorem e_107_105 {d : Nat} {h : mM} {L : mLs} {st : List Value} : ev d 107 105 L st h = ev d 107 106 L (.int 2 :: st) h := ev_of d_107_105 rfl
theorem d_107_106 : decode (cd 107) 106 = .ok (.iadd, 1) := by rw [cd_107]; decide +kernel
theorem e_107_106 {d : Nat} {h : mM} {L : mLs} {st : List Value} {x y : Int32} : ev d 107 106 L (.int y :: .int x :: st) h = ev d 107 107 L (.int (x + y) :: st) h := ev_of d_107_106 rfl
theorem d_107_107 : decode (cd 107) 107 = .ok (.iaload, 1) := by rw [cd_107]; decide +kernel
theorem e_107_107 {d : Nat} {h : mM} {L : mLs} {st : List Value} {a : Nat} {i : Int32} : ev d 107 107 L (.int i :: .ref a :: st) h = if (mK h a = 11 ∨ mK h a = 19) ∧ ixOK i (mL h a) = true then ev d 107 108 L (.int (mI h a i.toNatClampNeg) :: st) h else none := ev_ia d_107_107
theorem d_107_108 : decode (cd 107) 108 = .ok (.ifCond .ne 10, 3) := by rw [cd_107]; decide +kernel
theorem e_107_108 {d : Nat} {h : mM} {L : mLs} {st : List Value} {x : Int32} : ev d 107 108 L (.int x :: st) h = if ¬ x = 0 then ev d 107 118 L st h else ev d 107 111 L st h := ev_if (¬ x = 0) inferInstance rfl d_107_108 (by decide)
theorem d_107_111 : decode (cd 107) 111 = .ok (.aload_n 0, 1) := by rw [cd_107]; decide +kernel
theorem e_107_111 {d : Nat} {h : mM} {T : mLs} {x : Nat} {st : List Value} : ev d 107 111 ( some (.ref x) :: T) st h = ev d 107 112 ( some (.ref x) :: T) (.ref x :: st) h := ev_of d_107_111 rfl
theorem d_107_112 : decode (cd 107) 112 = .ok (.iload_n 1, 1) := by rw [cd_107]; decide +kernel
theorem e_107_112 {d : Nat} {h : mM} {o0 : Option Value} {T : mLs} {x : Int32} {st : List Value} : ev d 107 112 (o0 :: some (.int x) :: T) st h = ev d 107 113 (o0 :: some (.int x) :: T) (.int x :: st) h := ev_of d_107_112 rfl
theorem d_107_113 : decode (cd 107) 113 = .ok (.iload 5, 2) := by rw [cd_107]; decide +kernel
theorem e_107_113 {d : Nat} {h : mM} {o0 o1 o2 o3 o4 : Option Value} {T : mLs} {x : Int32} {st : List Value} : ev d 107 113 (o0 :: o1 :: o2 :: o3 :: o4 :: some (.int x) :: T) st h = ev d 107 115 (o0 :: o1 :: o2 :: o3 :: o4 :: some (.int x) :: T) (.int x :: st) h := ev_of d_107_113 rfl
theorem d_107_115 : decode (cd 107) 115 = .ok (.invokevirtual 177, 3) := by rw [cd_107]; decide +kernel
theorem e_107_115 {d : Nat} {h : mM} {L : mLs} {st : List Value} {a : Nat} {x0 : Int32} {x1 : Int32} (hc : mCat st ≤ 8) : ev (d + 1) 107 115 L (.int x1 :: .int x0 :: .ref a :: st) h = if mK h a = 10 then cV (ev d 108 0 [some (.ref a), some (.int x0), some (.int x1), none, none] [] h) (fun v h1 => ev (d + 1) 107 118 L (v ++ st) h1) else none := ev_cv (mj := 108) (as := [.int x0, .int x1]) (rest := st) d_107_115 (by decide +kernel) rfl rfl (by show _ ≤ List.length _; simp only [List.length_cons]; have : na 108 = 2 := rfl; omega) rfl (Nat.le_of_ble_eq_true rfl) hc
theorem d_107_118 : decode (cd 107) 118 = .ok (.goto (-76), 3) := by rw [cd_107]; decide +kernel
theorem e_107_118 {d : Nat} {h : mM} {L : mLs} {st : List Value} : ev d 107 118 L st h = ev d 107 42 L st h := ev_go d_107_118 (by decide)
theorem d_107_121 : decode (cd 107) 121 = .ok (.aload_n 0, 1) := by rw [cd_107]; decide +kernel
theorem e_107_121 {d : Nat} {h : mM} {T : mLs} {x : Nat} {st : List Value} : ev d 107 121 ( some (.ref x) :: T) st h = ev d 107 122 ( some (.ref x) :: T) (.ref x :: st) h := ev_of d_107_121 rfl
theorem d_107_122 : decode (cd 107) 122 = .ok (.getfield 77, 3) := by rw [cd_107]; decide +kernel
theorem e_107_122 {d : Nat} {h : mM} {L : mLs} {st : List Value} {a : Nat} : ev d 107 122 L (.ref a :: st) h = if mK h a = 10 then oB (mR h a 27) (fun b => ev d 107 125 L (.ref b :: st) h) else none := ev_gR d_107_122 (by decide +kernel) (by decide +kernel)
theorem d_107_125 : decode (cd 107) 125 = .ok (.iload_n 3, 1) := by rw [cd_107]; decide +kernel
theorem e_107_125 {d : Nat} {h : mM} {o0 o1 o2 : Option Value} {T : mLs} {x : Int32} {st : List Value} : ev d 107 125 (o0 :: o1 :: o2 :: some (.int x) :: T) st h = ev d 107 126 (o0 :: o1 :: o2 :: some (.int x) :: T) (.int x :: st) h := ev_of d_107_125 rfl
theorem d_107_126 : decode (cd 107) 126 = .ok (.iconst 4, 1) := by rw [cd_107]; decide +kernel
theorem e_107_126 {d : Nat} {h : mM} {L : mLs} {st : List Value} : ev d 107 126 L st h = ev d 107 127 L (.int 4 :: st) h := ev_of d_107_126 rfl
theorem d_107_127 : decode (cd 107) 127 = .ok (.iadd, 1) := by rw [cd_107]; decide +kernel
theorem e_107_127 {d : Nat} {h : mM} {L : mLs} {st : List Value} {x y : Int32} : ev d 107 127 L (.int y :: .int x :: st) h = ev d 107 128 L (.int (x + y) :: st) h := ev_of d_107_127 rfl
theorem d_107_128 : decode (cd 107) 128 = .ok (.dup2, 1) := by rw [cd_107]; decide +kernel
theorem e_107_128 {d : Nat} {h : mM} {L : mLs} {st : List Value} {a : Nat} {i : Int32} : ev d 107 128 L (.int i :: .ref a :: st) h = ev d 107 129 L (.int i :: .ref a :: .int i :: .ref a :: st) h := ev_of d_107_128 rfl
theorem d_107_129 : decode (cd 107) 129 = .ok (.laload, 1) := by rw [cd_107]; decide +kernel
theorem e_107_129 {d : Nat} {h : mM} {L : mLs} {st : List Value} {a : Nat} {i : Int32} : ev d 107 129 L (.int i :: .ref a :: st) h = if mK h a = 12 ∧ ixOK i (mL h a) = true then ev d 107 130 L (.long (mJ h a i.toNatClampNeg) :: st) h else none := ev_la d_107_129
theorem d_107_130 : decode (cd 107) 130 = .ok (.iload 4, 2) := by rw [cd_107]; decide +kernel
theorem e_107_130 {d : Nat} {h : mM} {o0 o1 o2 o3 : Option Value} {T : mLs} {x : Int32} {st : List Value} : ev d 107 130 (o0 :: o1 :: o2 :: o3 :: some (.int x) :: T) st h = ev d 107 132 (o0 :: o1 :: o2 :: o3 :: some (.int x) :: T) (.int x :: st) h := ev_of d_107_130 rfl
theorem d_107_132 : decode (cd 107) 132 = .ok (.i2l, 1) := by rw [cd_107]; decide +kernel
theorem e_107_132 {d : Nat} {h : mM} {L : mLs} {st : List Value} {x : Int32} : ev d 107 132 L (.int x :: st) h = ev d 107 133 L (.long x.toInt64 :: st) h := ev_of d_107_132 rfl
theorem d_107_133 : decode (cd 107) 133 = .ok (.ladd, 1) := by rw [cd_107]; decide +kernel
theorem e_107_133 {d : Nat} {h : mM} {L : mLs} {st : List Value} {x y : Int64} : ev d 107 133 L (.long y :: .long x :: st) h = ev d 107 134 L (.long (x + y) :: st) h := ev_of d_107_133 rfl
theorem d_107_134 : decode (cd 107) 134 = .ok (.lastore, 1) := by rw [cd_107]; decide +kernel
theorem e_107_134 {d : Nat} {h : mM} {L : mLs} {st : List Value} {a : Nat} {i : Int32} {v : Int64} : ev d 107 134 L (.long v :: .int i :: .ref a :: st) h = if mK h a = 12 ∧ ixOK i (mL h a) = true then ev d 107 135 L st (wJ h a i.toNatClampNeg v) else none := ev_ls d_107_134
theorem d_107_135 : decode (cd 107) 135 = .ok (.return_, 1) := by rw [cd_107]; decide +kernel
theorem e_107_135 {d : Nat} {h : mM} {L : mLs} : ev d 107 135 L [] h = some (none, h) := ev_rv d_107_135 (by decide +kernel)
-- 108: Model.done
theorem cd_108 : cd 108 = prog_12_method_31_code := rfl
theorem d_108_0 : decode (cd 108) 0 = .ok (.aload_n 0, 1) := by rw [cd_108]; decide +kernel
theorem e_108_0 {d : Nat} {h : mM} {T : mLs} {x : Nat} {st : List Value} : ev d 108 0 ( some (.ref x) :: T) st h = ev d 108 1 ( some (.ref x) :: T) (.ref x :: st) h := ev_of d_108_0 rfl
theorem d_108_1 : decode (cd 108) 1 = .ok (.getfield 41, 3) := by rw [cd_108]; decide +kernel
theorem e_108_1 {d : Nat} {h : mM} {L : mLs} {st : List Value} {a : Nat} : ev d 108 1 L (.ref a :: st) h = if mK h a = 10 then oB (mR h a 14) (fun b => ev d 108 4 L (.ref b :: st) h) else none := ev_gR d_108_1 (by decide +kernel) (by decide +kernel)
theorem d_108_4 : decode (cd 108) 4 = .ok (.iload_n 1, 1) := by rw [cd_108]; decide +kernel
theorem e_108_4 {d : Nat} {h : mM} {o0 : Option Value} {T : mLs} {x : Int32} {st : List Value} : ev d 108 4 (o0 :: some (.int x) :: T) st h = ev d 108 5 (o0 :: some (.int x) :: T) (.int x :: st) h := ev_of d_108_4 rfl
theorem d_108_5 : decode (cd 108) 5 = .ok (.iaload, 1) := by rw [cd_108]; decide +kernel
theorem e_108_5 {d : Nat} {h : mM} {L : mLs} {st : List Value} {a : Nat} {i : Int32} : ev d 108 5 L (.int i :: .ref a :: st) h = if (mK h a = 11 ∨ mK h a = 19) ∧ ixOK i (mL h a) = true then ev d 108 6 L (.int (mI h a i.toNatClampNeg) :: st) h else none := ev_ia d_108_5
theorem d_108_6 : decode (cd 108) 6 = .ok (.iconst 1, 1) := by rw [cd_108]; decide +kernel
theorem e_108_6 {d : Nat} {h : mM} {L : mLs} {st : List Value} : ev d 108 6 L st h = ev d 108 7 L (.int 1 :: st) h := ev_of d_108_6 rfl
theorem d_108_7 : decode (cd 108) 7 = .ok (.if_icmp .ne 7, 3) := by rw [cd_108]; decide +kernel
theorem e_108_7 {d : Nat} {h : mM} {L : mLs} {st : List Value} {x y : Int32} : ev d 108 7 L (.int y :: .int x :: st) h = if ¬ x = y then ev d 108 14 L st h else ev d 108 10 L st h := ev_ic (¬ x = y) inferInstance rfl d_108_7 (by decide)
theorem d_108_10 : decode (cd 108) 10 = .ok (.iconst 0, 1) := by rw [cd_108]; decide +kernel
theorem e_108_10 {d : Nat} {h : mM} {L : mLs} {st : List Value} : ev d 108 10 L st h = ev d 108 11 L (.int 0 :: st) h := ev_of d_108_10 rfl
theorem d_108_11 : decode (cd 108) 11 = .ok (.goto 14, 3) := by rw [cd_108]; decide +kernel
theorem e_108_11 {d : Nat} {h : mM} {L : mLs} {st : List Value} : ev d 108 11 L st h = ev d 108 25 L st h := ev_go d_108_11 (by decide)
theorem d_108_14 : decode (cd 108) 14 = .ok (.aload_n 0, 1) := by rw [cd_108]; decide +kernel
theorem e_108_14 {d : Nat} {h : mM} {T : mLs} {x : Nat} {st : List Value} : ev d 108 14 ( some (.ref x) :: T) st h = ev d 108 15 ( some (.ref x) :: T) (.ref x :: st) h := ev_of d_108_14 rfl
theorem d_108_15 : decode (cd 108) 15 = .ok (.getfield 74, 3) := by rw [cd_108]; decide +kernel
theorem e_108_15 {d : Nat} {h : mM} {L : mLs} {st : List Value} {a : Nat} : ev d 108 15 L (.ref a :: st) h = if mK h a = 10 then oB (mR h a 26) (fun b => ev d 108 18 L (.ref b :: st) h) else none := ev_gR d_108_15 (by decide +kernel) (by decide +kernel)
theorem d_108_18 : decode (cd 108) 18 = .ok (.iload_n 2, 1) := by rw [cd_108]; decide +kernel
theorem e_108_18 {d : Nat} {h : mM} {o0 o1 : Option Value} {T : mLs} {x : Int32} {st : List Value} : ev d 108 18 (o0 :: o1 :: some (.int x) :: T) st h = ev d 108 19 (o0 :: o1 :: some (.int x) :: T) (.int x :: st) h := ev_of d_108_18 rfl
theorem d_108_19 : decode (cd 108) 19 = .ok (.iconst 1, 1) := by rw [cd_108]; decide +kernel
theorem e_108_19 {d : Nat} {h : mM} {L : mLs} {st : List Value} : ev d 108 19 L st h = ev d 108 20 L (.int 1 :: st) h := ev_of d_108_19 rfl
theorem d_108_20 : decode (cd 108) 20 = .ok (.iadd, 1) := by rw [cd_108]; decide +kernel
theorem e_108_20 {d : Nat} {h : mM} {L : mLs} {st : List Value} {x y : Int32} : ev d 108 20 L (.int y :: .int x :: st) h = ev d 108 21 L (.int (x + y) :: st) h := ev_of d_108_20 rfl
theorem d_108_21 : decode (cd 108) 21 = .ok (.iaload, 1) := by rw [cd_108]; decide +kernel
theorem e_108_21 {d : Nat} {h : mM} {L : mLs} {st : List Value} {a : Nat} {i : Int32} : ev d 108 21 L (.int i :: .ref a :: st) h = if (mK h a = 11 ∨ mK h a = 19) ∧ ixOK i (mL h a) = true then ev d 108 22 L (.int (mI h a i.toNatClampNeg) :: st) h else none := ev_ia d_108_21
theorem d_108_22 : decode (cd 108) 22 = .ok (.bipush 16, 2) := by rw [cd_108]; decide +kernel
theorem e_108_22 {d : Nat} {h : mM} {L : mLs} {st : List Value} : ev d 108 22 L st h = ev d 108 24 L (.int 16 :: st) h := ev_of d_108_22 rfl
theorem d_108_24 : decode (cd 108) 24 = .ok (.idiv, 1) := by rw [cd_108]; decide +kernel
theorem e_108_24 {d : Nat} {h : mM} {L : mLs} {st : List Value} {x y : Int32} : ev d 108 24 L (.int y :: .int x :: st) h = if y = 0 then none else ev d 108 25 L (.int (x / y) :: st) h := ev_div d_108_24
theorem d_108_25 : decode (cd 108) 25 = .ok (.istore_n 3, 1) := by rw [cd_108]; decide +kernel
theorem e_108_25 {d : Nat} {h : mM} {o0 o1 o2 o3 : Option Value} {T : mLs} {x : Int32} {st : List Value} (hl : mLong o2 = false) : ev d 108 25 (o0 :: o1 :: o2 :: o3 :: T) (.int x :: st) h = ev d 108 26 (o0 :: o1 :: o2 :: some (.int x) :: T) st h := ev_st_in d_108_25 (by decide +kernel) (mS1_s (j := 2) hl)
theorem d_108_26 : decode (cd 108) 26 = .ok (.aload_n 0, 1) := by rw [cd_108]; decide +kernel
theorem e_108_26 {d : Nat} {h : mM} {T : mLs} {x : Nat} {st : List Value} : ev d 108 26 ( some (.ref x) :: T) st h = ev d 108 27 ( some (.ref x) :: T) (.ref x :: st) h := ev_of d_108_26 rfl
theorem d_108_27 : decode (cd 108) 27 = .ok (.getfield 81, 3) := by rw [cd_108]; decide +kernel
theorem e_108_27 {d : Nat} {h : mM} {L : mLs} {st : List Value} {a : Nat} : ev d 108 27 L (.ref a :: st) h = if mK h a = 10 then oB (mR h a 28) (fun b => ev d 108 30 L (.ref b :: st) h) else none := ev_gR d_108_27 (by decide +kernel) (by decide +kernel)
theorem d_108_30 : decode (cd 108) 30 = .ok (.aload_n 0, 1) := by rw [cd_108]; decide +kernel
theorem e_108_30 {d : Nat} {h : mM} {T : mLs} {x : Nat} {st : List Value} : ev d 108 30 ( some (.ref x) :: T) st h = ev d 108 31 ( some (.ref x) :: T) (.ref x :: st) h := ev_of d_108_30 rfl
theorem d_108_31 : decode (cd 108) 31 = .ok (.getfield 74, 3) := by rw [cd_108]; decide +kernel
theorem e_108_31 {d : Nat} {h : mM} {L : mLs} {st : List Value} {a : Nat} : ev d 108 31 L (.ref a :: st) h = if mK h a = 10 then oB (mR h a 26) (fun b => ev d 108 34 L (.ref b :: st) h) else none := ev_gR d_108_31 (by decide +kernel) (by decide +kernel)
theorem d_108_34 : decode (cd 108) 34 = .ok (.iload_n 2, 1) := by rw [cd_108]; decide +kernel
theorem e_108_34 {d : Nat} {h : mM} {o0 o1 : Option Value} {T : mLs} {x : Int32} {st : List Value} : ev d 108 34 (o0 :: o1 :: some (.int x) :: T) st h = ev d 108 35 (o0 :: o1 :: some (.int x) :: T) (.int x :: st) h := ev_of d_108_34 rfl
theorem d_108_35 : decode (cd 108) 35 = .ok (.iaload, 1) := by rw [cd_108]; decide +kernel
theorem e_108_35 {d : Nat} {h : mM} {L : mLs} {st : List Value} {a : Nat} {i : Int32} : ev d 108 35 L (.int i :: .ref a :: st) h = if (mK h a = 11 ∨ mK h a = 19) ∧ ixOK i (mL h a) = true then ev d 108 36 L (.int (mI h a i.toNatClampNeg) :: st) h else none := ev_ia d_108_35
theorem d_108_36 : decode (cd 108) 36 = .ok (.dup2, 1) := by rw [cd_108]; decide +kernel
theorem e_108_36 {d : Nat} {h : mM} {L : mLs} {st : List Value} {a : Nat} {i : Int32} : ev d 108 36 L (.int i :: .ref a :: st) h = ev d 108 37 L (.int i :: .ref a :: .int i :: .ref a :: st) h := ev_of d_108_36 rfl
theorem d_108_37 : decode (cd 108) 37 = .ok (.laload, 1) := by rw [cd_108]; decide +kernel
theorem e_108_37 {d : Nat} {h : mM} {L : mLs} {st : List Value} {a : Nat} {i : Int32} : ev d 108 37 L (.int i :: .ref a :: st) h = if mK h a = 12 ∧ ixOK i (mL h a) = true then ev d 108 38 L (.long (mJ h a i.toNatClampNeg) :: st) h else none := ev_la d_108_37
theorem d_108_38 : decode (cd 108) 38 = .ok (.aload_n 0, 1) := by rw [cd_108]; decide +kernel
theorem e_108_38 {d : Nat} {h : mM} {T : mLs} {x : Nat} {st : List Value} : ev d 108 38 ( some (.ref x) :: T) st h = ev d 108 39 ( some (.ref x) :: T) (.ref x :: st) h := ev_of d_108_38 rfl
theorem d_108_39 : decode (cd 108) 39 = .ok (.getfield 74, 3) := by rw [cd_108]; decide +kernel
theorem e_108_39 {d : Nat} {h : mM} {L : mLs} {st : List Value} {a : Nat} : ev d 108 39 L (.ref a :: st) h = if mK h a = 10 then oB (mR h a 26) (fun b => ev d 108 42 L (.ref b :: st) h) else none := ev_gR d_108_39 (by decide +kernel) (by decide +kernel)
theorem d_108_42 : decode (cd 108) 42 = .ok (.iload_n 2, 1) := by rw [cd_108]; decide +kernel
theorem e_108_42 {d : Nat} {h : mM} {o0 o1 : Option Value} {T : mLs} {x : Int32} {st : List Value} : ev d 108 42 (o0 :: o1 :: some (.int x) :: T) st h = ev d 108 43 (o0 :: o1 :: some (.int x) :: T) (.int x :: st) h := ev_of d_108_42 rfl
theorem d_108_43 : decode (cd 108) 43 = .ok (.iconst 1, 1) := by rw [cd_108]; decide +kernel
theorem e_108_43 {d : Nat} {h : mM} {L : mLs} {st : List Value} : ev d 108 43 L st h = ev d 108 44 L (.int 1 :: st) h := ev_of d_108_43 rfl
theorem d_108_44 : decode (cd 108) 44 = .ok (.iadd, 1) := by rw [cd_108]; decide +kernel
theorem e_108_44 {d : Nat} {h : mM} {L : mLs} {st : List Value} {x y : Int32} : ev d 108 44 L (.int y :: .int x :: st) h = ev d 108 45 L (.int (x + y) :: st) h := ev_of d_108_44 rfl
theorem d_108_45 : decode (cd 108) 45 = .ok (.iaload, 1) := by rw [cd_108]; decide +kernel
theorem e_108_45 {d : Nat} {h : mM} {L : mLs} {st : List Value} {a : Nat} {i : Int32} : ev d 108 45 L (.int i :: .ref a :: st) h = if (mK h a = 11 ∨ mK h a = 19) ∧ ixOK i (mL h a) = true then ev d 108 46 L (.int (mI h a i.toNatClampNeg) :: st) h else none := ev_ia d_108_45
theorem d_108_46 : decode (cd 108) 46 = .ok (.iload_n 3, 1) := by rw [cd_108]; decide +kernel
theorem e_108_46 {d : Nat} {h : mM} {o0 o1 o2 : Option Value} {T : mLs} {x : Int32} {st : List Value} : ev d 108 46 (o0 :: o1 :: o2 :: some (.int x) :: T) st h = ev d 108 47 (o0 :: o1 :: o2 :: some (.int x) :: T) (.int x :: st) h := ev_of d_108_46 rfl
theorem d_108_47 : decode (cd 108) 47 = .ok (.isub, 1) := by rw [cd_108]; decide +kernel
theorem e_108_47 {d : Nat} {h : mM} {L : mLs} {st : List Value} {x y : Int32} : ev d 108 47 L (.int y :: .int x :: st) h = ev d 108 48 L (.int (x - y) :: st) h := ev_of d_108_47 rfl
theorem d_108_48 : decode (cd 108) 48 = .ok (.i2l, 1) := by rw [cd_108]; decide +kernel
theorem e_108_48 {d : Nat} {h : mM} {L : mLs} {st : List Value} {x : Int32} : ev d 108 48 L (.int x :: st) h = ev d 108 49 L (.long x.toInt64 :: st) h := ev_of d_108_48 rfl
theorem d_108_49 : decode (cd 108) 49 = .ok (.ladd, 1) := by rw [cd_108]; decide +kernel
theorem e_108_49 {d : Nat} {h : mM} {L : mLs} {st : List Value} {x y : Int64} : ev d 108 49 L (.long y :: .long x :: st) h = ev d 108 50 L (.long (x + y) :: st) h := ev_of d_108_49 rfl
theorem d_108_50 : decode (cd 108) 50 = .ok (.lastore, 1) := by rw [cd_108]; decide +kernel
theorem e_108_50 {d : Nat} {h : mM} {L : mLs} {st : List Value} {a : Nat} {i : Int32} {v : Int64} : ev d 108 50 L (.long v :: .int i :: .ref a :: st) h = if mK h a = 12 ∧ ixOK i (mL h a) = true then ev d 108 51 L st (wJ h a i.toNatClampNeg v) else none := ev_ls d_108_50
theorem d_108_51 : decode (cd 108) 51 = .ok (.aload_n 0, 1) := by rw [cd_108]; decide +kernel
theorem e_108_51 {d : Nat} {h : mM} {T : mLs} {x : Nat} {st : List Value} : ev d 108 51 ( some (.ref x) :: T) st h = ev d 108 52 ( some (.ref x) :: T) (.ref x :: st) h := ev_of d_108_51 rfl
theorem d_108_52 : decode (cd 108) 52 = .ok (.getfield 77, 3) := by rw [cd_108]; decide +kernel
theorem e_108_52 {d : Nat} {h : mM} {L : mLs} {st : List Value} {a : Nat} : ev d 108 52 L (.ref a :: st) h = if mK h a = 10 then oB (mR h a 27) (fun b => ev d 108 55 L (.ref b :: st) h) else none := ev_gR d_108_52 (by decide +kernel) (by decide +kernel)
theorem d_108_55 : decode (cd 108) 55 = .ok (.bipush 6, 2) := by rw [cd_108]; decide +kernel
theorem e_108_55 {d : Nat} {h : mM} {L : mLs} {st : List Value} : ev d 108 55 L st h = ev d 108 57 L (.int 6 :: st) h := ev_of d_108_55 rfl
theorem d_108_57 : decode (cd 108) 57 = .ok (.iload_n 1, 1) := by rw [cd_108]; decide +kernel
theorem e_108_57 {d : Nat} {h : mM} {o0 : Option Value} {T : mLs} {x : Int32} {st : List Value} : ev d 108 57 (o0 :: some (.int x) :: T) st h = ev d 108 58 (o0 :: some (.int x) :: T) (.int x :: st) h := ev_of d_108_57 rfl
theorem d_108_58 : decode (cd 108) 58 = .ok (.imul, 1) := by rw [cd_108]; decide +kernel
theorem e_108_58 {d : Nat} {h : mM} {L : mLs} {st : List Value} {x y : Int32} : ev d 108 58 L (.int y :: .int x :: st) h = ev d 108 59 L (.int (x * y) :: st) h := ev_of d_108_58 rfl
theorem d_108_59 : decode (cd 108) 59 = .ok (.iconst 1, 1) := by rw [cd_108]; decide +kernel
theorem e_108_59 {d : Nat} {h : mM} {L : mLs} {st : List Value} : ev d 108 59 L st h = ev d 108 60 L (.int 1 :: st) h := ev_of d_108_59 rfl
theorem d_108_60 : decode (cd 108) 60 = .ok (.iadd, 1) := by rw [cd_108]; decide +kernel
theorem e_108_60 {d : Nat} {h : mM} {L : mLs} {st : List Value} {x y : Int32} : ev d 108 60 L (.int y :: .int x :: st) h = ev d 108 61 L (.int (x + y) :: st) h := ev_of d_108_60 rfl
theorem d_108_61 : decode (cd 108) 61 = .ok (.dup2, 1) := by rw [cd_108]; decide +kernel
theorem e_108_61 {d : Nat} {h : mM} {L : mLs} {st : List Value} {a : Nat} {i : Int32} : ev d 108 61 L (.int i :: .ref a :: st) h = ev d 108 62 L (.int i :: .ref a :: .int i :: .ref a :: st) h := ev_of d_108_61 rfl
theorem d_108_62 : decode (cd 108) 62 = .ok (.laload, 1) := by rw [cd_108]; decide +kernel
theorem e_108_62 {d : Nat} {h : mM} {L : mLs} {st : List Value} {a : Nat} {i : Int32} : ev d 108 62 L (.int i :: .ref a :: st) h = if mK h a = 12 ∧ ixOK i (mL h a) = true then ev d 108 63 L (.long (mJ h a i.toNatClampNeg) :: st) h else none := ev_la d_108_62
theorem d_108_63 : decode (cd 108) 63 = .ok (.iload_n 3, 1) := by rw [cd_108]; decide +kernel
theorem e_108_63 {d : Nat} {h : mM} {o0 o1 o2 : Option Value} {T : mLs} {x : Int32} {st : List Value} : ev d 108 63 (o0 :: o1 :: o2 :: some (.int x) :: T) st h = ev d 108 64 (o0 :: o1 :: o2 :: some (.int x) :: T) (.int x :: st) h := ev_of d_108_63 rfl
theorem d_108_64 : decode (cd 108) 64 = .ok (.i2l, 1) := by rw [cd_108]; decide +kernel
theorem e_108_64 {d : Nat} {h : mM} {L : mLs} {st : List Value} {x : Int32} : ev d 108 64 L (.int x :: st) h = ev d 108 65 L (.long x.toInt64 :: st) h := ev_of d_108_64 rfl
theorem d_108_65 : decode (cd 108) 65 = .ok (.ladd, 1) := by rw [cd_108]; decide +kernel
theorem e_108_65 {d : Nat} {h : mM} {L : mLs} {st : List Value} {x y : Int64} : ev d 108 65 L (.long y :: .long x :: st) h = ev d 108 66 L (.long (x + y) :: st) h := ev_of d_108_65 rfl
theorem d_108_66 : decode (cd 108) 66 = .ok (.lastore, 1) := by rw [cd_108]; decide +kernel
theorem e_108_66 {d : Nat} {h : mM} {L : mLs} {st : List Value} {a : Nat} {i : Int32} {v : Int64} : ev d 108 66 L (.long v :: .int i :: .ref a :: st) h = if mK h a = 12 ∧ ixOK i (mL h a) = true then ev d 108 67 L st (wJ h a i.toNatClampNeg v) else none := ev_ls d_108_66
theorem d_108_67 : decode (cd 108) 67 = .ok (.aload_n 0, 1) := by rw [cd_108]; decide +kernel
theorem e_108_67 {d : Nat} {h : mM} {T : mLs} {x : Nat} {st : List Value} : ev d 108 67 ( some (.ref x) :: T) st h = ev d 108 68 ( some (.ref x) :: T) (.ref x :: st) h := ev_of d_108_67 rfl
theorem d_108_68 : decode (cd 108) 68 = .ok (.getfield 77, 3) := by rw [cd_108]; decide +kernel
theorem e_108_68 {d : Nat} {h : mM} {L : mLs} {st : List Value} {a : Nat} : ev d 108 68 L (.ref a :: st) h = if mK h a = 10 then oB (mR h a 27) (fun b => ev d 108 71 L (.ref b :: st) h) else none := ev_gR d_108_68 (by decide +kernel) (by decide +kernel)
theorem d_108_71 : decode (cd 108) 71 = .ok (.bipush 6, 2) := by rw [cd_108]; decide +kernel
theorem e_108_71 {d : Nat} {h : mM} {L : mLs} {st : List Value} : ev d 108 71 L st h = ev d 108 73 L (.int 6 :: st) h := ev_of d_108_71 rfl
theorem d_108_73 : decode (cd 108) 73 = .ok (.iload_n 1, 1) := by rw [cd_108]; decide +kernel
theorem e_108_73 {d : Nat} {h : mM} {o0 : Option Value} {T : mLs} {x : Int32} {st : List Value} : ev d 108 73 (o0 :: some (.int x) :: T) st h = ev d 108 74 (o0 :: some (.int x) :: T) (.int x :: st) h := ev_of d_108_73 rfl
theorem d_108_74 : decode (cd 108) 74 = .ok (.imul, 1) := by rw [cd_108]; decide +kernel
theorem e_108_74 {d : Nat} {h : mM} {L : mLs} {st : List Value} {x y : Int32} : ev d 108 74 L (.int y :: .int x :: st) h = ev d 108 75 L (.int (x * y) :: st) h := ev_of d_108_74 rfl
theorem d_108_75 : decode (cd 108) 75 = .ok (.iconst 2, 1) := by rw [cd_108]; decide +kernel
theorem e_108_75 {d : Nat} {h : mM} {L : mLs} {st : List Value} : ev d 108 75 L st h = ev d 108 76 L (.int 2 :: st) h := ev_of d_108_75 rfl
theorem d_108_76 : decode (cd 108) 76 = .ok (.iadd, 1) := by rw [cd_108]; decide +kernel
theorem e_108_76 {d : Nat} {h : mM} {L : mLs} {st : List Value} {x y : Int32} : ev d 108 76 L (.int y :: .int x :: st) h = ev d 108 77 L (.int (x + y) :: st) h := ev_of d_108_76 rfl
theorem d_108_77 : decode (cd 108) 77 = .ok (.dup2, 1) := by rw [cd_108]; decide +kernel
theorem e_108_77 {d : Nat} {h : mM} {L : mLs} {st : List Value} {a : Nat} {i : Int32} : ev d 108 77 L (.int i :: .ref a :: st) h = ev d 108 78 L (.int i :: .ref a :: .int i :: .ref a :: st) h := ev_of d_108_77 rfl
theorem d_108_78 : decode (cd 108) 78 = .ok (.laload, 1) := by rw [cd_108]; decide +kernel
theorem e_108_78 {d : Nat} {h : mM} {L : mLs} {st : List Value} {a : Nat} {i : Int32} : ev d 108 78 L (.int i :: .ref a :: st) h = if mK h a = 12 ∧ ixOK i (mL h a) = true then ev d 108 79 L (.long (mJ h a i.toNatClampNeg) :: st) h else none := ev_la d_108_78
theorem d_108_79 : decode (cd 108) 79 = .ok (.lconst 1, 1) := by rw [cd_108]; decide +kernel
theorem e_108_79 {d : Nat} {h : mM} {L : mLs} {st : List Value} : ev d 108 79 L st h = ev d 108 80 L (.long 1 :: st) h := ev_of d_108_79 rfl
theorem d_108_80 : decode (cd 108) 80 = .ok (.ladd, 1) := by rw [cd_108]; decide +kernel
theorem e_108_80 {d : Nat} {h : mM} {L : mLs} {st : List Value} {x y : Int64} : ev d 108 80 L (.long y :: .long x :: st) h = ev d 108 81 L (.long (x + y) :: st) h := ev_of d_108_80 rfl
theorem d_108_81 : decode (cd 108) 81 = .ok (.lastore, 1) := by rw [cd_108]; decide +kernel
theorem e_108_81 {d : Nat} {h : mM} {L : mLs} {st : List Value} {a : Nat} {i : Int32} {v : Int64} : ev d 108 81 L (.long v :: .int i :: .ref a :: st) h = if mK h a = 12 ∧ ixOK i (mL h a) = true then ev d 108 82 L st (wJ h a i.toNatClampNeg v) else none := ev_ls d_108_81
theorem d_108_82 : decode (cd 108) 82 = .ok (.aload_n 0, 1) := by rw [cd_108]; decide +kernel
theorem e_108_82 {d : Nat} {h : mM} {T : mLs} {x : Nat} {st : List Value} : ev d 108 82 ( some (.ref x) :: T) st h = ev d 108 83 ( some (.ref x) :: T) (.ref x :: st) h := ev_of d_108_82 rfl
theorem d_108_83 : decode (cd 108) 83 = .ok (.getfield 77, 3) := by rw [cd_108]; decide +kernel
theorem e_108_83 {d : Nat} {h : mM} {L : mLs} {st : List Value} {a : Nat} : ev d 108 83 L (.ref a :: st) h = if mK h a = 10 then oB (mR h a 27) (fun b => ev d 108 86 L (.ref b :: st) h) else none := ev_gR d_108_83 (by decide +kernel) (by decide +kernel)
theorem d_108_86 : decode (cd 108) 86 = .ok (.bipush 6, 2) := by rw [cd_108]; decide +kernel
theorem e_108_86 {d : Nat} {h : mM} {L : mLs} {st : List Value} : ev d 108 86 L st h = ev d 108 88 L (.int 6 :: st) h := ev_of d_108_86 rfl
theorem d_108_88 : decode (cd 108) 88 = .ok (.iload_n 1, 1) := by rw [cd_108]; decide +kernel
theorem e_108_88 {d : Nat} {h : mM} {o0 : Option Value} {T : mLs} {x : Int32} {st : List Value} : ev d 108 88 (o0 :: some (.int x) :: T) st h = ev d 108 89 (o0 :: some (.int x) :: T) (.int x :: st) h := ev_of d_108_88 rfl
theorem d_108_89 : decode (cd 108) 89 = .ok (.imul, 1) := by rw [cd_108]; decide +kernel
theorem e_108_89 {d : Nat} {h : mM} {L : mLs} {st : List Value} {x y : Int32} : ev d 108 89 L (.int y :: .int x :: st) h = ev d 108 90 L (.int (x * y) :: st) h := ev_of d_108_89 rfl
theorem d_108_90 : decode (cd 108) 90 = .ok (.iconst 3, 1) := by rw [cd_108]; decide +kernel
theorem e_108_90 {d : Nat} {h : mM} {L : mLs} {st : List Value} : ev d 108 90 L st h = ev d 108 91 L (.int 3 :: st) h := ev_of d_108_90 rfl
theorem d_108_91 : decode (cd 108) 91 = .ok (.iadd, 1) := by rw [cd_108]; decide +kernel
theorem e_108_91 {d : Nat} {h : mM} {L : mLs} {st : List Value} {x y : Int32} : ev d 108 91 L (.int y :: .int x :: st) h = ev d 108 92 L (.int (x + y) :: st) h := ev_of d_108_91 rfl
theorem d_108_92 : decode (cd 108) 92 = .ok (.dup2, 1) := by rw [cd_108]; decide +kernel
theorem e_108_92 {d : Nat} {h : mM} {L : mLs} {st : List Value} {a : Nat} {i : Int32} : ev d 108 92 L (.int i :: .ref a :: st) h = ev d 108 93 L (.int i :: .ref a :: .int i :: .ref a :: st) h := ev_of d_108_92 rfl
theorem d_108_93 : decode (cd 108) 93 = .ok (.laload, 1) := by rw [cd_108]; decide +kernel
theorem e_108_93 {d : Nat} {h : mM} {L : mLs} {st : List Value} {a : Nat} {i : Int32} : ev d 108 93 L (.int i :: .ref a :: st) h = if mK h a = 12 ∧ ixOK i (mL h a) = true then ev d 108 94 L (.long (mJ h a i.toNatClampNeg) :: st) h else none := ev_la d_108_93
theorem d_108_94 : decode (cd 108) 94 = .ok (.aload_n 0, 1) := by rw [cd_108]; decide +kernel
theorem e_108_94 {d : Nat} {h : mM} {T : mLs} {x : Nat} {st : List Value} : ev d 108 94 ( some (.ref x) :: T) st h = ev d 108 95 ( some (.ref x) :: T) (.ref x :: st) h := ev_of d_108_94 rfl
theorem d_108_95 : decode (cd 108) 95 = .ok (.getfield 147, 3) := by rw [cd_108]; decide +kernel
theorem e_108_95 {d : Nat} {h : mM} {L : mLs} {st : List Value} {a : Nat} : ev d 108 95 L (.ref a :: st) h = if mK h a = 10 then ev d 108 98 L (.int (mI h a 0) :: st) h else none := ev_gI d_108_95 (by decide +kernel) (by decide +kernel)
theorem d_108_98 : decode (cd 108) 98 = .ok (.aload_n 0, 1) := by rw [cd_108]; decide +kernel
theorem e_108_98 {d : Nat} {h : mM} {T : mLs} {x : Nat} {st : List Value} : ev d 108 98 ( some (.ref x) :: T) st h = ev d 108 99 ( some (.ref x) :: T) (.ref x :: st) h := ev_of d_108_98 rfl
theorem d_108_99 : decode (cd 108) 99 = .ok (.getfield 74, 3) := by rw [cd_108]; decide +kernel
theorem e_108_99 {d : Nat} {h : mM} {L : mLs} {st : List Value} {a : Nat} : ev d 108 99 L (.ref a :: st) h = if mK h a = 10 then oB (mR h a 26) (fun b => ev d 108 102 L (.ref b :: st) h) else none := ev_gR d_108_99 (by decide +kernel) (by decide +kernel)
theorem d_108_102 : decode (cd 108) 102 = .ok (.iload_n 2, 1) := by rw [cd_108]; decide +kernel
theorem e_108_102 {d : Nat} {h : mM} {o0 o1 : Option Value} {T : mLs} {x : Int32} {st : List Value} : ev d 108 102 (o0 :: o1 :: some (.int x) :: T) st h = ev d 108 103 (o0 :: o1 :: some (.int x) :: T) (.int x :: st) h := ev_of d_108_102 rfl
theorem d_108_103 : decode (cd 108) 103 = .ok (.iconst 3, 1) := by rw [cd_108]; decide +kernel
theorem e_108_103 {d : Nat} {h : mM} {L : mLs} {st : List Value} : ev d 108 103 L st h = ev d 108 104 L (.int 3 :: st) h := ev_of d_108_103 rfl
theorem d_108_104 : decode (cd 108) 104 = .ok (.iadd, 1) := by rw [cd_108]; decide +kernel
theorem e_108_104 {d : Nat} {h : mM} {L : mLs} {st : List Value} {x y : Int32} : ev d 108 104 L (.int y :: .int x :: st) h = ev d 108 105 L (.int (x + y) :: st) h := ev_of d_108_104 rfl
theorem d_108_105 : decode (cd 108) 105 = .ok (.iaload, 1) := by rw [cd_108]; decide +kernel
theorem e_108_105 {d : Nat} {h : mM} {L : mLs} {st : List Value} {a : Nat} {i : Int32} : ev d 108 105 L (.int i :: .ref a :: st) h = if (mK h a = 11 ∨ mK h a = 19) ∧ ixOK i (mL h a) = true then ev d 108 106 L (.int (mI h a i.toNatClampNeg) :: st) h else none := ev_ia d_108_105
theorem d_108_106 : decode (cd 108) 106 = .ok (.if_icmp .le 7, 3) := by rw [cd_108]; decide +kernel
theorem e_108_106 {d : Nat} {h : mM} {L : mLs} {st : List Value} {x y : Int32} : ev d 108 106 L (.int y :: .int x :: st) h = if x ≤ y then ev d 108 113 L st h else ev d 108 109 L st h := ev_ic (x ≤ y) inferInstance rfl d_108_106 (by decide)
theorem d_108_109 : decode (cd 108) 109 = .ok (.lconst 1, 1) := by rw [cd_108]; decide +kernel
theorem e_108_109 {d : Nat} {h : mM} {L : mLs} {st : List Value} : ev d 108 109 L st h = ev d 108 110 L (.long 1 :: st) h := ev_of d_108_109 rfl
theorem d_108_110 : decode (cd 108) 110 = .ok (.goto 4, 3) := by rw [cd_108]; decide +kernel
theorem e_108_110 {d : Nat} {h : mM} {L : mLs} {st : List Value} : ev d 108 110 L st h = ev d 108 114 L st h := ev_go d_108_110 (by decide)
theorem d_108_113 : decode (cd 108) 113 = .ok (.lconst 0, 1) := by rw [cd_108]; decide +kernel
theorem e_108_113 {d : Nat} {h : mM} {L : mLs} {st : List Value} : ev d 108 113 L st h = ev d 108 114 L (.long 0 :: st) h := ev_of d_108_113 rfl
theorem d_108_114 : decode (cd 108) 114 = .ok (.ladd, 1) := by rw [cd_108]; decide +kernel
theorem e_108_114 {d : Nat} {h : mM} {L : mLs} {st : List Value} {x y : Int64} : ev d 108 114 L (.long y :: .long x :: st) h = ev d 108 115 L (.long (x + y) :: st) h := ev_of d_108_114 rfl
theorem d_108_115 : decode (cd 108) 115 = .ok (.lastore, 1) := by rw [cd_108]; decide +kernel
theorem e_108_115 {d : Nat} {h : mM} {L : mLs} {st : List Value} {a : Nat} {i : Int32} {v : Int64} : ev d 108 115 L (.long v :: .int i :: .ref a :: st) h = if mK h a = 12 ∧ ixOK i (mL h a) = true then ev d 108 116 L st (wJ h a i.toNatClampNeg v) else none := ev_ls d_108_115
theorem d_108_116 : decode (cd 108) 116 = .ok (.aload_n 0, 1) := by rw [cd_108]; decide +kernel
theorem e_108_116 {d : Nat} {h : mM} {T : mLs} {x : Nat} {st : List Value} : ev d 108 116 ( some (.ref x) :: T) st h = ev d 108 117 ( some (.ref x) :: T) (.ref x :: st) h := ev_of d_108_116 rfl
theorem d_108_117 : decode (cd 108) 117 = .ok (.getfield 71, 3) := by rw [cd_108]; decide +kernel
theorem e_108_117 {d : Nat} {h : mM} {L : mLs} {st : List Value} {a : Nat} : ev d 108 117 L (.ref a :: st) h = if mK h a = 10 then oB (mR h a 25) (fun b => ev d 108 120 L (.ref b :: st) h) else none := ev_gR d_108_117 (by decide +kernel) (by decide +kernel)
theorem d_108_120 : decode (cd 108) 120 = .ok (.iload_n 1, 1) := by rw [cd_108]; decide +kernel
theorem e_108_120 {d : Nat} {h : mM} {o0 : Option Value} {T : mLs} {x : Int32} {st : List Value} : ev d 108 120 (o0 :: some (.int x) :: T) st h = ev d 108 121 (o0 :: some (.int x) :: T) (.int x :: st) h := ev_of d_108_120 rfl
theorem d_108_121 : decode (cd 108) 121 = .ok (.dup2, 1) := by rw [cd_108]; decide +kernel
theorem e_108_121 {d : Nat} {h : mM} {L : mLs} {st : List Value} {a : Nat} {i : Int32} : ev d 108 121 L (.int i :: .ref a :: st) h = ev d 108 122 L (.int i :: .ref a :: .int i :: .ref a :: st) h := ev_of d_108_121 rfl
theorem d_108_122 : decode (cd 108) 122 = .ok (.iaload, 1) := by rw [cd_108]; decide +kernel
theorem e_108_122 {d : Nat} {h : mM} {L : mLs} {st : List Value} {a : Nat} {i : Int32} : ev d 108 122 L (.int i :: .ref a :: st) h = if (mK h a = 11 ∨ mK h a = 19) ∧ ixOK i (mL h a) = true then ev d 108 123 L (.int (mI h a i.toNatClampNeg) :: st) h else none := ev_ia d_108_122
theorem d_108_123 : decode (cd 108) 123 = .ok (.iconst 1, 1) := by rw [cd_108]; decide +kernel
theorem e_108_123 {d : Nat} {h : mM} {L : mLs} {st : List Value} : ev d 108 123 L st h = ev d 108 124 L (.int 1 :: st) h := ev_of d_108_123 rfl
theorem d_108_124 : decode (cd 108) 124 = .ok (.isub, 1) := by rw [cd_108]; decide +kernel
theorem e_108_124 {d : Nat} {h : mM} {L : mLs} {st : List Value} {x y : Int32} : ev d 108 124 L (.int y :: .int x :: st) h = ev d 108 125 L (.int (x - y) :: st) h := ev_of d_108_124 rfl
theorem d_108_125 : decode (cd 108) 125 = .ok (.iastore, 1) := by rw [cd_108]; decide +kernel
theorem e_108_125 {d : Nat} {h : mM} {L : mLs} {st : List Value} {a : Nat} {i v : Int32} : ev d 108 125 L (.int v :: .int i :: .ref a :: st) h = if mK h a = 11 ∧ ixOK i (mL h a) = true then ev d 108 126 L st (wI h a i.toNatClampNeg v) else none := ev_is d_108_125
theorem d_108_126 : decode (cd 108) 126 = .ok (.iconst 0, 1) := by rw [cd_108]; decide +kernel
theorem e_108_126 {d : Nat} {h : mM} {L : mLs} {st : List Value} : ev d 108 126 L st h = ev d 108 127 L (.int 0 :: st) h := ev_of d_108_126 rfl
theorem d_108_127 : decode (cd 108) 127 = .ok (.istore 4, 2) := by rw [cd_108]; decide +kernel
theorem e_108_127 {d : Nat} {h : mM} {o0 o1 o2 o3 o4 : Option Value} {T : mLs} {x : Int32} {st : List Value} (hl : mLong o3 = false) : ev d 108 127 (o0 :: o1 :: o2 :: o3 :: o4 :: T) (.int x :: st) h = ev d 108 129 (o0 :: o1 :: o2 :: o3 :: some (.int x) :: T) st h := ev_st_i d_108_127 (by decide +kernel) (mS1_s (j := 3) hl)
theorem d_108_129 : decode (cd 108) 129 = .ok (.iload 4, 2) := by rw [cd_108]; decide +kernel
theorem e_108_129 {d : Nat} {h : mM} {o0 o1 o2 o3 : Option Value} {T : mLs} {x : Int32} {st : List Value} : ev d 108 129 (o0 :: o1 :: o2 :: o3 :: some (.int x) :: T) st h = ev d 108 131 (o0 :: o1 :: o2 :: o3 :: some (.int x) :: T) (.int x :: st) h := ev_of d_108_129 rfl
theorem d_108_131 : decode (cd 108) 131 = .ok (.iconst 4, 1) := by rw [cd_108]; decide +kernel
theorem e_108_131 {d : Nat} {h : mM} {L : mLs} {st : List Value} : ev d 108 131 L st h = ev d 108 132 L (.int 4 :: st) h := ev_of d_108_131 rfl
theorem d_108_132 : decode (cd 108) 132 = .ok (.aload_n 0, 1) := by rw [cd_108]; decide +kernel
theorem e_108_132 {d : Nat} {h : mM} {T : mLs} {x : Nat} {st : List Value} : ev d 108 132 ( some (.ref x) :: T) st h = ev d 108 133 ( some (.ref x) :: T) (.ref x :: st) h := ev_of d_108_132 rfl
theorem d_108_133 : decode (cd 108) 133 = .ok (.getfield 71, 3) := by rw [cd_108]; decide +kernel
theorem e_108_133 {d : Nat} {h : mM} {L : mLs} {st : List Value} {a : Nat} : ev d 108 133 L (.ref a :: st) h = if mK h a = 10 then oB (mR h a 25) (fun b => ev d 108 136 L (.ref b :: st) h) else none := ev_gR d_108_133 (by decide +kernel) (by decide +kernel)
theorem d_108_136 : decode (cd 108) 136 = .ok (.iload_n 1, 1) := by rw [cd_108]; decide +kernel
theorem e_108_136 {d : Nat} {h : mM} {o0 : Option Value} {T : mLs} {x : Int32} {st : List Value} : ev d 108 136 (o0 :: some (.int x) :: T) st h = ev d 108 137 (o0 :: some (.int x) :: T) (.int x :: st) h := ev_of d_108_136 rfl
theorem d_108_137 : decode (cd 108) 137 = .ok (.iaload, 1) := by rw [cd_108]; decide +kernel
theorem e_108_137 {d : Nat} {h : mM} {L : mLs} {st : List Value} {a : Nat} {i : Int32} : ev d 108 137 L (.int i :: .ref a :: st) h = if (mK h a = 11 ∨ mK h a = 19) ∧ ixOK i (mL h a) = true then ev d 108 138 L (.int (mI h a i.toNatClampNeg) :: st) h else none := ev_ia d_108_137
theorem d_108_138 : decode (cd 108) 138 = .ok (.imul, 1) := by rw [cd_108]; decide +kernel
theorem e_108_138 {d : Nat} {h : mM} {L : mLs} {st : List Value} {x y : Int32} : ev d 108 138 L (.int y :: .int x :: st) h = ev d 108 139 L (.int (x * y) :: st) h := ev_of d_108_138 rfl
theorem d_108_139 : decode (cd 108) 139 = .ok (.if_icmp .ge 29, 3) := by rw [cd_108]; decide +kernel
theorem e_108_139 {d : Nat} {h : mM} {L : mLs} {st : List Value} {x y : Int32} : ev d 108 139 L (.int y :: .int x :: st) h = if y ≤ x then ev d 108 168 L st h else ev d 108 142 L st h := ev_ic (y ≤ x) inferInstance rfl d_108_139 (by decide)
theorem d_108_142 : decode (cd 108) 142 = .ok (.aload_n 0, 1) := by rw [cd_108]; decide +kernel
theorem e_108_142 {d : Nat} {h : mM} {T : mLs} {x : Nat} {st : List Value} : ev d 108 142 ( some (.ref x) :: T) st h = ev d 108 143 ( some (.ref x) :: T) (.ref x :: st) h := ev_of d_108_142 rfl
theorem d_108_143 : decode (cd 108) 143 = .ok (.getfield 74, 3) := by rw [cd_108]; decide +kernel
theorem e_108_143 {d : Nat} {h : mM} {L : mLs} {st : List Value} {a : Nat} : ev d 108 143 L (.ref a :: st) h = if mK h a = 10 then oB (mR h a 26) (fun b => ev d 108 146 L (.ref b :: st) h) else none := ev_gR d_108_143 (by decide +kernel) (by decide +kernel)
theorem d_108_146 : decode (cd 108) 146 = .ok (.iload_n 2, 1) := by rw [cd_108]; decide +kernel
theorem e_108_146 {d : Nat} {h : mM} {o0 o1 : Option Value} {T : mLs} {x : Int32} {st : List Value} : ev d 108 146 (o0 :: o1 :: some (.int x) :: T) st h = ev d 108 147 (o0 :: o1 :: some (.int x) :: T) (.int x :: st) h := ev_of d_108_146 rfl
theorem d_108_147 : decode (cd 108) 147 = .ok (.iload 4, 2) := by rw [cd_108]; decide +kernel
theorem e_108_147 {d : Nat} {h : mM} {o0 o1 o2 o3 : Option Value} {T : mLs} {x : Int32} {st : List Value} : ev d 108 147 (o0 :: o1 :: o2 :: o3 :: some (.int x) :: T) st h = ev d 108 149 (o0 :: o1 :: o2 :: o3 :: some (.int x) :: T) (.int x :: st) h := ev_of d_108_147 rfl
theorem d_108_149 : decode (cd 108) 149 = .ok (.iadd, 1) := by rw [cd_108]; decide +kernel
theorem e_108_149 {d : Nat} {h : mM} {L : mLs} {st : List Value} {x y : Int32} : ev d 108 149 L (.int y :: .int x :: st) h = ev d 108 150 L (.int (x + y) :: st) h := ev_of d_108_149 rfl
theorem d_108_150 : decode (cd 108) 150 = .ok (.aload_n 0, 1) := by rw [cd_108]; decide +kernel
theorem e_108_150 {d : Nat} {h : mM} {T : mLs} {x : Nat} {st : List Value} : ev d 108 150 ( some (.ref x) :: T) st h = ev d 108 151 ( some (.ref x) :: T) (.ref x :: st) h := ev_of d_108_150 rfl
theorem d_108_151 : decode (cd 108) 151 = .ok (.getfield 74, 3) := by rw [cd_108]; decide +kernel
theorem e_108_151 {d : Nat} {h : mM} {L : mLs} {st : List Value} {a : Nat} : ev d 108 151 L (.ref a :: st) h = if mK h a = 10 then oB (mR h a 26) (fun b => ev d 108 154 L (.ref b :: st) h) else none := ev_gR d_108_151 (by decide +kernel) (by decide +kernel)
theorem d_108_154 : decode (cd 108) 154 = .ok (.iload_n 2, 1) := by rw [cd_108]; decide +kernel
theorem e_108_154 {d : Nat} {h : mM} {o0 o1 : Option Value} {T : mLs} {x : Int32} {st : List Value} : ev d 108 154 (o0 :: o1 :: some (.int x) :: T) st h = ev d 108 155 (o0 :: o1 :: some (.int x) :: T) (.int x :: st) h := ev_of d_108_154 rfl
theorem d_108_155 : decode (cd 108) 155 = .ok (.iload 4, 2) := by rw [cd_108]; decide +kernel
theorem e_108_155 {d : Nat} {h : mM} {o0 o1 o2 o3 : Option Value} {T : mLs} {x : Int32} {st : List Value} : ev d 108 155 (o0 :: o1 :: o2 :: o3 :: some (.int x) :: T) st h = ev d 108 157 (o0 :: o1 :: o2 :: o3 :: some (.int x) :: T) (.int x :: st) h := ev_of d_108_155 rfl
theorem d_108_157 : decode (cd 108) 157 = .ok (.iadd, 1) := by rw [cd_108]; decide +kernel
theorem e_108_157 {d : Nat} {h : mM} {L : mLs} {st : List Value} {x y : Int32} : ev d 108 157 L (.int y :: .int x :: st) h = ev d 108 158 L (.int (x + y) :: st) h := ev_of d_108_157 rfl
theorem d_108_158 : decode (cd 108) 158 = .ok (.iconst 4, 1) := by rw [cd_108]; decide +kernel
theorem e_108_158 {d : Nat} {h : mM} {L : mLs} {st : List Value} : ev d 108 158 L st h = ev d 108 159 L (.int 4 :: st) h := ev_of d_108_158 rfl
theorem d_108_159 : decode (cd 108) 159 = .ok (.iadd, 1) := by rw [cd_108]; decide +kernel
theorem e_108_159 {d : Nat} {h : mM} {L : mLs} {st : List Value} {x y : Int32} : ev d 108 159 L (.int y :: .int x :: st) h = ev d 108 160 L (.int (x + y) :: st) h := ev_of d_108_159 rfl
theorem d_108_160 : decode (cd 108) 160 = .ok (.iaload, 1) := by rw [cd_108]; decide +kernel
theorem e_108_160 {d : Nat} {h : mM} {L : mLs} {st : List Value} {a : Nat} {i : Int32} : ev d 108 160 L (.int i :: .ref a :: st) h = if (mK h a = 11 ∨ mK h a = 19) ∧ ixOK i (mL h a) = true then ev d 108 161 L (.int (mI h a i.toNatClampNeg) :: st) h else none := ev_ia d_108_160
theorem d_108_161 : decode (cd 108) 161 = .ok (.iastore, 1) := by rw [cd_108]; decide +kernel
theorem e_108_161 {d : Nat} {h : mM} {L : mLs} {st : List Value} {a : Nat} {i v : Int32} : ev d 108 161 L (.int v :: .int i :: .ref a :: st) h = if mK h a = 11 ∧ ixOK i (mL h a) = true then ev d 108 162 L st (wI h a i.toNatClampNeg v) else none := ev_is d_108_161
theorem d_108_162 : decode (cd 108) 162 = .ok (.iinc 4 1, 3) := by rw [cd_108]; decide +kernel
theorem e_108_162 {d : Nat} {h : mM} {o0 o1 o2 o3 : Option Value} {T : mLs} {x : Int32} {st : List Value} (hl : mLong o3 = false) : ev d 108 162 (o0 :: o1 :: o2 :: o3 :: some (.int x) :: T) st h = ev d 108 165 (o0 :: o1 :: o2 :: o3 :: some (.int (x + 1)) :: T) st h := ev_inc d_108_162 (by decide +kernel) rfl rfl (mS1_s (j := 3) hl)
theorem d_108_165 : decode (cd 108) 165 = .ok (.goto (-36), 3) := by rw [cd_108]; decide +kernel
theorem e_108_165 {d : Nat} {h : mM} {L : mLs} {st : List Value} : ev d 108 165 L st h = ev d 108 129 L st h := ev_go d_108_165 (by decide)
theorem d_108_168 : decode (cd 108) 168 = .ok (.return_, 1) := by rw [cd_108]; decide +kernel
theorem e_108_168 {d : Nat} {h : mM} {L : mLs} : ev d 108 168 L [] h = some (none, h) := ev_rv d_108_168 (by decide +kernel)
-- 109: Model.spills
theorem cd_109 : cd 109 = prog_12_method_32_code := rfl
theorem d_109_0 : decode (cd 109) 0 = .ok (.iconst 0, 1) := by rw [cd_109]; decide +kernel
theorem e_109_0 {d : Nat} {h : mM} {L : mLs} {st : List Value} : ev d 109 0 L st h = ev d 109 1 L (.int 0 :: st) h := ev_of d_109_0 rfl
theorem d_109_1 : decode (cd 109) 1 = .ok (.istore_n 2, 1) := by rw [cd_109]; decide +kernel
theorem e_109_1 {d : Nat} {h : mM} {o0 o1 o2 : Option Value} {T : mLs} {x : Int32} {st : List Value} (hl : mLong o1 = false) : ev d 109 1 (o0 :: o1 :: o2 :: T) (.int x :: st) h = ev d 109 2 (o0 :: o1 :: some (.int x) :: T) st h := ev_st_in d_109_1 (by decide +kernel) (mS1_s (j := 1) hl)
theorem d_109_2 : decode (cd 109) 2 = .ok (.iload_n 2, 1) := by rw [cd_109]; decide +kernel
theorem e_109_2 {d : Nat} {h : mM} {o0 o1 : Option Value} {T : mLs} {x : Int32} {st : List Value} : ev d 109 2 (o0 :: o1 :: some (.int x) :: T) st h = ev d 109 3 (o0 :: o1 :: some (.int x) :: T) (.int x :: st) h := ev_of d_109_2 rfl
theorem d_109_3 : decode (cd 109) 3 = .ok (.aload_n 0, 1) := by rw [cd_109]; decide +kernel
theorem e_109_3 {d : Nat} {h : mM} {T : mLs} {x : Nat} {st : List Value} : ev d 109 3 ( some (.ref x) :: T) st h = ev d 109 4 ( some (.ref x) :: T) (.ref x :: st) h := ev_of d_109_3 rfl
theorem d_109_4 : decode (cd 109) 4 = .ok (.getfield 111, 3) := by rw [cd_109]; decide +kernel
theorem e_109_4 {d : Nat} {h : mM} {L : mLs} {st : List Value} {a : Nat} : ev d 109 4 L (.ref a :: st) h = if mK h a = 10 then ev d 109 7 L (.int (mI h a 3) :: st) h else none := ev_gI d_109_4 (by decide +kernel) (by decide +kernel)
theorem d_109_7 : decode (cd 109) 7 = .ok (.if_icmp .ge 44, 3) := by rw [cd_109]; decide +kernel
theorem e_109_7 {d : Nat} {h : mM} {L : mLs} {st : List Value} {x y : Int32} : ev d 109 7 L (.int y :: .int x :: st) h = if y ≤ x then ev d 109 51 L st h else ev d 109 10 L st h := ev_ic (y ≤ x) inferInstance rfl d_109_7 (by decide)
theorem d_109_10 : decode (cd 109) 10 = .ok (.iconst 0, 1) := by rw [cd_109]; decide +kernel
theorem e_109_10 {d : Nat} {h : mM} {L : mLs} {st : List Value} : ev d 109 10 L st h = ev d 109 11 L (.int 0 :: st) h := ev_of d_109_10 rfl
theorem d_109_11 : decode (cd 109) 11 = .ok (.aload_n 1, 1) := by rw [cd_109]; decide +kernel
theorem e_109_11 {d : Nat} {h : mM} {o0 : Option Value} {T : mLs} {x : Nat} {st : List Value} : ev d 109 11 (o0 :: some (.ref x) :: T) st h = ev d 109 12 (o0 :: some (.ref x) :: T) (.ref x :: st) h := ev_of d_109_11 rfl
theorem d_109_12 : decode (cd 109) 12 = .ok (.iload_n 2, 1) := by rw [cd_109]; decide +kernel
theorem e_109_12 {d : Nat} {h : mM} {o0 o1 : Option Value} {T : mLs} {x : Int32} {st : List Value} : ev d 109 12 (o0 :: o1 :: some (.int x) :: T) st h = ev d 109 13 (o0 :: o1 :: some (.int x) :: T) (.int x :: st) h := ev_of d_109_12 rfl
theorem d_109_13 : decode (cd 109) 13 = .ok (.iaload, 1) := by rw [cd_109]; decide +kernel
theorem e_109_13 {d : Nat} {h : mM} {L : mLs} {st : List Value} {a : Nat} {i : Int32} : ev d 109 13 L (.int i :: .ref a :: st) h = if (mK h a = 11 ∨ mK h a = 19) ∧ ixOK i (mL h a) = true then ev d 109 14 L (.int (mI h a i.toNatClampNeg) :: st) h else none := ev_ia d_109_13
theorem d_109_14 : decode (cd 109) 14 = .ok (.aload_n 0, 1) := by rw [cd_109]; decide +kernel
theorem e_109_14 {d : Nat} {h : mM} {T : mLs} {x : Nat} {st : List Value} : ev d 109 14 ( some (.ref x) :: T) st h = ev d 109 15 ( some (.ref x) :: T) (.ref x :: st) h := ev_of d_109_14 rfl
theorem d_109_15 : decode (cd 109) 15 = .ok (.getfield 17, 3) := by rw [cd_109]; decide +kernel
theorem e_109_15 {d : Nat} {h : mM} {L : mLs} {st : List Value} {a : Nat} : ev d 109 15 L (.ref a :: st) h = if mK h a = 10 then oB (mR h a 4) (fun b => ev d 109 18 L (.ref b :: st) h) else none := ev_gR d_109_15 (by decide +kernel) (by decide +kernel)
theorem d_109_18 : decode (cd 109) 18 = .ok (.iload_n 2, 1) := by rw [cd_109]; decide +kernel
theorem e_109_18 {d : Nat} {h : mM} {o0 o1 : Option Value} {T : mLs} {x : Int32} {st : List Value} : ev d 109 18 (o0 :: o1 :: some (.int x) :: T) st h = ev d 109 19 (o0 :: o1 :: some (.int x) :: T) (.int x :: st) h := ev_of d_109_18 rfl
theorem d_109_19 : decode (cd 109) 19 = .ok (.iaload, 1) := by rw [cd_109]; decide +kernel
theorem e_109_19 {d : Nat} {h : mM} {L : mLs} {st : List Value} {a : Nat} {i : Int32} : ev d 109 19 L (.int i :: .ref a :: st) h = if (mK h a = 11 ∨ mK h a = 19) ∧ ixOK i (mL h a) = true then ev d 109 20 L (.int (mI h a i.toNatClampNeg) :: st) h else none := ev_ia d_109_19
theorem d_109_20 : decode (cd 109) 20 = .ok (.aload_n 0, 1) := by rw [cd_109]; decide +kernel
theorem e_109_20 {d : Nat} {h : mM} {T : mLs} {x : Nat} {st : List Value} : ev d 109 20 ( some (.ref x) :: T) st h = ev d 109 21 ( some (.ref x) :: T) (.ref x :: st) h := ev_of d_109_20 rfl
theorem d_109_21 : decode (cd 109) 21 = .ok (.getfield 20, 3) := by rw [cd_109]; decide +kernel
theorem e_109_21 {d : Nat} {h : mM} {L : mLs} {st : List Value} {a : Nat} : ev d 109 21 L (.ref a :: st) h = if mK h a = 10 then oB (mR h a 5) (fun b => ev d 109 24 L (.ref b :: st) h) else none := ev_gR d_109_21 (by decide +kernel) (by decide +kernel)
theorem d_109_24 : decode (cd 109) 24 = .ok (.iload_n 2, 1) := by rw [cd_109]; decide +kernel
theorem e_109_24 {d : Nat} {h : mM} {o0 o1 : Option Value} {T : mLs} {x : Int32} {st : List Value} : ev d 109 24 (o0 :: o1 :: some (.int x) :: T) st h = ev d 109 25 (o0 :: o1 :: some (.int x) :: T) (.int x :: st) h := ev_of d_109_24 rfl
theorem d_109_25 : decode (cd 109) 25 = .ok (.iaload, 1) := by rw [cd_109]; decide +kernel
theorem e_109_25 {d : Nat} {h : mM} {L : mLs} {st : List Value} {a : Nat} {i : Int32} : ev d 109 25 L (.int i :: .ref a :: st) h = if (mK h a = 11 ∨ mK h a = 19) ∧ ixOK i (mL h a) = true then ev d 109 26 L (.int (mI h a i.toNatClampNeg) :: st) h else none := ev_ia d_109_25
theorem d_109_26 : decode (cd 109) 26 = .ok (.imul, 1) := by rw [cd_109]; decide +kernel
theorem e_109_26 {d : Nat} {h : mM} {L : mLs} {st : List Value} {x y : Int32} : ev d 109 26 L (.int y :: .int x :: st) h = ev d 109 27 L (.int (x * y) :: st) h := ev_of d_109_26 rfl
theorem d_109_27 : decode (cd 109) 27 = .ok (.isub, 1) := by rw [cd_109]; decide +kernel
theorem e_109_27 {d : Nat} {h : mM} {L : mLs} {st : List Value} {x y : Int32} : ev d 109 27 L (.int y :: .int x :: st) h = ev d 109 28 L (.int (x - y) :: st) h := ev_of d_109_27 rfl
theorem d_109_28 : decode (cd 109) 28 = .ok (.invokestatic 105, 3) := by rw [cd_109]; decide +kernel
theorem e_109_28 {d : Nat} {h : mM} {L : mLs} {st : List Value} {x y : Int32} (hc : mCat st ≤ 8) : ev d 109 28 L (.int y :: .int x :: st) h = ev d 109 31 L (.int (if x < y then y else x) :: st) h := ev_max (mj := 0) d_109_28 (by decide +kernel) hc
theorem d_109_31 : decode (cd 109) 31 = .ok (.istore_n 3, 1) := by rw [cd_109]; decide +kernel
theorem e_109_31 {d : Nat} {h : mM} {o0 o1 o2 o3 : Option Value} {T : mLs} {x : Int32} {st : List Value} (hl : mLong o2 = false) : ev d 109 31 (o0 :: o1 :: o2 :: o3 :: T) (.int x :: st) h = ev d 109 32 (o0 :: o1 :: o2 :: some (.int x) :: T) st h := ev_st_in d_109_31 (by decide +kernel) (mS1_s (j := 2) hl)
theorem d_109_32 : decode (cd 109) 32 = .ok (.aload_n 1, 1) := by rw [cd_109]; decide +kernel
theorem e_109_32 {d : Nat} {h : mM} {o0 : Option Value} {T : mLs} {x : Nat} {st : List Value} : ev d 109 32 (o0 :: some (.ref x) :: T) st h = ev d 109 33 (o0 :: some (.ref x) :: T) (.ref x :: st) h := ev_of d_109_32 rfl
theorem d_109_33 : decode (cd 109) 33 = .ok (.iload_n 2, 1) := by rw [cd_109]; decide +kernel
theorem e_109_33 {d : Nat} {h : mM} {o0 o1 : Option Value} {T : mLs} {x : Int32} {st : List Value} : ev d 109 33 (o0 :: o1 :: some (.int x) :: T) st h = ev d 109 34 (o0 :: o1 :: some (.int x) :: T) (.int x :: st) h := ev_of d_109_33 rfl
theorem d_109_34 : decode (cd 109) 34 = .ok (.dup2, 1) := by rw [cd_109]; decide +kernel
theorem e_109_34 {d : Nat} {h : mM} {L : mLs} {st : List Value} {a : Nat} {i : Int32} : ev d 109 34 L (.int i :: .ref a :: st) h = ev d 109 35 L (.int i :: .ref a :: .int i :: .ref a :: st) h := ev_of d_109_34 rfl
theorem d_109_35 : decode (cd 109) 35 = .ok (.iaload, 1) := by rw [cd_109]; decide +kernel
theorem e_109_35 {d : Nat} {h : mM} {L : mLs} {st : List Value} {a : Nat} {i : Int32} : ev d 109 35 L (.int i :: .ref a :: st) h = if (mK h a = 11 ∨ mK h a = 19) ∧ ixOK i (mL h a) = true then ev d 109 36 L (.int (mI h a i.toNatClampNeg) :: st) h else none := ev_ia d_109_35
theorem d_109_36 : decode (cd 109) 36 = .ok (.iload_n 3, 1) := by rw [cd_109]; decide +kernel
theorem e_109_36 {d : Nat} {h : mM} {o0 o1 o2 : Option Value} {T : mLs} {x : Int32} {st : List Value} : ev d 109 36 (o0 :: o1 :: o2 :: some (.int x) :: T) st h = ev d 109 37 (o0 :: o1 :: o2 :: some (.int x) :: T) (.int x :: st) h := ev_of d_109_36 rfl
theorem d_109_37 : decode (cd 109) 37 = .ok (.isub, 1) := by rw [cd_109]; decide +kernel
theorem e_109_37 {d : Nat} {h : mM} {L : mLs} {st : List Value} {x y : Int32} : ev d 109 37 L (.int y :: .int x :: st) h = ev d 109 38 L (.int (x - y) :: st) h := ev_of d_109_37 rfl
theorem d_109_38 : decode (cd 109) 38 = .ok (.iastore, 1) := by rw [cd_109]; decide +kernel
theorem e_109_38 {d : Nat} {h : mM} {L : mLs} {st : List Value} {a : Nat} {i v : Int32} : ev d 109 38 L (.int v :: .int i :: .ref a :: st) h = if mK h a = 11 ∧ ixOK i (mL h a) = true then ev d 109 39 L st (wI h a i.toNatClampNeg v) else none := ev_is d_109_38
theorem d_109_39 : decode (cd 109) 39 = .ok (.aload_n 0, 1) := by rw [cd_109]; decide +kernel
theorem e_109_39 {d : Nat} {h : mM} {T : mLs} {x : Nat} {st : List Value} : ev d 109 39 ( some (.ref x) :: T) st h = ev d 109 40 ( some (.ref x) :: T) (.ref x :: st) h := ev_of d_109_39 rfl
theorem d_109_40 : decode (cd 109) 40 = .ok (.iconst 2, 1) := by rw [cd_109]; decide +kernel
theorem e_109_40 {d : Nat} {h : mM} {L : mLs} {st : List Value} : ev d 109 40 L st h = ev d 109 41 L (.int 2 :: st) h := ev_of d_109_40 rfl
theorem d_109_41 : decode (cd 109) 41 = .ok (.iload_n 3, 1) := by rw [cd_109]; decide +kernel
theorem e_109_41 {d : Nat} {h : mM} {o0 o1 o2 : Option Value} {T : mLs} {x : Int32} {st : List Value} : ev d 109 41 (o0 :: o1 :: o2 :: some (.int x) :: T) st h = ev d 109 42 (o0 :: o1 :: o2 :: some (.int x) :: T) (.int x :: st) h := ev_of d_109_41 rfl
theorem d_109_42 : decode (cd 109) 42 = .ok (.invokevirtual 161, 3) := by rw [cd_109]; decide +kernel
theorem e_109_42 {d : Nat} {h : mM} {L : mLs} {st : List Value} {a : Nat} {x0 : Int32} {x1 : Int32} (hc : mCat st ≤ 8) : ev (d + 1) 109 42 L (.int x1 :: .int x0 :: .ref a :: st) h = if mK h a = 10 then cV (ev d 101 0 [some (.ref a), some (.int x0), some (.int x1)] [] h) (fun v h1 => ev (d + 1) 109 45 L (v ++ st) h1) else none := ev_cv (mj := 101) (as := [.int x0, .int x1]) (rest := st) d_109_42 (by decide +kernel) rfl rfl (by show _ ≤ List.length _; simp only [List.length_cons]; have : na 101 = 2 := rfl; omega) rfl (Nat.le_of_ble_eq_true rfl) hc
theorem d_109_45 : decode (cd 109) 45 = .ok (.iinc 2 1, 3) := by rw [cd_109]; decide +kernel
theorem e_109_45 {d : Nat} {h : mM} {o0 o1 : Option Value} {T : mLs} {x : Int32} {st : List Value} (hl : mLong o1 = false) : ev d 109 45 (o0 :: o1 :: some (.int x) :: T) st h = ev d 109 48 (o0 :: o1 :: some (.int (x + 1)) :: T) st h := ev_inc d_109_45 (by decide +kernel) rfl rfl (mS1_s (j := 1) hl)
theorem d_109_48 : decode (cd 109) 48 = .ok (.goto (-46), 3) := by rw [cd_109]; decide +kernel
theorem e_109_48 {d : Nat} {h : mM} {L : mLs} {st : List Value} : ev d 109 48 L st h = ev d 109 2 L st h := ev_go d_109_48 (by decide)
theorem d_109_51 : decode (cd 109) 51 = .ok (.return_, 1) := by rw [cd_109]; decide +kernel
theorem e_109_51 {d : Nat} {h : mM} {L : mLs} : ev d 109 51 L [] h = some (none, h) := ev_rv d_109_51 (by decide +kernel)
-- 110: Model.goes
theorem cd_110 : cd 110 = prog_12_method_33_code := rfl
theorem d_110_0 : decode (cd 110) 0 = .ok (.aload_n 0, 1) := by rw [cd_110]; decide +kernel
theorem e_110_0 {d : Nat} {h : mM} {T : mLs} {x : Nat} {st : List Value} : ev d 110 0 ( some (.ref x) :: T) st h = ev d 110 1 ( some (.ref x) :: T) (.ref x :: st) h := ev_of d_110_0 rfl
theorem d_110_1 : decode (cd 110) 1 = .ok (.iload 4, 2) := by rw [cd_110]; decide +kernel
theorem e_110_1 {d : Nat} {h : mM} {o0 o1 o2 o3 : Option Value} {T : mLs} {x : Int32} {st : List Value} : ev d 110 1 (o0 :: o1 :: o2 :: o3 :: some (.int x) :: T) st h = ev d 110 3 (o0 :: o1 :: o2 :: o3 :: some (.int x) :: T) (.int x :: st) h := ev_of d_110_1 rfl
theorem d_110_3 : decode (cd 110) 3 = .ok (.putfield 154, 3) := by rw [cd_110]; decide +kernel
theorem e_110_3 {d : Nat} {h : mM} {L : mLs} {st : List Value} {a : Nat} {v : Int32} : ev d 110 3 L (.int v :: .ref a :: st) h = if mK h a = 10 ∧ mZO v = true then ev d 110 6 L st (wI h a 36 v) else none := ev_pZ d_110_3 (by decide +kernel) (by decide +kernel) (by decide +kernel)
theorem d_110_6 : decode (cd 110) 6 = .ok (.aload_n 0, 1) := by rw [cd_110]; decide +kernel
theorem e_110_6 {d : Nat} {h : mM} {T : mLs} {x : Nat} {st : List Value} : ev d 110 6 ( some (.ref x) :: T) st h = ev d 110 7 ( some (.ref x) :: T) (.ref x :: st) h := ev_of d_110_6 rfl
theorem d_110_7 : decode (cd 110) 7 = .ok (.iload_n 2, 1) := by rw [cd_110]; decide +kernel
theorem e_110_7 {d : Nat} {h : mM} {o0 o1 : Option Value} {T : mLs} {x : Int32} {st : List Value} : ev d 110 7 (o0 :: o1 :: some (.int x) :: T) st h = ev d 110 8 (o0 :: o1 :: some (.int x) :: T) (.int x :: st) h := ev_of d_110_7 rfl
theorem d_110_8 : decode (cd 110) 8 = .ok (.invokevirtual 127, 3) := by rw [cd_110]; decide +kernel
theorem e_110_8 {d : Nat} {h : mM} {L : mLs} {st : List Value} {a : Nat} {x0 : Int32} (hc : mCat st ≤ 8) : ev (d + 1) 110 8 L (.int x0 :: .ref a :: st) h = if mK h a = 10 then cV (ev d 85 0 [some (.ref a), some (.int x0)] [] h) (fun v h1 => ev (d + 1) 110 11 L (v ++ st) h1) else none := ev_cv (mj := 85) (as := [.int x0]) (rest := st) d_110_8 (by decide +kernel) rfl rfl (by show _ ≤ List.length _; simp only [List.length_cons]; have : na 85 = 1 := rfl; omega) rfl (Nat.le_of_ble_eq_true rfl) hc
theorem d_110_11 : decode (cd 110) 11 = .ok (.istore 5, 2) := by rw [cd_110]; decide +kernel
theorem e_110_11 {d : Nat} {h : mM} {o0 o1 o2 o3 o4 o5 : Option Value} {T : mLs} {x : Int32} {st : List Value} (hl : mLong o4 = false) : ev d 110 11 (o0 :: o1 :: o2 :: o3 :: o4 :: o5 :: T) (.int x :: st) h = ev d 110 13 (o0 :: o1 :: o2 :: o3 :: o4 :: some (.int x) :: T) st h := ev_st_i d_110_11 (by decide +kernel) (mS1_s (j := 4) hl)
theorem d_110_13 : decode (cd 110) 13 = .ok (.aload_n 0, 1) := by rw [cd_110]; decide +kernel
theorem e_110_13 {d : Nat} {h : mM} {T : mLs} {x : Nat} {st : List Value} : ev d 110 13 ( some (.ref x) :: T) st h = ev d 110 14 ( some (.ref x) :: T) (.ref x :: st) h := ev_of d_110_13 rfl
theorem d_110_14 : decode (cd 110) 14 = .ok (.aload_n 1, 1) := by rw [cd_110]; decide +kernel
theorem e_110_14 {d : Nat} {h : mM} {o0 : Option Value} {T : mLs} {x : Nat} {st : List Value} : ev d 110 14 (o0 :: some (.ref x) :: T) st h = ev d 110 15 (o0 :: some (.ref x) :: T) (.ref x :: st) h := ev_of d_110_14 rfl
theorem d_110_15 : decode (cd 110) 15 = .ok (.iload 5, 2) := by rw [cd_110]; decide +kernel
theorem e_110_15 {d : Nat} {h : mM} {o0 o1 o2 o3 o4 : Option Value} {T : mLs} {x : Int32} {st : List Value} : ev d 110 15 (o0 :: o1 :: o2 :: o3 :: o4 :: some (.int x) :: T) st h = ev d 110 17 (o0 :: o1 :: o2 :: o3 :: o4 :: some (.int x) :: T) (.int x :: st) h := ev_of d_110_15 rfl
theorem d_110_17 : decode (cd 110) 17 = .ok (.invokevirtual 180, 3) := by rw [cd_110]; decide +kernel
theorem e_110_17 {d : Nat} {h : mM} {L : mLs} {st : List Value} {a : Nat} {x0 : Nat} {x1 : Int32} (hc : mCat st ≤ 8) : ev (d + 1) 110 17 L (.int x1 :: .ref x0 :: .ref a :: st) h = if mK h a = 10 then cV (ev d 102 0 [some (.ref a), some (.ref x0), some (.int x1), none, none, none, none] [] h) (fun v h1 => ev (d + 1) 110 20 L (v ++ st) h1) else none := ev_cv (mj := 102) (as := [.ref x0, .int x1]) (rest := st) d_110_17 (by decide +kernel) rfl rfl (by show _ ≤ List.length _; simp only [List.length_cons]; have : na 102 = 2 := rfl; omega) rfl (Nat.le_of_ble_eq_true rfl) hc
theorem d_110_20 : decode (cd 110) 20 = .ok (.aload_n 0, 1) := by rw [cd_110]; decide +kernel
theorem e_110_20 {d : Nat} {h : mM} {T : mLs} {x : Nat} {st : List Value} : ev d 110 20 ( some (.ref x) :: T) st h = ev d 110 21 ( some (.ref x) :: T) (.ref x :: st) h := ev_of d_110_20 rfl
theorem d_110_21 : decode (cd 110) 21 = .ok (.aload_n 1, 1) := by rw [cd_110]; decide +kernel
theorem e_110_21 {d : Nat} {h : mM} {o0 : Option Value} {T : mLs} {x : Nat} {st : List Value} : ev d 110 21 (o0 :: some (.ref x) :: T) st h = ev d 110 22 (o0 :: some (.ref x) :: T) (.ref x :: st) h := ev_of d_110_21 rfl
theorem d_110_22 : decode (cd 110) 22 = .ok (.invokevirtual 184, 3) := by rw [cd_110]; decide +kernel
theorem e_110_22 {d : Nat} {h : mM} {L : mLs} {st : List Value} {a : Nat} {x0 : Nat} (hc : mCat st ≤ 8) : ev (d + 1) 110 22 L (.ref x0 :: .ref a :: st) h = if mK h a = 10 then cV (ev d 103 0 [some (.ref a), some (.ref x0), none, none, none, none, none, none, none, none] [] h) (fun v h1 => ev (d + 1) 110 25 L (v ++ st) h1) else none := ev_cv (mj := 103) (as := [.ref x0]) (rest := st) d_110_22 (by decide +kernel) rfl rfl (by show _ ≤ List.length _; simp only [List.length_cons]; have : na 103 = 1 := rfl; omega) rfl (Nat.le_of_ble_eq_true rfl) hc
theorem d_110_25 : decode (cd 110) 25 = .ok (.aload_n 0, 1) := by rw [cd_110]; decide +kernel
theorem e_110_25 {d : Nat} {h : mM} {T : mLs} {x : Nat} {st : List Value} : ev d 110 25 ( some (.ref x) :: T) st h = ev d 110 26 ( some (.ref x) :: T) (.ref x :: st) h := ev_of d_110_25 rfl
theorem d_110_26 : decode (cd 110) 26 = .ok (.aload_n 1, 1) := by rw [cd_110]; decide +kernel
theorem e_110_26 {d : Nat} {h : mM} {o0 : Option Value} {T : mLs} {x : Nat} {st : List Value} : ev d 110 26 (o0 :: some (.ref x) :: T) st h = ev d 110 27 (o0 :: some (.ref x) :: T) (.ref x :: st) h := ev_of d_110_26 rfl
theorem d_110_27 : decode (cd 110) 27 = .ok (.iload 5, 2) := by rw [cd_110]; decide +kernel
theorem e_110_27 {d : Nat} {h : mM} {o0 o1 o2 o3 o4 : Option Value} {T : mLs} {x : Int32} {st : List Value} : ev d 110 27 (o0 :: o1 :: o2 :: o3 :: o4 :: some (.int x) :: T) st h = ev d 110 29 (o0 :: o1 :: o2 :: o3 :: o4 :: some (.int x) :: T) (.int x :: st) h := ev_of d_110_27 rfl
theorem d_110_29 : decode (cd 110) 29 = .ok (.iload_n 3, 1) := by rw [cd_110]; decide +kernel
theorem e_110_29 {d : Nat} {h : mM} {o0 o1 o2 : Option Value} {T : mLs} {x : Int32} {st : List Value} : ev d 110 29 (o0 :: o1 :: o2 :: some (.int x) :: T) st h = ev d 110 30 (o0 :: o1 :: o2 :: some (.int x) :: T) (.int x :: st) h := ev_of d_110_29 rfl
theorem d_110_30 : decode (cd 110) 30 = .ok (.invokevirtual 188, 3) := by rw [cd_110]; decide +kernel
theorem e_110_30 {d : Nat} {h : mM} {L : mLs} {st : List Value} {a : Nat} {x0 : Nat} {x1 : Int32} {x2 : Int32} (hc : mCat st ≤ 8) : ev (d + 1) 110 30 L (.int x2 :: .int x1 :: .ref x0 :: .ref a :: st) h = if mK h a = 10 then cV (ev d 105 0 [some (.ref a), some (.ref x0), some (.int x1), some (.int x2), none, none, none] [] h) (fun v h1 => ev (d + 1) 110 33 L (v ++ st) h1) else none := ev_cv (mj := 105) (as := [.ref x0, .int x1, .int x2]) (rest := st) d_110_30 (by decide +kernel) rfl rfl (by show _ ≤ List.length _; simp only [List.length_cons]; have : na 105 = 3 := rfl; omega) rfl (Nat.le_of_ble_eq_true rfl) hc
theorem d_110_33 : decode (cd 110) 33 = .ok (.aload_n 0, 1) := by rw [cd_110]; decide +kernel
theorem e_110_33 {d : Nat} {h : mM} {T : mLs} {x : Nat} {st : List Value} : ev d 110 33 ( some (.ref x) :: T) st h = ev d 110 34 ( some (.ref x) :: T) (.ref x :: st) h := ev_of d_110_33 rfl
theorem d_110_34 : decode (cd 110) 34 = .ok (.aload_n 1, 1) := by rw [cd_110]; decide +kernel
theorem e_110_34 {d : Nat} {h : mM} {o0 : Option Value} {T : mLs} {x : Nat} {st : List Value} : ev d 110 34 (o0 :: some (.ref x) :: T) st h = ev d 110 35 (o0 :: some (.ref x) :: T) (.ref x :: st) h := ev_of d_110_34 rfl
theorem d_110_35 : decode (cd 110) 35 = .ok (.invokevirtual 192, 3) := by rw [cd_110]; decide +kernel
theorem e_110_35 {d : Nat} {h : mM} {L : mLs} {st : List Value} {a : Nat} {x0 : Nat} (hc : mCat st ≤ 8) : ev (d + 1) 110 35 L (.ref x0 :: .ref a :: st) h = if mK h a = 10 then cV (ev d 109 0 [some (.ref a), some (.ref x0), none, none] [] h) (fun v h1 => ev (d + 1) 110 38 L (v ++ st) h1) else none := ev_cv (mj := 109) (as := [.ref x0]) (rest := st) d_110_35 (by decide +kernel) rfl rfl (by show _ ≤ List.length _; simp only [List.length_cons]; have : na 109 = 1 := rfl; omega) rfl (Nat.le_of_ble_eq_true rfl) hc
theorem d_110_38 : decode (cd 110) 38 = .ok (.return_, 1) := by rw [cd_110]; decide +kernel
theorem e_110_38 {d : Nat} {h : mM} {L : mLs} : ev d 110 38 L [] h = some (none, h) := ev_rv d_110_38 (by decide +kernel)
-- 111: Model.begin
theorem cd_111 : cd 111 = prog_12_method_34_code := rfl
theorem d_111_0 : decode (cd 111) 0 = .ok (.iconst 0, 1) := by rw [cd_111]; decide +kernel
theorem e_111_0 {d : Nat} {h : mM} {L : mLs} {st : List Value} : ev d 111 0 L st h = ev d 111 1 L (.int 0 :: st) h := ev_of d_111_0 rfl
theorem d_111_1 : decode (cd 111) 1 = .ok (.istore_n 1, 1) := by rw [cd_111]; decide +kernel
theorem e_111_1 {d : Nat} {h : mM} {o0 o1 : Option Value} {T : mLs} {x : Int32} {st : List Value} (hl : mLong o0 = false) : ev d 111 1 (o0 :: o1 :: T) (.int x :: st) h = ev d 111 2 (o0 :: some (.int x) :: T) st h := ev_st_in d_111_1 (by decide +kernel) (mS1_s (j := 0) hl)
theorem d_111_2 : decode (cd 111) 2 = .ok (.iload_n 1, 1) := by rw [cd_111]; decide +kernel
theorem e_111_2 {d : Nat} {h : mM} {o0 : Option Value} {T : mLs} {x : Int32} {st : List Value} : ev d 111 2 (o0 :: some (.int x) :: T) st h = ev d 111 3 (o0 :: some (.int x) :: T) (.int x :: st) h := ev_of d_111_2 rfl
theorem d_111_3 : decode (cd 111) 3 = .ok (.aload_n 0, 1) := by rw [cd_111]; decide +kernel
theorem e_111_3 {d : Nat} {h : mM} {T : mLs} {x : Nat} {st : List Value} : ev d 111 3 ( some (.ref x) :: T) st h = ev d 111 4 ( some (.ref x) :: T) (.ref x :: st) h := ev_of d_111_3 rfl
theorem d_111_4 : decode (cd 111) 4 = .ok (.getfield 111, 3) := by rw [cd_111]; decide +kernel
theorem e_111_4 {d : Nat} {h : mM} {L : mLs} {st : List Value} {a : Nat} : ev d 111 4 L (.ref a :: st) h = if mK h a = 10 then ev d 111 7 L (.int (mI h a 3) :: st) h else none := ev_gI d_111_4 (by decide +kernel) (by decide +kernel)
theorem d_111_7 : decode (cd 111) 7 = .ok (.if_icmp .ge 21, 3) := by rw [cd_111]; decide +kernel
theorem e_111_7 {d : Nat} {h : mM} {L : mLs} {st : List Value} {x y : Int32} : ev d 111 7 L (.int y :: .int x :: st) h = if y ≤ x then ev d 111 28 L st h else ev d 111 10 L st h := ev_ic (y ≤ x) inferInstance rfl d_111_7 (by decide)
theorem d_111_10 : decode (cd 111) 10 = .ok (.aload_n 0, 1) := by rw [cd_111]; decide +kernel
theorem e_111_10 {d : Nat} {h : mM} {T : mLs} {x : Nat} {st : List Value} : ev d 111 10 ( some (.ref x) :: T) st h = ev d 111 11 ( some (.ref x) :: T) (.ref x :: st) h := ev_of d_111_10 rfl
theorem d_111_11 : decode (cd 111) 11 = .ok (.getfield 93, 3) := by rw [cd_111]; decide +kernel
theorem e_111_11 {d : Nat} {h : mM} {L : mLs} {st : List Value} {a : Nat} : ev d 111 11 L (.ref a :: st) h = if mK h a = 10 then oB (mR h a 33) (fun b => ev d 111 14 L (.ref b :: st) h) else none := ev_gR d_111_11 (by decide +kernel) (by decide +kernel)
theorem d_111_14 : decode (cd 111) 14 = .ok (.iload_n 1, 1) := by rw [cd_111]; decide +kernel
theorem e_111_14 {d : Nat} {h : mM} {o0 : Option Value} {T : mLs} {x : Int32} {st : List Value} : ev d 111 14 (o0 :: some (.int x) :: T) st h = ev d 111 15 (o0 :: some (.int x) :: T) (.int x :: st) h := ev_of d_111_14 rfl
theorem d_111_15 : decode (cd 111) 15 = .ok (.aload_n 0, 1) := by rw [cd_111]; decide +kernel
theorem e_111_15 {d : Nat} {h : mM} {T : mLs} {x : Nat} {st : List Value} : ev d 111 15 ( some (.ref x) :: T) st h = ev d 111 16 ( some (.ref x) :: T) (.ref x :: st) h := ev_of d_111_15 rfl
theorem d_111_16 : decode (cd 111) 16 = .ok (.getfield 29, 3) := by rw [cd_111]; decide +kernel
theorem e_111_16 {d : Nat} {h : mM} {L : mLs} {st : List Value} {a : Nat} : ev d 111 16 L (.ref a :: st) h = if mK h a = 10 then oB (mR h a 8) (fun b => ev d 111 19 L (.ref b :: st) h) else none := ev_gR d_111_16 (by decide +kernel) (by decide +kernel)
theorem d_111_19 : decode (cd 111) 19 = .ok (.iload_n 1, 1) := by rw [cd_111]; decide +kernel
theorem e_111_19 {d : Nat} {h : mM} {o0 : Option Value} {T : mLs} {x : Int32} {st : List Value} : ev d 111 19 (o0 :: some (.int x) :: T) st h = ev d 111 20 (o0 :: some (.int x) :: T) (.int x :: st) h := ev_of d_111_19 rfl
theorem d_111_20 : decode (cd 111) 20 = .ok (.iaload, 1) := by rw [cd_111]; decide +kernel
theorem e_111_20 {d : Nat} {h : mM} {L : mLs} {st : List Value} {a : Nat} {i : Int32} : ev d 111 20 L (.int i :: .ref a :: st) h = if (mK h a = 11 ∨ mK h a = 19) ∧ ixOK i (mL h a) = true then ev d 111 21 L (.int (mI h a i.toNatClampNeg) :: st) h else none := ev_ia d_111_20
theorem d_111_21 : decode (cd 111) 21 = .ok (.iastore, 1) := by rw [cd_111]; decide +kernel
theorem e_111_21 {d : Nat} {h : mM} {L : mLs} {st : List Value} {a : Nat} {i v : Int32} : ev d 111 21 L (.int v :: .int i :: .ref a :: st) h = if mK h a = 11 ∧ ixOK i (mL h a) = true then ev d 111 22 L st (wI h a i.toNatClampNeg v) else none := ev_is d_111_21
theorem d_111_22 : decode (cd 111) 22 = .ok (.iinc 1 1, 3) := by rw [cd_111]; decide +kernel
theorem e_111_22 {d : Nat} {h : mM} {o0 : Option Value} {T : mLs} {x : Int32} {st : List Value} (hl : mLong o0 = false) : ev d 111 22 (o0 :: some (.int x) :: T) st h = ev d 111 25 (o0 :: some (.int (x + 1)) :: T) st h := ev_inc d_111_22 (by decide +kernel) rfl rfl (mS1_s (j := 0) hl)
theorem d_111_25 : decode (cd 111) 25 = .ok (.goto (-23), 3) := by rw [cd_111]; decide +kernel
theorem e_111_25 {d : Nat} {h : mM} {L : mLs} {st : List Value} : ev d 111 25 L st h = ev d 111 2 L st h := ev_go d_111_25 (by decide)
theorem d_111_28 : decode (cd 111) 28 = .ok (.return_, 1) := by rw [cd_111]; decide +kernel
theorem e_111_28 {d : Nat} {h : mM} {L : mLs} : ev d 111 28 L [] h = some (none, h) := ev_rv d_111_28 (by decide +kernel)
-- 112: Model.hours
theorem cd_112 : cd 112 = prog_12_method_35_code := rfl
theorem d_112_0 : decode (cd 112) 0 = .ok (.iload_n 1, 1) := by rw [cd_112]; decide +kernel
theorem e_112_0 {d : Nat} {h : mM} {o0 : Option Value} {T : mLs} {x : Int32} {st : List Value} : ev d 112 0 (o0 :: some (.int x) :: T) st h = ev d 112 1 (o0 :: some (.int x) :: T) (.int x :: st) h := ev_of d_112_0 rfl
theorem d_112_1 : decode (cd 112) 1 = .ok (.iconst 1, 1) := by rw [cd_112]; decide +kernel
theorem e_112_1 {d : Nat} {h : mM} {L : mLs} {st : List Value} : ev d 112 1 L st h = ev d 112 2 L (.int 1 :: st) h := ev_of d_112_1 rfl
theorem d_112_2 : decode (cd 112) 2 = .ok (.bipush 100, 2) := by rw [cd_112]; decide +kernel
theorem e_112_2 {d : Nat} {h : mM} {L : mLs} {st : List Value} : ev d 112 2 L st h = ev d 112 4 L (.int 100 :: st) h := ev_of d_112_2 rfl
theorem d_112_4 : decode (cd 112) 4 = .ok (.invokestatic 114, 3) := by rw [cd_112]; decide +kernel
theorem e_112_4 {d : Nat} {h : mM} {L : mLs} {st : List Value} {x0 : Int32} {x1 : Int32} {x2 : Int32} (hc : mCat st ≤ 8) : ev (d + 1) 112 4 L (.int x2 :: .int x1 :: .int x0 :: st) h = cV (ev d 80 0 [some (.int x0), some (.int x1), some (.int x2)] [] h) (fun v h1 => ev (d + 1) 112 7 L (v ++ st) h1) := ev_cs (kd := 1) (mj := 80) (as := [.int x0, .int x1, .int x2]) (rest := st) d_112_4 (by decide +kernel) (by decide) rfl rfl (by show _ ≤ List.length _; simp only [List.length_cons]; have : na 80 = 3 := rfl; omega) rfl (Nat.le_of_ble_eq_true rfl) hc
theorem d_112_7 : decode (cd 112) 7 = .ok (.ifCond .ne 11, 3) := by rw [cd_112]; decide +kernel
theorem e_112_7 {d : Nat} {h : mM} {L : mLs} {st : List Value} {x : Int32} : ev d 112 7 L (.int x :: st) h = if ¬ x = 0 then ev d 112 18 L st h else ev d 112 10 L st h := ev_if (¬ x = 0) inferInstance rfl d_112_7 (by decide)
theorem d_112_10 : decode (cd 112) 10 = .ok (.aload_n 0, 1) := by rw [cd_112]; decide +kernel
theorem e_112_10 {d : Nat} {h : mM} {T : mLs} {x : Nat} {st : List Value} : ev d 112 10 ( some (.ref x) :: T) st h = ev d 112 11 ( some (.ref x) :: T) (.ref x :: st) h := ev_of d_112_10 rfl
theorem d_112_11 : decode (cd 112) 11 = .ok (.ldc2_w 121, 3) := by rw [cd_112]; decide +kernel
theorem e_112_11 {d : Nat} {h : mM} {L : mLs} {st : List Value} : ev d 112 11 L st h = ev d 112 14 L (.long (-1000000001) :: st) h := ev_of d_112_11 rfl
theorem d_112_14 : decode (cd 112) 14 = .ok (.invokevirtual 123, 3) := by rw [cd_112]; decide +kernel
theorem e_112_14 {d : Nat} {h : mM} {L : mLs} {st : List Value} {a : Nat} {x0 : Int64} (hc : mCat st ≤ 8) : ev (d + 1) 112 14 L (.long x0 :: .ref a :: st) h = if mK h a = 10 then cV (ev d 79 0 [some (.ref a), some (.long x0), none] [] h) (fun v h1 => ev (d + 1) 112 17 L (v ++ st) h1) else none := ev_cv (mj := 79) (as := [.long x0]) (rest := st) d_112_14 (by decide +kernel) rfl rfl (by show _ ≤ List.length _; simp only [List.length_cons]; have : na 79 = 1 := rfl; omega) rfl (Nat.le_of_ble_eq_true rfl) hc
theorem d_112_17 : decode (cd 112) 17 = .ok (.lreturn, 1) := by rw [cd_112]; decide +kernel
theorem e_112_17 {d : Nat} {h : mM} {L : mLs} {v : Int64} : ev d 112 17 L [.long v] h = some (some (.long v), h) := ev_rl d_112_17 (by decide +kernel)
theorem d_112_18 : decode (cd 112) 18 = .ok (.aload_n 0, 1) := by rw [cd_112]; decide +kernel
theorem e_112_18 {d : Nat} {h : mM} {T : mLs} {x : Nat} {st : List Value} : ev d 112 18 ( some (.ref x) :: T) st h = ev d 112 19 ( some (.ref x) :: T) (.ref x :: st) h := ev_of d_112_18 rfl
theorem d_112_19 : decode (cd 112) 19 = .ok (.getfield 147, 3) := by rw [cd_112]; decide +kernel
theorem e_112_19 {d : Nat} {h : mM} {L : mLs} {st : List Value} {a : Nat} : ev d 112 19 L (.ref a :: st) h = if mK h a = 10 then ev d 112 22 L (.int (mI h a 0) :: st) h else none := ev_gI d_112_19 (by decide +kernel) (by decide +kernel)
theorem d_112_22 : decode (cd 112) 22 = .ok (.iload_n 1, 1) := by rw [cd_112]; decide +kernel
theorem e_112_22 {d : Nat} {h : mM} {o0 : Option Value} {T : mLs} {x : Int32} {st : List Value} : ev d 112 22 (o0 :: some (.int x) :: T) st h = ev d 112 23 (o0 :: some (.int x) :: T) (.int x :: st) h := ev_of d_112_22 rfl
theorem d_112_23 : decode (cd 112) 23 = .ok (.iadd, 1) := by rw [cd_112]; decide +kernel
theorem e_112_23 {d : Nat} {h : mM} {L : mLs} {st : List Value} {x y : Int32} : ev d 112 23 L (.int y :: .int x :: st) h = ev d 112 24 L (.int (x + y) :: st) h := ev_of d_112_23 rfl
theorem d_112_24 : decode (cd 112) 24 = .ok (.sipush 10000, 3) := by rw [cd_112]; decide +kernel
theorem e_112_24 {d : Nat} {h : mM} {L : mLs} {st : List Value} : ev d 112 24 L st h = ev d 112 27 L (.int 10000 :: st) h := ev_of d_112_24 rfl
theorem d_112_27 : decode (cd 112) 27 = .ok (.if_icmp .le 11, 3) := by rw [cd_112]; decide +kernel
theorem e_112_27 {d : Nat} {h : mM} {L : mLs} {st : List Value} {x y : Int32} : ev d 112 27 L (.int y :: .int x :: st) h = if x ≤ y then ev d 112 38 L st h else ev d 112 30 L st h := ev_ic (x ≤ y) inferInstance rfl d_112_27 (by decide)
theorem d_112_30 : decode (cd 112) 30 = .ok (.aload_n 0, 1) := by rw [cd_112]; decide +kernel
theorem e_112_30 {d : Nat} {h : mM} {T : mLs} {x : Nat} {st : List Value} : ev d 112 30 ( some (.ref x) :: T) st h = ev d 112 31 ( some (.ref x) :: T) (.ref x :: st) h := ev_of d_112_30 rfl
theorem d_112_31 : decode (cd 112) 31 = .ok (.ldc2_w 130, 3) := by rw [cd_112]; decide +kernel
theorem e_112_31 {d : Nat} {h : mM} {L : mLs} {st : List Value} : ev d 112 31 L st h = ev d 112 34 L (.long (-1000000004) :: st) h := ev_of d_112_31 rfl
theorem d_112_34 : decode (cd 112) 34 = .ok (.invokevirtual 123, 3) := by rw [cd_112]; decide +kernel
theorem e_112_34 {d : Nat} {h : mM} {L : mLs} {st : List Value} {a : Nat} {x0 : Int64} (hc : mCat st ≤ 8) : ev (d + 1) 112 34 L (.long x0 :: .ref a :: st) h = if mK h a = 10 then cV (ev d 79 0 [some (.ref a), some (.long x0), none] [] h) (fun v h1 => ev (d + 1) 112 37 L (v ++ st) h1) else none := ev_cv (mj := 79) (as := [.long x0]) (rest := st) d_112_34 (by decide +kernel) rfl rfl (by show _ ≤ List.length _; simp only [List.length_cons]; have : na 79 = 1 := rfl; omega) rfl (Nat.le_of_ble_eq_true rfl) hc
theorem d_112_37 : decode (cd 112) 37 = .ok (.lreturn, 1) := by rw [cd_112]; decide +kernel
theorem e_112_37 {d : Nat} {h : mM} {L : mLs} {v : Int64} : ev d 112 37 L [.long v] h = some (some (.long v), h) := ev_rl d_112_37 (by decide +kernel)
theorem d_112_38 : decode (cd 112) 38 = .ok (.lconst 0, 1) := by rw [cd_112]; decide +kernel
theorem e_112_38 {d : Nat} {h : mM} {L : mLs} {st : List Value} : ev d 112 38 L st h = ev d 112 39 L (.long 0 :: st) h := ev_of d_112_38 rfl
theorem d_112_39 : decode (cd 112) 39 = .ok (.lstore_n 2, 1) := by rw [cd_112]; decide +kernel
theorem e_112_39 {d : Nat} {h : mM} {o0 o1 o2 o3 : Option Value} {T : mLs} {x : Int64} {st : List Value} (hl : mLong o1 = false) : ev d 112 39 (o0 :: o1 :: o2 :: o3 :: T) (.long x :: st) h = ev d 112 40 (o0 :: o1 :: some (.long x) :: none :: T) st h := ev_st_ln d_112_39 (by decide +kernel) (mS2_s (j := 1) hl)
theorem d_112_40 : decode (cd 112) 40 = .ok (.iconst 0, 1) := by rw [cd_112]; decide +kernel
theorem e_112_40 {d : Nat} {h : mM} {L : mLs} {st : List Value} : ev d 112 40 L st h = ev d 112 41 L (.int 0 :: st) h := ev_of d_112_40 rfl
theorem d_112_41 : decode (cd 112) 41 = .ok (.istore 4, 2) := by rw [cd_112]; decide +kernel
theorem e_112_41 {d : Nat} {h : mM} {o0 o1 o2 o3 o4 : Option Value} {T : mLs} {x : Int32} {st : List Value} (hl : mLong o3 = false) : ev d 112 41 (o0 :: o1 :: o2 :: o3 :: o4 :: T) (.int x :: st) h = ev d 112 43 (o0 :: o1 :: o2 :: o3 :: some (.int x) :: T) st h := ev_st_i d_112_41 (by decide +kernel) (mS1_s (j := 3) hl)
theorem d_112_43 : decode (cd 112) 43 = .ok (.iload 4, 2) := by rw [cd_112]; decide +kernel
theorem e_112_43 {d : Nat} {h : mM} {o0 o1 o2 o3 : Option Value} {T : mLs} {x : Int32} {st : List Value} : ev d 112 43 (o0 :: o1 :: o2 :: o3 :: some (.int x) :: T) st h = ev d 112 45 (o0 :: o1 :: o2 :: o3 :: some (.int x) :: T) (.int x :: st) h := ev_of d_112_43 rfl
theorem d_112_45 : decode (cd 112) 45 = .ok (.iload_n 1, 1) := by rw [cd_112]; decide +kernel
theorem e_112_45 {d : Nat} {h : mM} {o0 : Option Value} {T : mLs} {x : Int32} {st : List Value} : ev d 112 45 (o0 :: some (.int x) :: T) st h = ev d 112 46 (o0 :: some (.int x) :: T) (.int x :: st) h := ev_of d_112_45 rfl
theorem d_112_46 : decode (cd 112) 46 = .ok (.if_icmp .ge 79, 3) := by rw [cd_112]; decide +kernel
theorem e_112_46 {d : Nat} {h : mM} {L : mLs} {st : List Value} {x y : Int32} : ev d 112 46 L (.int y :: .int x :: st) h = if y ≤ x then ev d 112 125 L st h else ev d 112 49 L st h := ev_ic (y ≤ x) inferInstance rfl d_112_46 (by decide)
theorem d_112_49 : decode (cd 112) 49 = .ok (.aload_n 0, 1) := by rw [cd_112]; decide +kernel
theorem e_112_49 {d : Nat} {h : mM} {T : mLs} {x : Nat} {st : List Value} : ev d 112 49 ( some (.ref x) :: T) st h = ev d 112 50 ( some (.ref x) :: T) (.ref x :: st) h := ev_of d_112_49 rfl
theorem d_112_50 : decode (cd 112) 50 = .ok (.aload_n 0, 1) := by rw [cd_112]; decide +kernel
theorem e_112_50 {d : Nat} {h : mM} {T : mLs} {x : Nat} {st : List Value} : ev d 112 50 ( some (.ref x) :: T) st h = ev d 112 51 ( some (.ref x) :: T) (.ref x :: st) h := ev_of d_112_50 rfl
theorem d_112_51 : decode (cd 112) 51 = .ok (.getfield 29, 3) := by rw [cd_112]; decide +kernel
theorem e_112_51 {d : Nat} {h : mM} {L : mLs} {st : List Value} {a : Nat} : ev d 112 51 L (.ref a :: st) h = if mK h a = 10 then oB (mR h a 8) (fun b => ev d 112 54 L (.ref b :: st) h) else none := ev_gR d_112_51 (by decide +kernel) (by decide +kernel)
theorem d_112_54 : decode (cd 112) 54 = .ok (.aload_n 0, 1) := by rw [cd_112]; decide +kernel
theorem e_112_54 {d : Nat} {h : mM} {T : mLs} {x : Nat} {st : List Value} : ev d 112 54 ( some (.ref x) :: T) st h = ev d 112 55 ( some (.ref x) :: T) (.ref x :: st) h := ev_of d_112_54 rfl
theorem d_112_55 : decode (cd 112) 55 = .ok (.getfield 147, 3) := by rw [cd_112]; decide +kernel
theorem e_112_55 {d : Nat} {h : mM} {L : mLs} {st : List Value} {a : Nat} : ev d 112 55 L (.ref a :: st) h = if mK h a = 10 then ev d 112 58 L (.int (mI h a 0) :: st) h else none := ev_gI d_112_55 (by decide +kernel) (by decide +kernel)
theorem d_112_58 : decode (cd 112) 58 = .ok (.aload_n 0, 1) := by rw [cd_112]; decide +kernel
theorem e_112_58 {d : Nat} {h : mM} {T : mLs} {x : Nat} {st : List Value} : ev d 112 58 ( some (.ref x) :: T) st h = ev d 112 59 ( some (.ref x) :: T) (.ref x :: st) h := ev_of d_112_58 rfl
theorem d_112_59 : decode (cd 112) 59 = .ok (.getfield 144, 3) := by rw [cd_112]; decide +kernel
theorem e_112_59 {d : Nat} {h : mM} {L : mLs} {st : List Value} {a : Nat} : ev d 112 59 L (.ref a :: st) h = if mK h a = 10 then ev d 112 62 L (.int (mI h a 24) :: st) h else none := ev_gI d_112_59 (by decide +kernel) (by decide +kernel)
theorem d_112_62 : decode (cd 112) 62 = .ok (.iconst 1, 1) := by rw [cd_112]; decide +kernel
theorem e_112_62 {d : Nat} {h : mM} {L : mLs} {st : List Value} : ev d 112 62 L st h = ev d 112 63 L (.int 1 :: st) h := ev_of d_112_62 rfl
theorem d_112_63 : decode (cd 112) 63 = .ok (.invokevirtual 195, 3) := by rw [cd_112]; decide +kernel
theorem e_112_63 {d : Nat} {h : mM} {L : mLs} {st : List Value} {a : Nat} {x0 : Nat} {x1 : Int32} {x2 : Int32} {x3 : Int32} (hc : mCat st ≤ 8) : ev (d + 1) 112 63 L (.int x3 :: .int x2 :: .int x1 :: .ref x0 :: .ref a :: st) h = if mK h a = 10 then cV (ev d 110 0 [some (.ref a), some (.ref x0), some (.int x1), some (.int x2), some (.int x3), none] [] h) (fun v h1 => ev (d + 1) 112 66 L (v ++ st) h1) else none := ev_cv (mj := 110) (as := [.ref x0, .int x1, .int x2, .int x3]) (rest := st) d_112_63 (by decide +kernel) rfl rfl (by show _ ≤ List.length _; simp only [List.length_cons]; have : na 110 = 4 := rfl; omega) rfl (Nat.le_of_ble_eq_true rfl) hc
theorem d_112_66 : decode (cd 112) 66 = .ok (.iconst 0, 1) := by rw [cd_112]; decide +kernel
theorem e_112_66 {d : Nat} {h : mM} {L : mLs} {st : List Value} : ev d 112 66 L st h = ev d 112 67 L (.int 0 :: st) h := ev_of d_112_66 rfl
theorem d_112_67 : decode (cd 112) 67 = .ok (.istore 5, 2) := by rw [cd_112]; decide +kernel
theorem e_112_67 {d : Nat} {h : mM} {o0 o1 o2 o3 o4 o5 : Option Value} {T : mLs} {x : Int32} {st : List Value} (hl : mLong o4 = false) : ev d 112 67 (o0 :: o1 :: o2 :: o3 :: o4 :: o5 :: T) (.int x :: st) h = ev d 112 69 (o0 :: o1 :: o2 :: o3 :: o4 :: some (.int x) :: T) st h := ev_st_i d_112_67 (by decide +kernel) (mS1_s (j := 4) hl)
theorem d_112_69 : decode (cd 112) 69 = .ok (.iload 5, 2) := by rw [cd_112]; decide +kernel
theorem e_112_69 {d : Nat} {h : mM} {o0 o1 o2 o3 o4 : Option Value} {T : mLs} {x : Int32} {st : List Value} : ev d 112 69 (o0 :: o1 :: o2 :: o3 :: o4 :: some (.int x) :: T) st h = ev d 112 71 (o0 :: o1 :: o2 :: o3 :: o4 :: some (.int x) :: T) (.int x :: st) h := ev_of d_112_69 rfl
theorem d_112_71 : decode (cd 112) 71 = .ok (.aload_n 0, 1) := by rw [cd_112]; decide +kernel
theorem e_112_71 {d : Nat} {h : mM} {T : mLs} {x : Nat} {st : List Value} : ev d 112 71 ( some (.ref x) :: T) st h = ev d 112 72 ( some (.ref x) :: T) (.ref x :: st) h := ev_of d_112_71 rfl
theorem d_112_72 : decode (cd 112) 72 = .ok (.getfield 118, 3) := by rw [cd_112]; decide +kernel
theorem e_112_72 {d : Nat} {h : mM} {L : mLs} {st : List Value} {a : Nat} : ev d 112 72 L (.ref a :: st) h = if mK h a = 10 then ev d 112 75 L (.int (mI h a 13) :: st) h else none := ev_gI d_112_72 (by decide +kernel) (by decide +kernel)
theorem d_112_75 : decode (cd 112) 75 = .ok (.if_icmp .ge 34, 3) := by rw [cd_112]; decide +kernel
theorem e_112_75 {d : Nat} {h : mM} {L : mLs} {st : List Value} {x y : Int32} : ev d 112 75 L (.int y :: .int x :: st) h = if y ≤ x then ev d 112 109 L st h else ev d 112 78 L st h := ev_ic (y ≤ x) inferInstance rfl d_112_75 (by decide)
theorem d_112_78 : decode (cd 112) 78 = .ok (.lload_n 2, 1) := by rw [cd_112]; decide +kernel
theorem e_112_78 {d : Nat} {h : mM} {o0 o1 : Option Value} {T : mLs} {x : Int64} {st : List Value} : ev d 112 78 (o0 :: o1 :: some (.long x) :: T) st h = ev d 112 79 (o0 :: o1 :: some (.long x) :: T) (.long x :: st) h := ev_of d_112_78 rfl
theorem d_112_79 : decode (cd 112) 79 = .ok (.aload_n 0, 1) := by rw [cd_112]; decide +kernel
theorem e_112_79 {d : Nat} {h : mM} {T : mLs} {x : Nat} {st : List Value} : ev d 112 79 ( some (.ref x) :: T) st h = ev d 112 80 ( some (.ref x) :: T) (.ref x :: st) h := ev_of d_112_79 rfl
theorem d_112_80 : decode (cd 112) 80 = .ok (.getfield 41, 3) := by rw [cd_112]; decide +kernel
theorem e_112_80 {d : Nat} {h : mM} {L : mLs} {st : List Value} {a : Nat} : ev d 112 80 L (.ref a :: st) h = if mK h a = 10 then oB (mR h a 14) (fun b => ev d 112 83 L (.ref b :: st) h) else none := ev_gR d_112_80 (by decide +kernel) (by decide +kernel)
theorem d_112_83 : decode (cd 112) 83 = .ok (.iload 5, 2) := by rw [cd_112]; decide +kernel
theorem e_112_83 {d : Nat} {h : mM} {o0 o1 o2 o3 o4 : Option Value} {T : mLs} {x : Int32} {st : List Value} : ev d 112 83 (o0 :: o1 :: o2 :: o3 :: o4 :: some (.int x) :: T) st h = ev d 112 85 (o0 :: o1 :: o2 :: o3 :: o4 :: some (.int x) :: T) (.int x :: st) h := ev_of d_112_83 rfl
theorem d_112_85 : decode (cd 112) 85 = .ok (.iaload, 1) := by rw [cd_112]; decide +kernel
theorem e_112_85 {d : Nat} {h : mM} {L : mLs} {st : List Value} {a : Nat} {i : Int32} : ev d 112 85 L (.int i :: .ref a :: st) h = if (mK h a = 11 ∨ mK h a = 19) ∧ ixOK i (mL h a) = true then ev d 112 86 L (.int (mI h a i.toNatClampNeg) :: st) h else none := ev_ia d_112_85
theorem d_112_86 : decode (cd 112) 86 = .ok (.iconst 2, 1) := by rw [cd_112]; decide +kernel
theorem e_112_86 {d : Nat} {h : mM} {L : mLs} {st : List Value} : ev d 112 86 L st h = ev d 112 87 L (.int 2 :: st) h := ev_of d_112_86 rfl
theorem d_112_87 : decode (cd 112) 87 = .ok (.if_icmp .ne 7, 3) := by rw [cd_112]; decide +kernel
theorem e_112_87 {d : Nat} {h : mM} {L : mLs} {st : List Value} {x y : Int32} : ev d 112 87 L (.int y :: .int x :: st) h = if ¬ x = y then ev d 112 94 L st h else ev d 112 90 L st h := ev_ic (¬ x = y) inferInstance rfl d_112_87 (by decide)
theorem d_112_90 : decode (cd 112) 90 = .ok (.lconst 0, 1) := by rw [cd_112]; decide +kernel
theorem e_112_90 {d : Nat} {h : mM} {L : mLs} {st : List Value} : ev d 112 90 L st h = ev d 112 91 L (.long 0 :: st) h := ev_of d_112_90 rfl
theorem d_112_91 : decode (cd 112) 91 = .ok (.goto 10, 3) := by rw [cd_112]; decide +kernel
theorem e_112_91 {d : Nat} {h : mM} {L : mLs} {st : List Value} : ev d 112 91 L st h = ev d 112 101 L st h := ev_go d_112_91 (by decide)
theorem d_112_94 : decode (cd 112) 94 = .ok (.aload_n 0, 1) := by rw [cd_112]; decide +kernel
theorem e_112_94 {d : Nat} {h : mM} {T : mLs} {x : Nat} {st : List Value} : ev d 112 94 ( some (.ref x) :: T) st h = ev d 112 95 ( some (.ref x) :: T) (.ref x :: st) h := ev_of d_112_94 rfl
theorem d_112_95 : decode (cd 112) 95 = .ok (.getfield 96, 3) := by rw [cd_112]; decide +kernel
theorem e_112_95 {d : Nat} {h : mM} {L : mLs} {st : List Value} {a : Nat} : ev d 112 95 L (.ref a :: st) h = if mK h a = 10 then oB (mR h a 35) (fun b => ev d 112 98 L (.ref b :: st) h) else none := ev_gR d_112_95 (by decide +kernel) (by decide +kernel)
theorem d_112_98 : decode (cd 112) 98 = .ok (.iload 5, 2) := by rw [cd_112]; decide +kernel
theorem e_112_98 {d : Nat} {h : mM} {o0 o1 o2 o3 o4 : Option Value} {T : mLs} {x : Int32} {st : List Value} : ev d 112 98 (o0 :: o1 :: o2 :: o3 :: o4 :: some (.int x) :: T) st h = ev d 112 100 (o0 :: o1 :: o2 :: o3 :: o4 :: some (.int x) :: T) (.int x :: st) h := ev_of d_112_98 rfl
theorem d_112_100 : decode (cd 112) 100 = .ok (.laload, 1) := by rw [cd_112]; decide +kernel
theorem e_112_100 {d : Nat} {h : mM} {L : mLs} {st : List Value} {a : Nat} {i : Int32} : ev d 112 100 L (.int i :: .ref a :: st) h = if mK h a = 12 ∧ ixOK i (mL h a) = true then ev d 112 101 L (.long (mJ h a i.toNatClampNeg) :: st) h else none := ev_la d_112_100
theorem d_112_101 : decode (cd 112) 101 = .ok (.ladd, 1) := by rw [cd_112]; decide +kernel
theorem e_112_101 {d : Nat} {h : mM} {L : mLs} {st : List Value} {x y : Int64} : ev d 112 101 L (.long y :: .long x :: st) h = ev d 112 102 L (.long (x + y) :: st) h := ev_of d_112_101 rfl
theorem d_112_102 : decode (cd 112) 102 = .ok (.lstore_n 2, 1) := by rw [cd_112]; decide +kernel
theorem e_112_102 {d : Nat} {h : mM} {o0 o1 o2 o3 : Option Value} {T : mLs} {x : Int64} {st : List Value} (hl : mLong o1 = false) : ev d 112 102 (o0 :: o1 :: o2 :: o3 :: T) (.long x :: st) h = ev d 112 103 (o0 :: o1 :: some (.long x) :: none :: T) st h := ev_st_ln d_112_102 (by decide +kernel) (mS2_s (j := 1) hl)
theorem d_112_103 : decode (cd 112) 103 = .ok (.iinc 5 1, 3) := by rw [cd_112]; decide +kernel
theorem e_112_103 {d : Nat} {h : mM} {o0 o1 o2 o3 o4 : Option Value} {T : mLs} {x : Int32} {st : List Value} (hl : mLong o4 = false) : ev d 112 103 (o0 :: o1 :: o2 :: o3 :: o4 :: some (.int x) :: T) st h = ev d 112 106 (o0 :: o1 :: o2 :: o3 :: o4 :: some (.int (x + 1)) :: T) st h := ev_inc d_112_103 (by decide +kernel) rfl rfl (mS1_s (j := 4) hl)
theorem d_112_106 : decode (cd 112) 106 = .ok (.goto (-37), 3) := by rw [cd_112]; decide +kernel
theorem e_112_106 {d : Nat} {h : mM} {L : mLs} {st : List Value} : ev d 112 106 L st h = ev d 112 69 L st h := ev_go d_112_106 (by decide)
theorem d_112_109 : decode (cd 112) 109 = .ok (.aload_n 0, 1) := by rw [cd_112]; decide +kernel
theorem e_112_109 {d : Nat} {h : mM} {T : mLs} {x : Nat} {st : List Value} : ev d 112 109 ( some (.ref x) :: T) st h = ev d 112 110 ( some (.ref x) :: T) (.ref x :: st) h := ev_of d_112_109 rfl
theorem d_112_110 : decode (cd 112) 110 = .ok (.dup, 1) := by rw [cd_112]; decide +kernel
theorem e_112_110r {d : Nat} {h : mM} {L : mLs} {st : List Value} {a : Nat} : ev d 112 110 L (.ref a :: st) h = ev d 112 111 L (.ref a :: .ref a :: st) h := ev_of d_112_110 rfl
theorem e_112_110i {d : Nat} {h : mM} {L : mLs} {st : List Value} {x : Int32} : ev d 112 110 L (.int x :: st) h = ev d 112 111 L (.int x :: .int x :: st) h := ev_of d_112_110 rfl
theorem d_112_111 : decode (cd 112) 111 = .ok (.getfield 147, 3) := by rw [cd_112]; decide +kernel
theorem e_112_111 {d : Nat} {h : mM} {L : mLs} {st : List Value} {a : Nat} : ev d 112 111 L (.ref a :: st) h = if mK h a = 10 then ev d 112 114 L (.int (mI h a 0) :: st) h else none := ev_gI d_112_111 (by decide +kernel) (by decide +kernel)
theorem d_112_114 : decode (cd 112) 114 = .ok (.iconst 1, 1) := by rw [cd_112]; decide +kernel
theorem e_112_114 {d : Nat} {h : mM} {L : mLs} {st : List Value} : ev d 112 114 L st h = ev d 112 115 L (.int 1 :: st) h := ev_of d_112_114 rfl
theorem d_112_115 : decode (cd 112) 115 = .ok (.iadd, 1) := by rw [cd_112]; decide +kernel
theorem e_112_115 {d : Nat} {h : mM} {L : mLs} {st : List Value} {x y : Int32} : ev d 112 115 L (.int y :: .int x :: st) h = ev d 112 116 L (.int (x + y) :: st) h := ev_of d_112_115 rfl
theorem d_112_116 : decode (cd 112) 116 = .ok (.putfield 147, 3) := by rw [cd_112]; decide +kernel
theorem e_112_116 {d : Nat} {h : mM} {L : mLs} {st : List Value} {a : Nat} {v : Int32} : ev d 112 116 L (.int v :: .ref a :: st) h = if mK h a = 10 then ev d 112 119 L st (wI h a 0 v) else none := ev_pI d_112_116 (by decide +kernel) (by decide +kernel) (by decide +kernel)
theorem d_112_119 : decode (cd 112) 119 = .ok (.iinc 4 1, 3) := by rw [cd_112]; decide +kernel
theorem e_112_119 {d : Nat} {h : mM} {o0 o1 o2 o3 : Option Value} {T : mLs} {x : Int32} {st : List Value} (hl : mLong o3 = false) : ev d 112 119 (o0 :: o1 :: o2 :: o3 :: some (.int x) :: T) st h = ev d 112 122 (o0 :: o1 :: o2 :: o3 :: some (.int (x + 1)) :: T) st h := ev_inc d_112_119 (by decide +kernel) rfl rfl (mS1_s (j := 3) hl)
theorem d_112_122 : decode (cd 112) 122 = .ok (.goto (-79), 3) := by rw [cd_112]; decide +kernel
theorem e_112_122 {d : Nat} {h : mM} {L : mLs} {st : List Value} : ev d 112 122 L st h = ev d 112 43 L st h := ev_go d_112_122 (by decide)
theorem d_112_125 : decode (cd 112) 125 = .ok (.lload_n 2, 1) := by rw [cd_112]; decide +kernel
theorem e_112_125 {d : Nat} {h : mM} {o0 o1 : Option Value} {T : mLs} {x : Int64} {st : List Value} : ev d 112 125 (o0 :: o1 :: some (.long x) :: T) st h = ev d 112 126 (o0 :: o1 :: some (.long x) :: T) (.long x :: st) h := ev_of d_112_125 rfl
theorem d_112_126 : decode (cd 112) 126 = .ok (.lreturn, 1) := by rw [cd_112]; decide +kernel
theorem e_112_126 {d : Nat} {h : mM} {L : mLs} {v : Int64} : ev d 112 126 L [.long v] h = some (some (.long v), h) := ev_rl d_112_126 (by decide +kernel)
-- 113: Model.running
theorem cd_113 : cd 113 = prog_12_method_36_code := rfl
theorem d_113_0 : decode (cd 113) 0 = .ok (.aload_n 0, 1) := by rw [cd_113]; decide +kernel
theorem e_113_0 {d : Nat} {h : mM} {T : mLs} {x : Nat} {st : List Value} : ev d 113 0 ( some (.ref x) :: T) st h = ev d 113 1 ( some (.ref x) :: T) (.ref x :: st) h := ev_of d_113_0 rfl
theorem d_113_1 : decode (cd 113) 1 = .ok (.invokevirtual 199, 3) := by rw [cd_113]; decide +kernel
theorem e_113_1 {d : Nat} {h : mM} {L : mLs} {st : List Value} {a : Nat} (hc : mCat st ≤ 8) : ev (d + 1) 113 1 L (.ref a :: st) h = if mK h a = 10 then cV (ev d 111 0 [some (.ref a), none] [] h) (fun v h1 => ev (d + 1) 113 4 L (v ++ st) h1) else none := ev_cv (mj := 111) (as := []) (rest := st) d_113_1 (by decide +kernel) rfl rfl (by show _ ≤ List.length _; simp only [List.length_cons]; have : na 111 = 0 := rfl; omega) rfl (Nat.le_of_ble_eq_true rfl) hc
theorem d_113_4 : decode (cd 113) 4 = .ok (.aload_n 0, 1) := by rw [cd_113]; decide +kernel
theorem e_113_4 {d : Nat} {h : mM} {T : mLs} {x : Nat} {st : List Value} : ev d 113 4 ( some (.ref x) :: T) st h = ev d 113 5 ( some (.ref x) :: T) (.ref x :: st) h := ev_of d_113_4 rfl
theorem d_113_5 : decode (cd 113) 5 = .ok (.aload_n 0, 1) := by rw [cd_113]; decide +kernel
theorem e_113_5 {d : Nat} {h : mM} {T : mLs} {x : Nat} {st : List Value} : ev d 113 5 ( some (.ref x) :: T) st h = ev d 113 6 ( some (.ref x) :: T) (.ref x :: st) h := ev_of d_113_5 rfl
theorem d_113_6 : decode (cd 113) 6 = .ok (.getfield 93, 3) := by rw [cd_113]; decide +kernel
theorem e_113_6 {d : Nat} {h : mM} {L : mLs} {st : List Value} {a : Nat} : ev d 113 6 L (.ref a :: st) h = if mK h a = 10 then oB (mR h a 33) (fun b => ev d 113 9 L (.ref b :: st) h) else none := ev_gR d_113_6 (by decide +kernel) (by decide +kernel)
theorem d_113_9 : decode (cd 113) 9 = .ok (.aload_n 0, 1) := by rw [cd_113]; decide +kernel
theorem e_113_9 {d : Nat} {h : mM} {T : mLs} {x : Nat} {st : List Value} : ev d 113 9 ( some (.ref x) :: T) st h = ev d 113 10 ( some (.ref x) :: T) (.ref x :: st) h := ev_of d_113_9 rfl
theorem d_113_10 : decode (cd 113) 10 = .ok (.getfield 147, 3) := by rw [cd_113]; decide +kernel
theorem e_113_10 {d : Nat} {h : mM} {L : mLs} {st : List Value} {a : Nat} : ev d 113 10 L (.ref a :: st) h = if mK h a = 10 then ev d 113 13 L (.int (mI h a 0) :: st) h else none := ev_gI d_113_10 (by decide +kernel) (by decide +kernel)
theorem d_113_13 : decode (cd 113) 13 = .ok (.aload_n 0, 1) := by rw [cd_113]; decide +kernel
theorem e_113_13 {d : Nat} {h : mM} {T : mLs} {x : Nat} {st : List Value} : ev d 113 13 ( some (.ref x) :: T) st h = ev d 113 14 ( some (.ref x) :: T) (.ref x :: st) h := ev_of d_113_13 rfl
theorem d_113_14 : decode (cd 113) 14 = .ok (.getfield 144, 3) := by rw [cd_113]; decide +kernel
theorem e_113_14 {d : Nat} {h : mM} {L : mLs} {st : List Value} {a : Nat} : ev d 113 14 L (.ref a :: st) h = if mK h a = 10 then ev d 113 17 L (.int (mI h a 24) :: st) h else none := ev_gI d_113_14 (by decide +kernel) (by decide +kernel)
theorem d_113_17 : decode (cd 113) 17 = .ok (.iconst 0, 1) := by rw [cd_113]; decide +kernel
theorem e_113_17 {d : Nat} {h : mM} {L : mLs} {st : List Value} : ev d 113 17 L st h = ev d 113 18 L (.int 0 :: st) h := ev_of d_113_17 rfl
theorem d_113_18 : decode (cd 113) 18 = .ok (.invokevirtual 195, 3) := by rw [cd_113]; decide +kernel
theorem e_113_18 {d : Nat} {h : mM} {L : mLs} {st : List Value} {a : Nat} {x0 : Nat} {x1 : Int32} {x2 : Int32} {x3 : Int32} (hc : mCat st ≤ 8) : ev (d + 1) 113 18 L (.int x3 :: .int x2 :: .int x1 :: .ref x0 :: .ref a :: st) h = if mK h a = 10 then cV (ev d 110 0 [some (.ref a), some (.ref x0), some (.int x1), some (.int x2), some (.int x3), none] [] h) (fun v h1 => ev (d + 1) 113 21 L (v ++ st) h1) else none := ev_cv (mj := 110) (as := [.ref x0, .int x1, .int x2, .int x3]) (rest := st) d_113_18 (by decide +kernel) rfl rfl (by show _ ≤ List.length _; simp only [List.length_cons]; have : na 110 = 4 := rfl; omega) rfl (Nat.le_of_ble_eq_true rfl) hc
theorem d_113_21 : decode (cd 113) 21 = .ok (.aload_n 0, 1) := by rw [cd_113]; decide +kernel
theorem e_113_21 {d : Nat} {h : mM} {T : mLs} {x : Nat} {st : List Value} : ev d 113 21 ( some (.ref x) :: T) st h = ev d 113 22 ( some (.ref x) :: T) (.ref x :: st) h := ev_of d_113_21 rfl
theorem d_113_22 : decode (cd 113) 22 = .ok (.getfield 164, 3) := by rw [cd_113]; decide +kernel
theorem e_113_22 {d : Nat} {h : mM} {L : mLs} {st : List Value} {a : Nat} : ev d 113 22 L (.ref a :: st) h = if mK h a = 10 then ev d 113 25 L (.int (mI h a 34) :: st) h else none := ev_gI d_113_22 (by decide +kernel) (by decide +kernel)
theorem d_113_25 : decode (cd 113) 25 = .ok (.i2l, 1) := by rw [cd_113]; decide +kernel
theorem e_113_25 {d : Nat} {h : mM} {L : mLs} {st : List Value} {x : Int32} : ev d 113 25 L (.int x :: st) h = ev d 113 26 L (.long x.toInt64 :: st) h := ev_of d_113_25 rfl
theorem d_113_26 : decode (cd 113) 26 = .ok (.lreturn, 1) := by rw [cd_113]; decide +kernel
theorem e_113_26 {d : Nat} {h : mM} {L : mLs} {v : Int64} : ev d 113 26 L [.long v] h = some (some (.long v), h) := ev_rl d_113_26 (by decide +kernel)
-- 114: Model.best
theorem cd_114 : cd 114 = prog_12_method_37_code := rfl
theorem d_114_0 : decode (cd 114) 0 = .ok (.aload_n 0, 1) := by rw [cd_114]; decide +kernel
theorem e_114_0 {d : Nat} {h : mM} {T : mLs} {x : Nat} {st : List Value} : ev d 114 0 ( some (.ref x) :: T) st h = ev d 114 1 ( some (.ref x) :: T) (.ref x :: st) h := ev_of d_114_0 rfl
theorem d_114_1 : decode (cd 114) 1 = .ok (.iload_n 1, 1) := by rw [cd_114]; decide +kernel
theorem e_114_1 {d : Nat} {h : mM} {o0 : Option Value} {T : mLs} {x : Int32} {st : List Value} : ev d 114 1 (o0 :: some (.int x) :: T) st h = ev d 114 2 (o0 :: some (.int x) :: T) (.int x :: st) h := ev_of d_114_1 rfl
theorem d_114_2 : decode (cd 114) 2 = .ok (.invokevirtual 139, 3) := by rw [cd_114]; decide +kernel
theorem e_114_2 {d : Nat} {h : mM} {L : mLs} {st : List Value} {a : Nat} {x0 : Int32} (hc : mCat st ≤ 8) : ev (d + 1) 114 2 L (.int x0 :: .ref a :: st) h = if mK h a = 10 then cV (ev d 82 0 [some (.ref a), some (.int x0)] [] h) (fun v h1 => ev (d + 1) 114 5 L (v ++ st) h1) else none := ev_cv (mj := 82) (as := [.int x0]) (rest := st) d_114_2 (by decide +kernel) rfl rfl (by show _ ≤ List.length _; simp only [List.length_cons]; have : na 82 = 1 := rfl; omega) rfl (Nat.le_of_ble_eq_true rfl) hc
theorem d_114_5 : decode (cd 114) 5 = .ok (.ifCond .eq 22, 3) := by rw [cd_114]; decide +kernel
theorem e_114_5 {d : Nat} {h : mM} {L : mLs} {st : List Value} {x : Int32} : ev d 114 5 L (.int x :: st) h = if x = 0 then ev d 114 27 L st h else ev d 114 8 L st h := ev_if (x = 0) inferInstance rfl d_114_5 (by decide)
theorem d_114_8 : decode (cd 114) 8 = .ok (.iload_n 2, 1) := by rw [cd_114]; decide +kernel
theorem e_114_8 {d : Nat} {h : mM} {o0 o1 : Option Value} {T : mLs} {x : Int32} {st : List Value} : ev d 114 8 (o0 :: o1 :: some (.int x) :: T) st h = ev d 114 9 (o0 :: o1 :: some (.int x) :: T) (.int x :: st) h := ev_of d_114_8 rfl
theorem d_114_9 : decode (cd 114) 9 = .ok (.iconst 1, 1) := by rw [cd_114]; decide +kernel
theorem e_114_9 {d : Nat} {h : mM} {L : mLs} {st : List Value} : ev d 114 9 L st h = ev d 114 10 L (.int 1 :: st) h := ev_of d_114_9 rfl
theorem d_114_10 : decode (cd 114) 10 = .ok (.bipush 8, 2) := by rw [cd_114]; decide +kernel
theorem e_114_10 {d : Nat} {h : mM} {L : mLs} {st : List Value} : ev d 114 10 L st h = ev d 114 12 L (.int 8 :: st) h := ev_of d_114_10 rfl
theorem d_114_12 : decode (cd 114) 12 = .ok (.invokestatic 114, 3) := by rw [cd_114]; decide +kernel
theorem e_114_12 {d : Nat} {h : mM} {L : mLs} {st : List Value} {x0 : Int32} {x1 : Int32} {x2 : Int32} (hc : mCat st ≤ 8) : ev (d + 1) 114 12 L (.int x2 :: .int x1 :: .int x0 :: st) h = cV (ev d 80 0 [some (.int x0), some (.int x1), some (.int x2)] [] h) (fun v h1 => ev (d + 1) 114 15 L (v ++ st) h1) := ev_cs (kd := 1) (mj := 80) (as := [.int x0, .int x1, .int x2]) (rest := st) d_114_12 (by decide +kernel) (by decide) rfl rfl (by show _ ≤ List.length _; simp only [List.length_cons]; have : na 80 = 3 := rfl; omega) rfl (Nat.le_of_ble_eq_true rfl) hc
theorem d_114_15 : decode (cd 114) 15 = .ok (.ifCond .eq 12, 3) := by rw [cd_114]; decide +kernel
theorem e_114_15 {d : Nat} {h : mM} {L : mLs} {st : List Value} {x : Int32} : ev d 114 15 L (.int x :: st) h = if x = 0 then ev d 114 27 L st h else ev d 114 18 L st h := ev_if (x = 0) inferInstance rfl d_114_15 (by decide)
theorem d_114_18 : decode (cd 114) 18 = .ok (.iload_n 3, 1) := by rw [cd_114]; decide +kernel
theorem e_114_18 {d : Nat} {h : mM} {o0 o1 o2 : Option Value} {T : mLs} {x : Int32} {st : List Value} : ev d 114 18 (o0 :: o1 :: o2 :: some (.int x) :: T) st h = ev d 114 19 (o0 :: o1 :: o2 :: some (.int x) :: T) (.int x :: st) h := ev_of d_114_18 rfl
theorem d_114_19 : decode (cd 114) 19 = .ok (.iconst 0, 1) := by rw [cd_114]; decide +kernel
theorem e_114_19 {d : Nat} {h : mM} {L : mLs} {st : List Value} : ev d 114 19 L st h = ev d 114 20 L (.int 0 :: st) h := ev_of d_114_19 rfl
theorem d_114_20 : decode (cd 114) 20 = .ok (.iconst 1, 1) := by rw [cd_114]; decide +kernel
theorem e_114_20 {d : Nat} {h : mM} {L : mLs} {st : List Value} : ev d 114 20 L st h = ev d 114 21 L (.int 1 :: st) h := ev_of d_114_20 rfl
theorem d_114_21 : decode (cd 114) 21 = .ok (.invokestatic 114, 3) := by rw [cd_114]; decide +kernel
theorem e_114_21 {d : Nat} {h : mM} {L : mLs} {st : List Value} {x0 : Int32} {x1 : Int32} {x2 : Int32} (hc : mCat st ≤ 8) : ev (d + 1) 114 21 L (.int x2 :: .int x1 :: .int x0 :: st) h = cV (ev d 80 0 [some (.int x0), some (.int x1), some (.int x2)] [] h) (fun v h1 => ev (d + 1) 114 24 L (v ++ st) h1) := ev_cs (kd := 1) (mj := 80) (as := [.int x0, .int x1, .int x2]) (rest := st) d_114_21 (by decide +kernel) (by decide) rfl rfl (by show _ ≤ List.length _; simp only [List.length_cons]; have : na 80 = 3 := rfl; omega) rfl (Nat.le_of_ble_eq_true rfl) hc
theorem d_114_24 : decode (cd 114) 24 = .ok (.ifCond .ne 11, 3) := by rw [cd_114]; decide +kernel
theorem e_114_24 {d : Nat} {h : mM} {L : mLs} {st : List Value} {x : Int32} : ev d 114 24 L (.int x :: st) h = if ¬ x = 0 then ev d 114 35 L st h else ev d 114 27 L st h := ev_if (¬ x = 0) inferInstance rfl d_114_24 (by decide)
theorem d_114_27 : decode (cd 114) 27 = .ok (.aload_n 0, 1) := by rw [cd_114]; decide +kernel
theorem e_114_27 {d : Nat} {h : mM} {T : mLs} {x : Nat} {st : List Value} : ev d 114 27 ( some (.ref x) :: T) st h = ev d 114 28 ( some (.ref x) :: T) (.ref x :: st) h := ev_of d_114_27 rfl
theorem d_114_28 : decode (cd 114) 28 = .ok (.ldc2_w 121, 3) := by rw [cd_114]; decide +kernel
theorem e_114_28 {d : Nat} {h : mM} {L : mLs} {st : List Value} : ev d 114 28 L st h = ev d 114 31 L (.long (-1000000001) :: st) h := ev_of d_114_28 rfl
theorem d_114_31 : decode (cd 114) 31 = .ok (.invokevirtual 123, 3) := by rw [cd_114]; decide +kernel
theorem e_114_31 {d : Nat} {h : mM} {L : mLs} {st : List Value} {a : Nat} {x0 : Int64} (hc : mCat st ≤ 8) : ev (d + 1) 114 31 L (.long x0 :: .ref a :: st) h = if mK h a = 10 then cV (ev d 79 0 [some (.ref a), some (.long x0), none] [] h) (fun v h1 => ev (d + 1) 114 34 L (v ++ st) h1) else none := ev_cv (mj := 79) (as := [.long x0]) (rest := st) d_114_31 (by decide +kernel) rfl rfl (by show _ ≤ List.length _; simp only [List.length_cons]; have : na 79 = 1 := rfl; omega) rfl (Nat.le_of_ble_eq_true rfl) hc
theorem d_114_34 : decode (cd 114) 34 = .ok (.lreturn, 1) := by rw [cd_114]; decide +kernel
theorem e_114_34 {d : Nat} {h : mM} {L : mLs} {v : Int64} : ev d 114 34 L [.long v] h = some (some (.long v), h) := ev_rl d_114_34 (by decide +kernel)
theorem d_114_35 : decode (cd 114) 35 = .ok (.ldc2_w 202, 3) := by rw [cd_114]; decide +kernel
theorem e_114_35 {d : Nat} {h : mM} {L : mLs} {st : List Value} : ev d 114 35 L st h = ev d 114 38 L (.long (-1) :: st) h := ev_of d_114_35 rfl
theorem d_114_38 : decode (cd 114) 38 = .ok (.lstore 4, 2) := by rw [cd_114]; decide +kernel
theorem e_114_38 {d : Nat} {h : mM} {o0 o1 o2 o3 o4 o5 : Option Value} {T : mLs} {x : Int64} {st : List Value} (hl : mLong o3 = false) : ev d 114 38 (o0 :: o1 :: o2 :: o3 :: o4 :: o5 :: T) (.long x :: st) h = ev d 114 40 (o0 :: o1 :: o2 :: o3 :: some (.long x) :: none :: T) st h := ev_st_l d_114_38 (by decide +kernel) (mS2_s (j := 3) hl)
theorem d_114_40 : decode (cd 114) 40 = .ok (.iconst 0, 1) := by rw [cd_114]; decide +kernel
theorem e_114_40 {d : Nat} {h : mM} {L : mLs} {st : List Value} : ev d 114 40 L st h = ev d 114 41 L (.int 0 :: st) h := ev_of d_114_40 rfl
theorem d_114_41 : decode (cd 114) 41 = .ok (.istore 6, 2) := by rw [cd_114]; decide +kernel
theorem e_114_41 {d : Nat} {h : mM} {o0 o1 o2 o3 o4 o5 o6 : Option Value} {T : mLs} {x : Int32} {st : List Value} (hl : mLong o5 = false) : ev d 114 41 (o0 :: o1 :: o2 :: o3 :: o4 :: o5 :: o6 :: T) (.int x :: st) h = ev d 114 43 (o0 :: o1 :: o2 :: o3 :: o4 :: o5 :: some (.int x) :: T) st h := ev_st_i d_114_41 (by decide +kernel) (mS1_s (j := 5) hl)
theorem d_114_43 : decode (cd 114) 43 = .ok (.iconst 0, 1) := by rw [cd_114]; decide +kernel
theorem e_114_43 {d : Nat} {h : mM} {L : mLs} {st : List Value} : ev d 114 43 L st h = ev d 114 44 L (.int 0 :: st) h := ev_of d_114_43 rfl
theorem d_114_44 : decode (cd 114) 44 = .ok (.istore 7, 2) := by rw [cd_114]; decide +kernel
theorem e_114_44 {d : Nat} {h : mM} {o0 o1 o2 o3 o4 o5 o6 o7 : Option Value} {T : mLs} {x : Int32} {st : List Value} (hl : mLong o6 = false) : ev d 114 44 (o0 :: o1 :: o2 :: o3 :: o4 :: o5 :: o6 :: o7 :: T) (.int x :: st) h = ev d 114 46 (o0 :: o1 :: o2 :: o3 :: o4 :: o5 :: o6 :: some (.int x) :: T) st h := ev_st_i d_114_44 (by decide +kernel) (mS1_s (j := 6) hl)
theorem d_114_46 : decode (cd 114) 46 = .ok (.iconst 0, 1) := by rw [cd_114]; decide +kernel
theorem e_114_46 {d : Nat} {h : mM} {L : mLs} {st : List Value} : ev d 114 46 L st h = ev d 114 47 L (.int 0 :: st) h := ev_of d_114_46 rfl
theorem d_114_47 : decode (cd 114) 47 = .ok (.istore 8, 2) := by rw [cd_114]; decide +kernel
theorem e_114_47 {d : Nat} {h : mM} {o0 o1 o2 o3 o4 o5 o6 o7 o8 : Option Value} {T : mLs} {x : Int32} {st : List Value} (hl : mLong o7 = false) : ev d 114 47 (o0 :: o1 :: o2 :: o3 :: o4 :: o5 :: o6 :: o7 :: o8 :: T) (.int x :: st) h = ev d 114 49 (o0 :: o1 :: o2 :: o3 :: o4 :: o5 :: o6 :: o7 :: some (.int x) :: T) st h := ev_st_i d_114_47 (by decide +kernel) (mS1_s (j := 7) hl)
theorem d_114_49 : decode (cd 114) 49 = .ok (.iload 8, 2) := by rw [cd_114]; decide +kernel
theorem e_114_49 {d : Nat} {h : mM} {o0 o1 o2 o3 o4 o5 o6 o7 : Option Value} {T : mLs} {x : Int32} {st : List Value} : ev d 114 49 (o0 :: o1 :: o2 :: o3 :: o4 :: o5 :: o6 :: o7 :: some (.int x) :: T) st h = ev d 114 51 (o0 :: o1 :: o2 :: o3 :: o4 :: o5 :: o6 :: o7 :: some (.int x) :: T) (.int x :: st) h := ev_of d_114_49 rfl
theorem d_114_51 : decode (cd 114) 51 = .ok (.iconst 1, 1) := by rw [cd_114]; decide +kernel
theorem e_114_51 {d : Nat} {h : mM} {L : mLs} {st : List Value} : ev d 114 51 L st h = ev d 114 52 L (.int 1 :: st) h := ev_of d_114_51 rfl
theorem d_114_52 : decode (cd 114) 52 = .ok (.iload_n 2, 1) := by rw [cd_114]; decide +kernel
theorem e_114_52 {d : Nat} {h : mM} {o0 o1 : Option Value} {T : mLs} {x : Int32} {st : List Value} : ev d 114 52 (o0 :: o1 :: some (.int x) :: T) st h = ev d 114 53 (o0 :: o1 :: some (.int x) :: T) (.int x :: st) h := ev_of d_114_52 rfl
theorem d_114_53 : decode (cd 114) 53 = .ok (.ishl, 1) := by rw [cd_114]; decide +kernel
theorem e_114_53 {d : Nat} {h : mM} {L : mLs} {st : List Value} {x y : Int32} : ev d 114 53 L (.int y :: .int x :: st) h = ev d 114 54 L (.int (x <<< (y &&& 31)) :: st) h := ev_of d_114_53 rfl
theorem d_114_54 : decode (cd 114) 54 = .ok (.if_icmp .ge 154, 3) := by rw [cd_114]; decide +kernel
theorem e_114_54 {d : Nat} {h : mM} {L : mLs} {st : List Value} {x y : Int32} : ev d 114 54 L (.int y :: .int x :: st) h = if y ≤ x then ev d 114 208 L st h else ev d 114 57 L st h := ev_ic (y ≤ x) inferInstance rfl d_114_54 (by decide)
theorem d_114_57 : decode (cd 114) 57 = .ok (.iconst 0, 1) := by rw [cd_114]; decide +kernel
theorem e_114_57 {d : Nat} {h : mM} {L : mLs} {st : List Value} : ev d 114 57 L st h = ev d 114 58 L (.int 0 :: st) h := ev_of d_114_57 rfl
theorem d_114_58 : decode (cd 114) 58 = .ok (.istore 9, 2) := by rw [cd_114]; decide +kernel
theorem e_114_58 {d : Nat} {h : mM} {o0 o1 o2 o3 o4 o5 o6 o7 o8 o9 : Option Value} {T : mLs} {x : Int32} {st : List Value} (hl : mLong o8 = false) : ev d 114 58 (o0 :: o1 :: o2 :: o3 :: o4 :: o5 :: o6 :: o7 :: o8 :: o9 :: T) (.int x :: st) h = ev d 114 60 (o0 :: o1 :: o2 :: o3 :: o4 :: o5 :: o6 :: o7 :: o8 :: some (.int x) :: T) st h := ev_st_i d_114_58 (by decide +kernel) (mS1_s (j := 8) hl)
theorem d_114_60 : decode (cd 114) 60 = .ok (.lconst 0, 1) := by rw [cd_114]; decide +kernel
theorem e_114_60 {d : Nat} {h : mM} {L : mLs} {st : List Value} : ev d 114 60 L st h = ev d 114 61 L (.long 0 :: st) h := ev_of d_114_60 rfl
theorem d_114_61 : decode (cd 114) 61 = .ok (.lstore 10, 2) := by rw [cd_114]; decide +kernel
theorem e_114_61 {d : Nat} {h : mM} {o0 o1 o2 o3 o4 o5 o6 o7 o8 o9 o10 o11 : Option Value} {T : mLs} {x : Int64} {st : List Value} (hl : mLong o9 = false) : ev d 114 61 (o0 :: o1 :: o2 :: o3 :: o4 :: o5 :: o6 :: o7 :: o8 :: o9 :: o10 :: o11 :: T) (.long x :: st) h = ev d 114 63 (o0 :: o1 :: o2 :: o3 :: o4 :: o5 :: o6 :: o7 :: o8 :: o9 :: some (.long x) :: none :: T) st h := ev_st_l d_114_61 (by decide +kernel) (mS2_s (j := 9) hl)
theorem d_114_63 : decode (cd 114) 63 = .ok (.aload_n 0, 1) := by rw [cd_114]; decide +kernel
theorem e_114_63 {d : Nat} {h : mM} {T : mLs} {x : Nat} {st : List Value} : ev d 114 63 ( some (.ref x) :: T) st h = ev d 114 64 ( some (.ref x) :: T) (.ref x :: st) h := ev_of d_114_63 rfl
theorem d_114_64 : decode (cd 114) 64 = .ok (.invokevirtual 199, 3) := by rw [cd_114]; decide +kernel
theorem e_114_64 {d : Nat} {h : mM} {L : mLs} {st : List Value} {a : Nat} (hc : mCat st ≤ 8) : ev (d + 1) 114 64 L (.ref a :: st) h = if mK h a = 10 then cV (ev d 111 0 [some (.ref a), none] [] h) (fun v h1 => ev (d + 1) 114 67 L (v ++ st) h1) else none := ev_cv (mj := 111) (as := []) (rest := st) d_114_64 (by decide +kernel) rfl rfl (by show _ ≤ List.length _; simp only [List.length_cons]; have : na 111 = 0 := rfl; omega) rfl (Nat.le_of_ble_eq_true rfl) hc
theorem d_114_67 : decode (cd 114) 67 = .ok (.iconst 0, 1) := by rw [cd_114]; decide +kernel
theorem e_114_67 {d : Nat} {h : mM} {L : mLs} {st : List Value} : ev d 114 67 L st h = ev d 114 68 L (.int 0 :: st) h := ev_of d_114_67 rfl
theorem d_114_68 : decode (cd 114) 68 = .ok (.istore 12, 2) := by rw [cd_114]; decide +kernel
theorem e_114_68 {d : Nat} {h : mM} {o0 o1 o2 o3 o4 o5 o6 o7 o8 o9 o10 o11 o12 : Option Value} {T : mLs} {x : Int32} {st : List Value} (hl : mLong o11 = false) : ev d 114 68 (o0 :: o1 :: o2 :: o3 :: o4 :: o5 :: o6 :: o7 :: o8 :: o9 :: o10 :: o11 :: o12 :: T) (.int x :: st) h = ev d 114 70 (o0 :: o1 :: o2 :: o3 :: o4 :: o5 :: o6 :: o7 :: o8 :: o9 :: o10 :: o11 :: some (.int x) :: T) st h := ev_st_i d_114_68 (by decide +kernel) (mS1_s (j := 11) hl)
theorem d_114_70 : decode (cd 114) 70 = .ok (.iload 12, 2) := by rw [cd_114]; decide +kernel
theorem e_114_70 {d : Nat} {h : mM} {o0 o1 o2 o3 o4 o5 o6 o7 o8 o9 o10 o11 : Option Value} {T : mLs} {x : Int32} {st : List Value} : ev d 114 70 (o0 :: o1 :: o2 :: o3 :: o4 :: o5 :: o6 :: o7 :: o8 :: o9 :: o10 :: o11 :: some (.int x) :: T) st h = ev d 114 72 (o0 :: o1 :: o2 :: o3 :: o4 :: o5 :: o6 :: o7 :: o8 :: o9 :: o10 :: o11 :: some (.int x) :: T) (.int x :: st) h := ev_of d_114_70 rfl
theorem d_114_72 : decode (cd 114) 72 = .ok (.iload_n 2, 1) := by rw [cd_114]; decide +kernel
theorem e_114_72 {d : Nat} {h : mM} {o0 o1 : Option Value} {T : mLs} {x : Int32} {st : List Value} : ev d 114 72 (o0 :: o1 :: some (.int x) :: T) st h = ev d 114 73 (o0 :: o1 :: some (.int x) :: T) (.int x :: st) h := ev_of d_114_72 rfl
theorem d_114_73 : decode (cd 114) 73 = .ok (.if_icmp .ge 94, 3) := by rw [cd_114]; decide +kernel
theorem e_114_73 {d : Nat} {h : mM} {L : mLs} {st : List Value} {x y : Int32} : ev d 114 73 L (.int y :: .int x :: st) h = if y ≤ x then ev d 114 167 L st h else ev d 114 76 L st h := ev_ic (y ≤ x) inferInstance rfl d_114_73 (by decide)
theorem d_114_76 : decode (cd 114) 76 = .ok (.iload 8, 2) := by rw [cd_114]; decide +kernel
theorem e_114_76 {d : Nat} {h : mM} {o0 o1 o2 o3 o4 o5 o6 o7 : Option Value} {T : mLs} {x : Int32} {st : List Value} : ev d 114 76 (o0 :: o1 :: o2 :: o3 :: o4 :: o5 :: o6 :: o7 :: some (.int x) :: T) st h = ev d 114 78 (o0 :: o1 :: o2 :: o3 :: o4 :: o5 :: o6 :: o7 :: some (.int x) :: T) (.int x :: st) h := ev_of d_114_76 rfl
theorem d_114_78 : decode (cd 114) 78 = .ok (.iload 12, 2) := by rw [cd_114]; decide +kernel
theorem e_114_78 {d : Nat} {h : mM} {o0 o1 o2 o3 o4 o5 o6 o7 o8 o9 o10 o11 : Option Value} {T : mLs} {x : Int32} {st : List Value} : ev d 114 78 (o0 :: o1 :: o2 :: o3 :: o4 :: o5 :: o6 :: o7 :: o8 :: o9 :: o10 :: o11 :: some (.int x) :: T) st h = ev d 114 80 (o0 :: o1 :: o2 :: o3 :: o4 :: o5 :: o6 :: o7 :: o8 :: o9 :: o10 :: o11 :: some (.int x) :: T) (.int x :: st) h := ev_of d_114_78 rfl
theorem d_114_80 : decode (cd 114) 80 = .ok (.ishr, 1) := by rw [cd_114]; decide +kernel
theorem e_114_80 {d : Nat} {h : mM} {L : mLs} {st : List Value} {x y : Int32} : ev d 114 80 L (.int y :: .int x :: st) h = ev d 114 81 L (.int (x >>> (y &&& 31)) :: st) h := ev_of d_114_80 rfl
theorem d_114_81 : decode (cd 114) 81 = .ok (.iconst 1, 1) := by rw [cd_114]; decide +kernel
theorem e_114_81 {d : Nat} {h : mM} {L : mLs} {st : List Value} : ev d 114 81 L st h = ev d 114 82 L (.int 1 :: st) h := ev_of d_114_81 rfl
theorem d_114_82 : decode (cd 114) 82 = .ok (.iand, 1) := by rw [cd_114]; decide +kernel
theorem e_114_82 {d : Nat} {h : mM} {L : mLs} {st : List Value} {x y : Int32} : ev d 114 82 L (.int y :: .int x :: st) h = ev d 114 83 L (.int (x &&& y) :: st) h := ev_of d_114_82 rfl
theorem d_114_83 : decode (cd 114) 83 = .ok (.iconst 1, 1) := by rw [cd_114]; decide +kernel
theorem e_114_83 {d : Nat} {h : mM} {L : mLs} {st : List Value} : ev d 114 83 L st h = ev d 114 84 L (.int 1 :: st) h := ev_of d_114_83 rfl
theorem d_114_84 : decode (cd 114) 84 = .ok (.if_icmp .ne 7, 3) := by rw [cd_114]; decide +kernel
theorem e_114_84 {d : Nat} {h : mM} {L : mLs} {st : List Value} {x y : Int32} : ev d 114 84 L (.int y :: .int x :: st) h = if ¬ x = y then ev d 114 91 L st h else ev d 114 87 L st h := ev_ic (¬ x = y) inferInstance rfl d_114_84 (by decide)
theorem d_114_87 : decode (cd 114) 87 = .ok (.iconst 1, 1) := by rw [cd_114]; decide +kernel
theorem e_114_87 {d : Nat} {h : mM} {L : mLs} {st : List Value} : ev d 114 87 L st h = ev d 114 88 L (.int 1 :: st) h := ev_of d_114_87 rfl
theorem d_114_88 : decode (cd 114) 88 = .ok (.goto 4, 3) := by rw [cd_114]; decide +kernel
theorem e_114_88 {d : Nat} {h : mM} {L : mLs} {st : List Value} : ev d 114 88 L st h = ev d 114 92 L st h := ev_go d_114_88 (by decide)
theorem d_114_91 : decode (cd 114) 91 = .ok (.iconst 0, 1) := by rw [cd_114]; decide +kernel
theorem e_114_91 {d : Nat} {h : mM} {L : mLs} {st : List Value} : ev d 114 91 L st h = ev d 114 92 L (.int 0 :: st) h := ev_of d_114_91 rfl
theorem d_114_92 : decode (cd 114) 92 = .ok (.istore 13, 2) := by rw [cd_114]; decide +kernel
theorem e_114_92 {d : Nat} {h : mM} {o0 o1 o2 o3 o4 o5 o6 o7 o8 o9 o10 o11 o12 o13 : Option Value} {T : mLs} {x : Int32} {st : List Value} (hl : mLong o12 = false) : ev d 114 92 (o0 :: o1 :: o2 :: o3 :: o4 :: o5 :: o6 :: o7 :: o8 :: o9 :: o10 :: o11 :: o12 :: o13 :: T) (.int x :: st) h = ev d 114 94 (o0 :: o1 :: o2 :: o3 :: o4 :: o5 :: o6 :: o7 :: o8 :: o9 :: o10 :: o11 :: o12 :: some (.int x) :: T) st h := ev_st_i d_114_92 (by decide +kernel) (mS1_s (j := 12) hl)
theorem d_114_94 : decode (cd 114) 94 = .ok (.iload 9, 2) := by rw [cd_114]; decide +kernel
theorem e_114_94 {d : Nat} {h : mM} {o0 o1 o2 o3 o4 o5 o6 o7 o8 : Option Value} {T : mLs} {x : Int32} {st : List Value} : ev d 114 94 (o0 :: o1 :: o2 :: o3 :: o4 :: o5 :: o6 :: o7 :: o8 :: some (.int x) :: T) st h = ev d 114 96 (o0 :: o1 :: o2 :: o3 :: o4 :: o5 :: o6 :: o7 :: o8 :: some (.int x) :: T) (.int x :: st) h := ev_of d_114_94 rfl
theorem d_114_96 : decode (cd 114) 96 = .ok (.iload 13, 2) := by rw [cd_114]; decide +kernel
theorem e_114_96 {d : Nat} {h : mM} {o0 o1 o2 o3 o4 o5 o6 o7 o8 o9 o10 o11 o12 : Option Value} {T : mLs} {x : Int32} {st : List Value} : ev d 114 96 (o0 :: o1 :: o2 :: o3 :: o4 :: o5 :: o6 :: o7 :: o8 :: o9 :: o10 :: o11 :: o12 :: some (.int x) :: T) st h = ev d 114 98 (o0 :: o1 :: o2 :: o3 :: o4 :: o5 :: o6 :: o7 :: o8 :: o9 :: o10 :: o11 :: o12 :: some (.int x) :: T) (.int x :: st) h := ev_of d_114_96 rfl
theorem d_114_98 : decode (cd 114) 98 = .ok (.ifCond .eq 7, 3) := by rw [cd_114]; decide +kernel
theorem e_114_98 {d : Nat} {h : mM} {L : mLs} {st : List Value} {x : Int32} : ev d 114 98 L (.int x :: st) h = if x = 0 then ev d 114 105 L st h else ev d 114 101 L st h := ev_if (x = 0) inferInstance rfl d_114_98 (by decide)
theorem d_114_101 : decode (cd 114) 101 = .ok (.iconst 1, 1) := by rw [cd_114]; decide +kernel
theorem e_114_101 {d : Nat} {h : mM} {L : mLs} {st : List Value} : ev d 114 101 L st h = ev d 114 102 L (.int 1 :: st) h := ev_of d_114_101 rfl
theorem d_114_102 : decode (cd 114) 102 = .ok (.goto 4, 3) := by rw [cd_114]; decide +kernel
theorem e_114_102 {d : Nat} {h : mM} {L : mLs} {st : List Value} : ev d 114 102 L st h = ev d 114 106 L st h := ev_go d_114_102 (by decide)
theorem d_114_105 : decode (cd 114) 105 = .ok (.iconst 0, 1) := by rw [cd_114]; decide +kernel
theorem e_114_105 {d : Nat} {h : mM} {L : mLs} {st : List Value} : ev d 114 105 L st h = ev d 114 106 L (.int 0 :: st) h := ev_of d_114_105 rfl
theorem d_114_106 : decode (cd 114) 106 = .ok (.iadd, 1) := by rw [cd_114]; decide +kernel
theorem e_114_106 {d : Nat} {h : mM} {L : mLs} {st : List Value} {x y : Int32} : ev d 114 106 L (.int y :: .int x :: st) h = ev d 114 107 L (.int (x + y) :: st) h := ev_of d_114_106 rfl
theorem d_114_107 : decode (cd 114) 107 = .ok (.istore 9, 2) := by rw [cd_114]; decide +kernel
theorem e_114_107 {d : Nat} {h : mM} {o0 o1 o2 o3 o4 o5 o6 o7 o8 o9 : Option Value} {T : mLs} {x : Int32} {st : List Value} (hl : mLong o8 = false) : ev d 114 107 (o0 :: o1 :: o2 :: o3 :: o4 :: o5 :: o6 :: o7 :: o8 :: o9 :: T) (.int x :: st) h = ev d 114 109 (o0 :: o1 :: o2 :: o3 :: o4 :: o5 :: o6 :: o7 :: o8 :: some (.int x) :: T) st h := ev_st_i d_114_107 (by decide +kernel) (mS1_s (j := 8) hl)
theorem d_114_109 : decode (cd 114) 109 = .ok (.aload_n 0, 1) := by rw [cd_114]; decide +kernel
theorem e_114_109 {d : Nat} {h : mM} {T : mLs} {x : Nat} {st : List Value} : ev d 114 109 ( some (.ref x) :: T) st h = ev d 114 110 ( some (.ref x) :: T) (.ref x :: st) h := ev_of d_114_109 rfl
theorem d_114_110 : decode (cd 114) 110 = .ok (.aload_n 0, 1) := by rw [cd_114]; decide +kernel
theorem e_114_110 {d : Nat} {h : mM} {T : mLs} {x : Nat} {st : List Value} : ev d 114 110 ( some (.ref x) :: T) st h = ev d 114 111 ( some (.ref x) :: T) (.ref x :: st) h := ev_of d_114_110 rfl
theorem d_114_111 : decode (cd 114) 111 = .ok (.getfield 93, 3) := by rw [cd_114]; decide +kernel
theorem e_114_111 {d : Nat} {h : mM} {L : mLs} {st : List Value} {a : Nat} : ev d 114 111 L (.ref a :: st) h = if mK h a = 10 then oB (mR h a 33) (fun b => ev d 114 114 L (.ref b :: st) h) else none := ev_gR d_114_111 (by decide +kernel) (by decide +kernel)
theorem d_114_114 : decode (cd 114) 114 = .ok (.aload_n 0, 1) := by rw [cd_114]; decide +kernel
theorem e_114_114 {d : Nat} {h : mM} {T : mLs} {x : Nat} {st : List Value} : ev d 114 114 ( some (.ref x) :: T) st h = ev d 114 115 ( some (.ref x) :: T) (.ref x :: st) h := ev_of d_114_114 rfl
theorem d_114_115 : decode (cd 114) 115 = .ok (.getfield 147, 3) := by rw [cd_114]; decide +kernel
theorem e_114_115 {d : Nat} {h : mM} {L : mLs} {st : List Value} {a : Nat} : ev d 114 115 L (.ref a :: st) h = if mK h a = 10 then ev d 114 118 L (.int (mI h a 0) :: st) h else none := ev_gI d_114_115 (by decide +kernel) (by decide +kernel)
theorem d_114_118 : decode (cd 114) 118 = .ok (.iload 12, 2) := by rw [cd_114]; decide +kernel
theorem e_114_118 {d : Nat} {h : mM} {o0 o1 o2 o3 o4 o5 o6 o7 o8 o9 o10 o11 : Option Value} {T : mLs} {x : Int32} {st : List Value} : ev d 114 118 (o0 :: o1 :: o2 :: o3 :: o4 :: o5 :: o6 :: o7 :: o8 :: o9 :: o10 :: o11 :: some (.int x) :: T) st h = ev d 114 120 (o0 :: o1 :: o2 :: o3 :: o4 :: o5 :: o6 :: o7 :: o8 :: o9 :: o10 :: o11 :: some (.int x) :: T) (.int x :: st) h := ev_of d_114_118 rfl
theorem d_114_120 : decode (cd 114) 120 = .ok (.iadd, 1) := by rw [cd_114]; decide +kernel
theorem e_114_120 {d : Nat} {h : mM} {L : mLs} {st : List Value} {x y : Int32} : ev d 114 120 L (.int y :: .int x :: st) h = ev d 114 121 L (.int (x + y) :: st) h := ev_of d_114_120 rfl
theorem d_114_121 : decode (cd 114) 121 = .ok (.iload 13, 2) := by rw [cd_114]; decide +kernel
theorem e_114_121 {d : Nat} {h : mM} {o0 o1 o2 o3 o4 o5 o6 o7 o8 o9 o10 o11 o12 : Option Value} {T : mLs} {x : Int32} {st : List Value} : ev d 114 121 (o0 :: o1 :: o2 :: o3 :: o4 :: o5 :: o6 :: o7 :: o8 :: o9 :: o10 :: o11 :: o12 :: some (.int x) :: T) st h = ev d 114 123 (o0 :: o1 :: o2 :: o3 :: o4 :: o5 :: o6 :: o7 :: o8 :: o9 :: o10 :: o11 :: o12 :: some (.int x) :: T) (.int x :: st) h := ev_of d_114_121 rfl
theorem d_114_123 : decode (cd 114) 123 = .ok (.ifCond .eq 10, 3) := by rw [cd_114]; decide +kernel
theorem e_114_123 {d : Nat} {h : mM} {L : mLs} {st : List Value} {x : Int32} : ev d 114 123 L (.int x :: st) h = if x = 0 then ev d 114 133 L st h else ev d 114 126 L st h := ev_if (x = 0) inferInstance rfl d_114_123 (by decide)
theorem d_114_126 : decode (cd 114) 126 = .ok (.aload_n 0, 1) := by rw [cd_114]; decide +kernel
theorem e_114_126 {d : Nat} {h : mM} {T : mLs} {x : Nat} {st : List Value} : ev d 114 126 ( some (.ref x) :: T) st h = ev d 114 127 ( some (.ref x) :: T) (.ref x :: st) h := ev_of d_114_126 rfl
theorem d_114_127 : decode (cd 114) 127 = .ok (.getfield 144, 3) := by rw [cd_114]; decide +kernel
theorem e_114_127 {d : Nat} {h : mM} {L : mLs} {st : List Value} {a : Nat} : ev d 114 127 L (.ref a :: st) h = if mK h a = 10 then ev d 114 130 L (.int (mI h a 24) :: st) h else none := ev_gI d_114_127 (by decide +kernel) (by decide +kernel)
theorem d_114_130 : decode (cd 114) 130 = .ok (.goto 16, 3) := by rw [cd_114]; decide +kernel
theorem e_114_130 {d : Nat} {h : mM} {L : mLs} {st : List Value} : ev d 114 130 L st h = ev d 114 146 L st h := ev_go d_114_130 (by decide)
theorem d_114_133 : decode (cd 114) 133 = .ok (.aload_n 0, 1) := by rw [cd_114]; decide +kernel
theorem e_114_133 {d : Nat} {h : mM} {T : mLs} {x : Nat} {st : List Value} : ev d 114 133 ( some (.ref x) :: T) st h = ev d 114 134 ( some (.ref x) :: T) (.ref x :: st) h := ev_of d_114_133 rfl
theorem d_114_134 : decode (cd 114) 134 = .ok (.getfield 144, 3) := by rw [cd_114]; decide +kernel
theorem e_114_134 {d : Nat} {h : mM} {L : mLs} {st : List Value} {a : Nat} : ev d 114 134 L (.ref a :: st) h = if mK h a = 10 then ev d 114 137 L (.int (mI h a 24) :: st) h else none := ev_gI d_114_134 (by decide +kernel) (by decide +kernel)
theorem d_114_137 : decode (cd 114) 137 = .ok (.bipush 7, 2) := by rw [cd_114]; decide +kernel
theorem e_114_137 {d : Nat} {h : mM} {L : mLs} {st : List Value} : ev d 114 137 L st h = ev d 114 139 L (.int 7 :: st) h := ev_of d_114_137 rfl
theorem d_114_139 : decode (cd 114) 139 = .ok (.iconst 3, 1) := by rw [cd_114]; decide +kernel
theorem e_114_139 {d : Nat} {h : mM} {L : mLs} {st : List Value} : ev d 114 139 L st h = ev d 114 140 L (.int 3 :: st) h := ev_of d_114_139 rfl
theorem d_114_140 : decode (cd 114) 140 = .ok (.iload_n 1, 1) := by rw [cd_114]; decide +kernel
theorem e_114_140 {d : Nat} {h : mM} {o0 : Option Value} {T : mLs} {x : Int32} {st : List Value} : ev d 114 140 (o0 :: some (.int x) :: T) st h = ev d 114 141 (o0 :: some (.int x) :: T) (.int x :: st) h := ev_of d_114_140 rfl
theorem d_114_141 : decode (cd 114) 141 = .ok (.imul, 1) := by rw [cd_114]; decide +kernel
theorem e_114_141 {d : Nat} {h : mM} {L : mLs} {st : List Value} {x y : Int32} : ev d 114 141 L (.int y :: .int x :: st) h = ev d 114 142 L (.int (x * y) :: st) h := ev_of d_114_141 rfl
theorem d_114_142 : decode (cd 114) 142 = .ok (.ishl, 1) := by rw [cd_114]; decide +kernel
theorem e_114_142 {d : Nat} {h : mM} {L : mLs} {st : List Value} {x y : Int32} : ev d 114 142 L (.int y :: .int x :: st) h = ev d 114 143 L (.int (x <<< (y &&& 31)) :: st) h := ev_of d_114_142 rfl
theorem d_114_143 : decode (cd 114) 143 = .ok (.iconst (-1), 1) := by rw [cd_114]; decide +kernel
theorem e_114_143 {d : Nat} {h : mM} {L : mLs} {st : List Value} : ev d 114 143 L st h = ev d 114 144 L (.int (-1) :: st) h := ev_of d_114_143 rfl
theorem d_114_144 : decode (cd 114) 144 = .ok (.ixor, 1) := by rw [cd_114]; decide +kernel
theorem e_114_144 {d : Nat} {h : mM} {L : mLs} {st : List Value} {x y : Int32} : ev d 114 144 L (.int y :: .int x :: st) h = ev d 114 145 L (.int (x ^^^ y) :: st) h := ev_of d_114_144 rfl
theorem d_114_145 : decode (cd 114) 145 = .ok (.iand, 1) := by rw [cd_114]; decide +kernel
theorem e_114_145 {d : Nat} {h : mM} {L : mLs} {st : List Value} {x y : Int32} : ev d 114 145 L (.int y :: .int x :: st) h = ev d 114 146 L (.int (x &&& y) :: st) h := ev_of d_114_145 rfl
theorem d_114_146 : decode (cd 114) 146 = .ok (.iconst 0, 1) := by rw [cd_114]; decide +kernel
theorem e_114_146 {d : Nat} {h : mM} {L : mLs} {st : List Value} : ev d 114 146 L st h = ev d 114 147 L (.int 0 :: st) h := ev_of d_114_146 rfl
theorem d_114_147 : decode (cd 114) 147 = .ok (.invokevirtual 195, 3) := by rw [cd_114]; decide +kernel
theorem e_114_147 {d : Nat} {h : mM} {L : mLs} {st : List Value} {a : Nat} {x0 : Nat} {x1 : Int32} {x2 : Int32} {x3 : Int32} (hc : mCat st ≤ 8) : ev (d + 1) 114 147 L (.int x3 :: .int x2 :: .int x1 :: .ref x0 :: .ref a :: st) h = if mK h a = 10 then cV (ev d 110 0 [some (.ref a), some (.ref x0), some (.int x1), some (.int x2), some (.int x3), none] [] h) (fun v h1 => ev (d + 1) 114 150 L (v ++ st) h1) else none := ev_cv (mj := 110) (as := [.ref x0, .int x1, .int x2, .int x3]) (rest := st) d_114_147 (by decide +kernel) rfl rfl (by show _ ≤ List.length _; simp only [List.length_cons]; have : na 110 = 4 := rfl; omega) rfl (Nat.le_of_ble_eq_true rfl) hc
theorem d_114_150 : decode (cd 114) 150 = .ok (.lload 10, 2) := by rw [cd_114]; decide +kernel
theorem e_114_150 {d : Nat} {h : mM} {o0 o1 o2 o3 o4 o5 o6 o7 o8 o9 : Option Value} {T : mLs} {x : Int64} {st : List Value} : ev d 114 150 (o0 :: o1 :: o2 :: o3 :: o4 :: o5 :: o6 :: o7 :: o8 :: o9 :: some (.long x) :: T) st h = ev d 114 152 (o0 :: o1 :: o2 :: o3 :: o4 :: o5 :: o6 :: o7 :: o8 :: o9 :: some (.long x) :: T) (.long x :: st) h := ev_of d_114_150 rfl
theorem d_114_152 : decode (cd 114) 152 = .ok (.aload_n 0, 1) := by rw [cd_114]; decide +kernel
theorem e_114_152 {d : Nat} {h : mM} {T : mLs} {x : Nat} {st : List Value} : ev d 114 152 ( some (.ref x) :: T) st h = ev d 114 153 ( some (.ref x) :: T) (.ref x :: st) h := ev_of d_114_152 rfl
theorem d_114_153 : decode (cd 114) 153 = .ok (.getfield 96, 3) := by rw [cd_114]; decide +kernel
theorem e_114_153 {d : Nat} {h : mM} {L : mLs} {st : List Value} {a : Nat} : ev d 114 153 L (.ref a :: st) h = if mK h a = 10 then oB (mR h a 35) (fun b => ev d 114 156 L (.ref b :: st) h) else none := ev_gR d_114_153 (by decide +kernel) (by decide +kernel)
theorem d_114_156 : decode (cd 114) 156 = .ok (.iload_n 1, 1) := by rw [cd_114]; decide +kernel
theorem e_114_156 {d : Nat} {h : mM} {o0 : Option Value} {T : mLs} {x : Int32} {st : List Value} : ev d 114 156 (o0 :: some (.int x) :: T) st h = ev d 114 157 (o0 :: some (.int x) :: T) (.int x :: st) h := ev_of d_114_156 rfl
theorem d_114_157 : decode (cd 114) 157 = .ok (.laload, 1) := by rw [cd_114]; decide +kernel
theorem e_114_157 {d : Nat} {h : mM} {L : mLs} {st : List Value} {a : Nat} {i : Int32} : ev d 114 157 L (.int i :: .ref a :: st) h = if mK h a = 12 ∧ ixOK i (mL h a) = true then ev d 114 158 L (.long (mJ h a i.toNatClampNeg) :: st) h else none := ev_la d_114_157
theorem d_114_158 : decode (cd 114) 158 = .ok (.ladd, 1) := by rw [cd_114]; decide +kernel
theorem e_114_158 {d : Nat} {h : mM} {L : mLs} {st : List Value} {x y : Int64} : ev d 114 158 L (.long y :: .long x :: st) h = ev d 114 159 L (.long (x + y) :: st) h := ev_of d_114_158 rfl
theorem d_114_159 : decode (cd 114) 159 = .ok (.lstore 10, 2) := by rw [cd_114]; decide +kernel
theorem e_114_159 {d : Nat} {h : mM} {o0 o1 o2 o3 o4 o5 o6 o7 o8 o9 o10 o11 : Option Value} {T : mLs} {x : Int64} {st : List Value} (hl : mLong o9 = false) : ev d 114 159 (o0 :: o1 :: o2 :: o3 :: o4 :: o5 :: o6 :: o7 :: o8 :: o9 :: o10 :: o11 :: T) (.long x :: st) h = ev d 114 161 (o0 :: o1 :: o2 :: o3 :: o4 :: o5 :: o6 :: o7 :: o8 :: o9 :: some (.long x) :: none :: T) st h := ev_st_l d_114_159 (by decide +kernel) (mS2_s (j := 9) hl)
theorem d_114_161 : decode (cd 114) 161 = .ok (.iinc 12 1, 3) := by rw [cd_114]; decide +kernel
theorem e_114_161 {d : Nat} {h : mM} {o0 o1 o2 o3 o4 o5 o6 o7 o8 o9 o10 o11 : Option Value} {T : mLs} {x : Int32} {st : List Value} (hl : mLong o11 = false) : ev d 114 161 (o0 :: o1 :: o2 :: o3 :: o4 :: o5 :: o6 :: o7 :: o8 :: o9 :: o10 :: o11 :: some (.int x) :: T) st h = ev d 114 164 (o0 :: o1 :: o2 :: o3 :: o4 :: o5 :: o6 :: o7 :: o8 :: o9 :: o10 :: o11 :: some (.int (x + 1)) :: T) st h := ev_inc d_114_161 (by decide +kernel) rfl rfl (mS1_s (j := 11) hl)
theorem d_114_164 : decode (cd 114) 164 = .ok (.goto (-94), 3) := by rw [cd_114]; decide +kernel
theorem e_114_164 {d : Nat} {h : mM} {L : mLs} {st : List Value} : ev d 114 164 L st h = ev d 114 70 L st h := ev_go d_114_164 (by decide)
theorem d_114_167 : decode (cd 114) 167 = .ok (.lload 10, 2) := by rw [cd_114]; decide +kernel
theorem e_114_167 {d : Nat} {h : mM} {o0 o1 o2 o3 o4 o5 o6 o7 o8 o9 : Option Value} {T : mLs} {x : Int64} {st : List Value} : ev d 114 167 (o0 :: o1 :: o2 :: o3 :: o4 :: o5 :: o6 :: o7 :: o8 :: o9 :: some (.long x) :: T) st h = ev d 114 169 (o0 :: o1 :: o2 :: o3 :: o4 :: o5 :: o6 :: o7 :: o8 :: o9 :: some (.long x) :: T) (.long x :: st) h := ev_of d_114_167 rfl
theorem d_114_169 : decode (cd 114) 169 = .ok (.lload 4, 2) := by rw [cd_114]; decide +kernel
theorem e_114_169 {d : Nat} {h : mM} {o0 o1 o2 o3 : Option Value} {T : mLs} {x : Int64} {st : List Value} : ev d 114 169 (o0 :: o1 :: o2 :: o3 :: some (.long x) :: T) st h = ev d 114 171 (o0 :: o1 :: o2 :: o3 :: some (.long x) :: T) (.long x :: st) h := ev_of d_114_169 rfl
theorem d_114_171 : decode (cd 114) 171 = .ok (.lcmp, 1) := by rw [cd_114]; decide +kernel
theorem e_114_171 {d : Nat} {h : mM} {L : mLs} {st : List Value} {x y : Int64} : ev d 114 171 L (.long y :: .long x :: st) h = ev d 114 172 L (.int (lg_cmp x y) :: st) h := ev_of d_114_171 rfl
theorem d_114_172 : decode (cd 114) 172 = .ok (.ifCond .gt 18, 3) := by rw [cd_114]; decide +kernel
theorem e_114_172 {d : Nat} {h : mM} {L : mLs} {st : List Value} {x : Int32} : ev d 114 172 L (.int x :: st) h = if 0 < x then ev d 114 190 L st h else ev d 114 175 L st h := ev_if (0 < x) inferInstance rfl d_114_172 (by decide)
theorem d_114_175 : decode (cd 114) 175 = .ok (.lload 10, 2) := by rw [cd_114]; decide +kernel
theorem e_114_175 {d : Nat} {h : mM} {o0 o1 o2 o3 o4 o5 o6 o7 o8 o9 : Option Value} {T : mLs} {x : Int64} {st : List Value} : ev d 114 175 (o0 :: o1 :: o2 :: o3 :: o4 :: o5 :: o6 :: o7 :: o8 :: o9 :: some (.long x) :: T) st h = ev d 114 177 (o0 :: o1 :: o2 :: o3 :: o4 :: o5 :: o6 :: o7 :: o8 :: o9 :: some (.long x) :: T) (.long x :: st) h := ev_of d_114_175 rfl
theorem d_114_177 : decode (cd 114) 177 = .ok (.lload 4, 2) := by rw [cd_114]; decide +kernel
theorem e_114_177 {d : Nat} {h : mM} {o0 o1 o2 o3 : Option Value} {T : mLs} {x : Int64} {st : List Value} : ev d 114 177 (o0 :: o1 :: o2 :: o3 :: some (.long x) :: T) st h = ev d 114 179 (o0 :: o1 :: o2 :: o3 :: some (.long x) :: T) (.long x :: st) h := ev_of d_114_177 rfl
theorem d_114_179 : decode (cd 114) 179 = .ok (.lcmp, 1) := by rw [cd_114]; decide +kernel
theorem e_114_179 {d : Nat} {h : mM} {L : mLs} {st : List Value} {x y : Int64} : ev d 114 179 L (.long y :: .long x :: st) h = ev d 114 180 L (.int (lg_cmp x y) :: st) h := ev_of d_114_179 rfl
theorem d_114_180 : decode (cd 114) 180 = .ok (.ifCond .ne 22, 3) := by rw [cd_114]; decide +kernel
theorem e_114_180 {d : Nat} {h : mM} {L : mLs} {st : List Value} {x : Int32} : ev d 114 180 L (.int x :: st) h = if ¬ x = 0 then ev d 114 202 L st h else ev d 114 183 L st h := ev_if (¬ x = 0) inferInstance rfl d_114_180 (by decide)
theorem d_114_183 : decode (cd 114) 183 = .ok (.iload 9, 2) := by rw [cd_114]; decide +kernel
theorem e_114_183 {d : Nat} {h : mM} {o0 o1 o2 o3 o4 o5 o6 o7 o8 : Option Value} {T : mLs} {x : Int32} {st : List Value} : ev d 114 183 (o0 :: o1 :: o2 :: o3 :: o4 :: o5 :: o6 :: o7 :: o8 :: some (.int x) :: T) st h = ev d 114 185 (o0 :: o1 :: o2 :: o3 :: o4 :: o5 :: o6 :: o7 :: o8 :: some (.int x) :: T) (.int x :: st) h := ev_of d_114_183 rfl
theorem d_114_185 : decode (cd 114) 185 = .ok (.iload 7, 2) := by rw [cd_114]; decide +kernel
theorem e_114_185 {d : Nat} {h : mM} {o0 o1 o2 o3 o4 o5 o6 : Option Value} {T : mLs} {x : Int32} {st : List Value} : ev d 114 185 (o0 :: o1 :: o2 :: o3 :: o4 :: o5 :: o6 :: some (.int x) :: T) st h = ev d 114 187 (o0 :: o1 :: o2 :: o3 :: o4 :: o5 :: o6 :: some (.int x) :: T) (.int x :: st) h := ev_of d_114_185 rfl
theorem d_114_187 : decode (cd 114) 187 = .ok (.if_icmp .ge 15, 3) := by rw [cd_114]; decide +kernel
theorem e_114_187 {d : Nat} {h : mM} {L : mLs} {st : List Value} {x y : Int32} : ev d 114 187 L (.int y :: .int x :: st) h = if y ≤ x then ev d 114 202 L st h else ev d 114 190 L st h := ev_ic (y ≤ x) inferInstance rfl d_114_187 (by decide)
theorem d_114_190 : decode (cd 114) 190 = .ok (.lload 10, 2) := by rw [cd_114]; decide +kernel
theorem e_114_190 {d : Nat} {h : mM} {o0 o1 o2 o3 o4 o5 o6 o7 o8 o9 : Option Value} {T : mLs} {x : Int64} {st : List Value} : ev d 114 190 (o0 :: o1 :: o2 :: o3 :: o4 :: o5 :: o6 :: o7 :: o8 :: o9 :: some (.long x) :: T) st h = ev d 114 192 (o0 :: o1 :: o2 :: o3 :: o4 :: o5 :: o6 :: o7 :: o8 :: o9 :: some (.long x) :: T) (.long x :: st) h := ev_of d_114_190 rfl
theorem d_114_192 : decode (cd 114) 192 = .ok (.lstore 4, 2) := by rw [cd_114]; decide +kernel
theorem e_114_192 {d : Nat} {h : mM} {o0 o1 o2 o3 o4 o5 : Option Value} {T : mLs} {x : Int64} {st : List Value} (hl : mLong o3 = false) : ev d 114 192 (o0 :: o1 :: o2 :: o3 :: o4 :: o5 :: T) (.long x :: st) h = ev d 114 194 (o0 :: o1 :: o2 :: o3 :: some (.long x) :: none :: T) st h := ev_st_l d_114_192 (by decide +kernel) (mS2_s (j := 3) hl)
theorem d_114_194 : decode (cd 114) 194 = .ok (.iload 8, 2) := by rw [cd_114]; decide +kernel
theorem e_114_194 {d : Nat} {h : mM} {o0 o1 o2 o3 o4 o5 o6 o7 : Option Value} {T : mLs} {x : Int32} {st : List Value} : ev d 114 194 (o0 :: o1 :: o2 :: o3 :: o4 :: o5 :: o6 :: o7 :: some (.int x) :: T) st h = ev d 114 196 (o0 :: o1 :: o2 :: o3 :: o4 :: o5 :: o6 :: o7 :: some (.int x) :: T) (.int x :: st) h := ev_of d_114_194 rfl
theorem d_114_196 : decode (cd 114) 196 = .ok (.istore 6, 2) := by rw [cd_114]; decide +kernel
theorem e_114_196 {d : Nat} {h : mM} {o0 o1 o2 o3 o4 o5 o6 : Option Value} {T : mLs} {x : Int32} {st : List Value} (hl : mLong o5 = false) : ev d 114 196 (o0 :: o1 :: o2 :: o3 :: o4 :: o5 :: o6 :: T) (.int x :: st) h = ev d 114 198 (o0 :: o1 :: o2 :: o3 :: o4 :: o5 :: some (.int x) :: T) st h := ev_st_i d_114_196 (by decide +kernel) (mS1_s (j := 5) hl)
theorem d_114_198 : decode (cd 114) 198 = .ok (.iload 9, 2) := by rw [cd_114]; decide +kernel
theorem e_114_198 {d : Nat} {h : mM} {o0 o1 o2 o3 o4 o5 o6 o7 o8 : Option Value} {T : mLs} {x : Int32} {st : List Value} : ev d 114 198 (o0 :: o1 :: o2 :: o3 :: o4 :: o5 :: o6 :: o7 :: o8 :: some (.int x) :: T) st h = ev d 114 200 (o0 :: o1 :: o2 :: o3 :: o4 :: o5 :: o6 :: o7 :: o8 :: some (.int x) :: T) (.int x :: st) h := ev_of d_114_198 rfl
theorem d_114_200 : decode (cd 114) 200 = .ok (.istore 7, 2) := by rw [cd_114]; decide +kernel
theorem e_114_200 {d : Nat} {h : mM} {o0 o1 o2 o3 o4 o5 o6 o7 : Option Value} {T : mLs} {x : Int32} {st : List Value} (hl : mLong o6 = false) : ev d 114 200 (o0 :: o1 :: o2 :: o3 :: o4 :: o5 :: o6 :: o7 :: T) (.int x :: st) h = ev d 114 202 (o0 :: o1 :: o2 :: o3 :: o4 :: o5 :: o6 :: some (.int x) :: T) st h := ev_st_i d_114_200 (by decide +kernel) (mS1_s (j := 6) hl)
theorem d_114_202 : decode (cd 114) 202 = .ok (.iinc 8 1, 3) := by rw [cd_114]; decide +kernel
theorem e_114_202 {d : Nat} {h : mM} {o0 o1 o2 o3 o4 o5 o6 o7 : Option Value} {T : mLs} {x : Int32} {st : List Value} (hl : mLong o7 = false) : ev d 114 202 (o0 :: o1 :: o2 :: o3 :: o4 :: o5 :: o6 :: o7 :: some (.int x) :: T) st h = ev d 114 205 (o0 :: o1 :: o2 :: o3 :: o4 :: o5 :: o6 :: o7 :: some (.int (x + 1)) :: T) st h := ev_inc d_114_202 (by decide +kernel) rfl rfl (mS1_s (j := 7) hl)
theorem d_114_205 : decode (cd 114) 205 = .ok (.goto (-156), 3) := by rw [cd_114]; decide +kernel
theorem e_114_205 {d : Nat} {h : mM} {L : mLs} {st : List Value} : ev d 114 205 L st h = ev d 114 49 L st h := ev_go d_114_205 (by decide)
theorem d_114_208 : decode (cd 114) 208 = .ok (.iload_n 3, 1) := by rw [cd_114]; decide +kernel
theorem e_114_208 {d : Nat} {h : mM} {o0 o1 o2 : Option Value} {T : mLs} {x : Int32} {st : List Value} : ev d 114 208 (o0 :: o1 :: o2 :: some (.int x) :: T) st h = ev d 114 209 (o0 :: o1 :: o2 :: some (.int x) :: T) (.int x :: st) h := ev_of d_114_208 rfl
theorem d_114_209 : decode (cd 114) 209 = .ok (.ifCond .ne 9, 3) := by rw [cd_114]; decide +kernel
theorem e_114_209 {d : Nat} {h : mM} {L : mLs} {st : List Value} {x : Int32} : ev d 114 209 L (.int x :: st) h = if ¬ x = 0 then ev d 114 218 L st h else ev d 114 212 L st h := ev_if (¬ x = 0) inferInstance rfl d_114_209 (by decide)
theorem d_114_212 : decode (cd 114) 212 = .ok (.iload 6, 2) := by rw [cd_114]; decide +kernel
theorem e_114_212 {d : Nat} {h : mM} {o0 o1 o2 o3 o4 o5 : Option Value} {T : mLs} {x : Int32} {st : List Value} : ev d 114 212 (o0 :: o1 :: o2 :: o3 :: o4 :: o5 :: some (.int x) :: T) st h = ev d 114 214 (o0 :: o1 :: o2 :: o3 :: o4 :: o5 :: some (.int x) :: T) (.int x :: st) h := ev_of d_114_212 rfl
theorem d_114_214 : decode (cd 114) 214 = .ok (.i2l, 1) := by rw [cd_114]; decide +kernel
theorem e_114_214 {d : Nat} {h : mM} {L : mLs} {st : List Value} {x : Int32} : ev d 114 214 L (.int x :: st) h = ev d 114 215 L (.long x.toInt64 :: st) h := ev_of d_114_214 rfl
theorem d_114_215 : decode (cd 114) 215 = .ok (.goto 5, 3) := by rw [cd_114]; decide +kernel
theorem e_114_215 {d : Nat} {h : mM} {L : mLs} {st : List Value} : ev d 114 215 L st h = ev d 114 220 L st h := ev_go d_114_215 (by decide)
theorem d_114_218 : decode (cd 114) 218 = .ok (.lload 4, 2) := by rw [cd_114]; decide +kernel
theorem e_114_218 {d : Nat} {h : mM} {o0 o1 o2 o3 : Option Value} {T : mLs} {x : Int64} {st : List Value} : ev d 114 218 (o0 :: o1 :: o2 :: o3 :: some (.long x) :: T) st h = ev d 114 220 (o0 :: o1 :: o2 :: o3 :: some (.long x) :: T) (.long x :: st) h := ev_of d_114_218 rfl
theorem d_114_220 : decode (cd 114) 220 = .ok (.lreturn, 1) := by rw [cd_114]; decide +kernel
theorem e_114_220 {d : Nat} {h : mM} {L : mLs} {v : Int64} : ev d 114 220 L [.long v] h = some (some (.long v), h) := ev_rl d_114_220 (by decide +kernel)
-- 115: Model.ahead
theorem cd_115 : cd 115 = prog_12_method_38_code := rfl
theorem d_115_0 : decode (cd 115) 0 = .ok (.aload_n 0, 1) := by rw [cd_115]; decide +kernel
theorem e_115_0 {d : Nat} {h : mM} {T : mLs} {x : Nat} {st : List Value} : ev d 115 0 ( some (.ref x) :: T) st h = ev d 115 1 ( some (.ref x) :: T) (.ref x :: st) h := ev_of d_115_0 rfl
theorem d_115_1 : decode (cd 115) 1 = .ok (.iload_n 1, 1) := by rw [cd_115]; decide +kernel
theorem e_115_1 {d : Nat} {h : mM} {o0 : Option Value} {T : mLs} {x : Int32} {st : List Value} : ev d 115 1 (o0 :: some (.int x) :: T) st h = ev d 115 2 (o0 :: some (.int x) :: T) (.int x :: st) h := ev_of d_115_1 rfl
theorem d_115_2 : decode (cd 115) 2 = .ok (.invokevirtual 132, 3) := by rw [cd_115]; decide +kernel
theorem e_115_2 {d : Nat} {h : mM} {L : mLs} {st : List Value} {a : Nat} {x0 : Int32} (hc : mCat st ≤ 8) : ev (d + 1) 115 2 L (.int x0 :: .ref a :: st) h = if mK h a = 10 then cV (ev d 81 0 [some (.ref a), some (.int x0)] [] h) (fun v h1 => ev (d + 1) 115 5 L (v ++ st) h1) else none := ev_cv (mj := 81) (as := [.int x0]) (rest := st) d_115_2 (by decide +kernel) rfl rfl (by show _ ≤ List.length _; simp only [List.length_cons]; have : na 81 = 1 := rfl; omega) rfl (Nat.le_of_ble_eq_true rfl) hc
theorem d_115_5 : decode (cd 115) 5 = .ok (.ifCond .eq 13, 3) := by rw [cd_115]; decide +kernel
theorem e_115_5 {d : Nat} {h : mM} {L : mLs} {st : List Value} {x : Int32} : ev d 115 5 L (.int x :: st) h = if x = 0 then ev d 115 18 L st h else ev d 115 8 L st h := ev_if (x = 0) inferInstance rfl d_115_5 (by decide)
theorem d_115_8 : decode (cd 115) 8 = .ok (.iload_n 2, 1) := by rw [cd_115]; decide +kernel
theorem e_115_8 {d : Nat} {h : mM} {o0 o1 : Option Value} {T : mLs} {x : Int32} {st : List Value} : ev d 115 8 (o0 :: o1 :: some (.int x) :: T) st h = ev d 115 9 (o0 :: o1 :: some (.int x) :: T) (.int x :: st) h := ev_of d_115_8 rfl
theorem d_115_9 : decode (cd 115) 9 = .ok (.iconst 0, 1) := by rw [cd_115]; decide +kernel
theorem e_115_9 {d : Nat} {h : mM} {L : mLs} {st : List Value} : ev d 115 9 L st h = ev d 115 10 L (.int 0 :: st) h := ev_of d_115_9 rfl
theorem d_115_10 : decode (cd 115) 10 = .ok (.bipush 48, 2) := by rw [cd_115]; decide +kernel
theorem e_115_10 {d : Nat} {h : mM} {L : mLs} {st : List Value} : ev d 115 10 L st h = ev d 115 12 L (.int 48 :: st) h := ev_of d_115_10 rfl
theorem d_115_12 : decode (cd 115) 12 = .ok (.invokestatic 114, 3) := by rw [cd_115]; decide +kernel
theorem e_115_12 {d : Nat} {h : mM} {L : mLs} {st : List Value} {x0 : Int32} {x1 : Int32} {x2 : Int32} (hc : mCat st ≤ 8) : ev (d + 1) 115 12 L (.int x2 :: .int x1 :: .int x0 :: st) h = cV (ev d 80 0 [some (.int x0), some (.int x1), some (.int x2)] [] h) (fun v h1 => ev (d + 1) 115 15 L (v ++ st) h1) := ev_cs (kd := 1) (mj := 80) (as := [.int x0, .int x1, .int x2]) (rest := st) d_115_12 (by decide +kernel) (by decide) rfl rfl (by show _ ≤ List.length _; simp only [List.length_cons]; have : na 80 = 3 := rfl; omega) rfl (Nat.le_of_ble_eq_true rfl) hc
theorem d_115_15 : decode (cd 115) 15 = .ok (.ifCond .ne 11, 3) := by rw [cd_115]; decide +kernel
theorem e_115_15 {d : Nat} {h : mM} {L : mLs} {st : List Value} {x : Int32} : ev d 115 15 L (.int x :: st) h = if ¬ x = 0 then ev d 115 26 L st h else ev d 115 18 L st h := ev_if (¬ x = 0) inferInstance rfl d_115_15 (by decide)
theorem d_115_18 : decode (cd 115) 18 = .ok (.aload_n 0, 1) := by rw [cd_115]; decide +kernel
theorem e_115_18 {d : Nat} {h : mM} {T : mLs} {x : Nat} {st : List Value} : ev d 115 18 ( some (.ref x) :: T) st h = ev d 115 19 ( some (.ref x) :: T) (.ref x :: st) h := ev_of d_115_18 rfl
theorem d_115_19 : decode (cd 115) 19 = .ok (.ldc2_w 121, 3) := by rw [cd_115]; decide +kernel
theorem e_115_19 {d : Nat} {h : mM} {L : mLs} {st : List Value} : ev d 115 19 L st h = ev d 115 22 L (.long (-1000000001) :: st) h := ev_of d_115_19 rfl
theorem d_115_22 : decode (cd 115) 22 = .ok (.invokevirtual 123, 3) := by rw [cd_115]; decide +kernel
theorem e_115_22 {d : Nat} {h : mM} {L : mLs} {st : List Value} {a : Nat} {x0 : Int64} (hc : mCat st ≤ 8) : ev (d + 1) 115 22 L (.long x0 :: .ref a :: st) h = if mK h a = 10 then cV (ev d 79 0 [some (.ref a), some (.long x0), none] [] h) (fun v h1 => ev (d + 1) 115 25 L (v ++ st) h1) else none := ev_cv (mj := 79) (as := [.long x0]) (rest := st) d_115_22 (by decide +kernel) rfl rfl (by show _ ≤ List.length _; simp only [List.length_cons]; have : na 79 = 1 := rfl; omega) rfl (Nat.le_of_ble_eq_true rfl) hc
theorem d_115_25 : decode (cd 115) 25 = .ok (.lreturn, 1) := by rw [cd_115]; decide +kernel
theorem e_115_25 {d : Nat} {h : mM} {L : mLs} {v : Int64} : ev d 115 25 L [.long v] h = some (some (.long v), h) := ev_rl d_115_25 (by decide +kernel)
theorem d_115_26 : decode (cd 115) 26 = .ok (.aload_n 0, 1) := by rw [cd_115]; decide +kernel
theorem e_115_26 {d : Nat} {h : mM} {T : mLs} {x : Nat} {st : List Value} : ev d 115 26 ( some (.ref x) :: T) st h = ev d 115 27 ( some (.ref x) :: T) (.ref x :: st) h := ev_of d_115_26 rfl
theorem d_115_27 : decode (cd 115) 27 = .ok (.invokevirtual 199, 3) := by rw [cd_115]; decide +kernel
theorem e_115_27 {d : Nat} {h : mM} {L : mLs} {st : List Value} {a : Nat} (hc : mCat st ≤ 8) : ev (d + 1) 115 27 L (.ref a :: st) h = if mK h a = 10 then cV (ev d 111 0 [some (.ref a), none] [] h) (fun v h1 => ev (d + 1) 115 30 L (v ++ st) h1) else none := ev_cv (mj := 111) (as := []) (rest := st) d_115_27 (by decide +kernel) rfl rfl (by show _ ≤ List.length _; simp only [List.length_cons]; have : na 111 = 0 := rfl; omega) rfl (Nat.le_of_ble_eq_true rfl) hc
theorem d_115_30 : decode (cd 115) 30 = .ok (.iconst 0, 1) := by rw [cd_115]; decide +kernel
theorem e_115_30 {d : Nat} {h : mM} {L : mLs} {st : List Value} : ev d 115 30 L st h = ev d 115 31 L (.int 0 :: st) h := ev_of d_115_30 rfl
theorem d_115_31 : decode (cd 115) 31 = .ok (.istore_n 3, 1) := by rw [cd_115]; decide +kernel
theorem e_115_31 {d : Nat} {h : mM} {o0 o1 o2 o3 : Option Value} {T : mLs} {x : Int32} {st : List Value} (hl : mLong o2 = false) : ev d 115 31 (o0 :: o1 :: o2 :: o3 :: T) (.int x :: st) h = ev d 115 32 (o0 :: o1 :: o2 :: some (.int x) :: T) st h := ev_st_in d_115_31 (by decide +kernel) (mS1_s (j := 2) hl)
theorem d_115_32 : decode (cd 115) 32 = .ok (.iload_n 3, 1) := by rw [cd_115]; decide +kernel
theorem e_115_32 {d : Nat} {h : mM} {o0 o1 o2 : Option Value} {T : mLs} {x : Int32} {st : List Value} : ev d 115 32 (o0 :: o1 :: o2 :: some (.int x) :: T) st h = ev d 115 33 (o0 :: o1 :: o2 :: some (.int x) :: T) (.int x :: st) h := ev_of d_115_32 rfl
theorem d_115_33 : decode (cd 115) 33 = .ok (.iload_n 2, 1) := by rw [cd_115]; decide +kernel
theorem e_115_33 {d : Nat} {h : mM} {o0 o1 : Option Value} {T : mLs} {x : Int32} {st : List Value} : ev d 115 33 (o0 :: o1 :: some (.int x) :: T) st h = ev d 115 34 (o0 :: o1 :: some (.int x) :: T) (.int x :: st) h := ev_of d_115_33 rfl
theorem d_115_34 : decode (cd 115) 34 = .ok (.if_icmp .ge 28, 3) := by rw [cd_115]; decide +kernel
theorem e_115_34 {d : Nat} {h : mM} {L : mLs} {st : List Value} {x y : Int32} : ev d 115 34 L (.int y :: .int x :: st) h = if y ≤ x then ev d 115 62 L st h else ev d 115 37 L st h := ev_ic (y ≤ x) inferInstance rfl d_115_34 (by decide)
theorem d_115_37 : decode (cd 115) 37 = .ok (.aload_n 0, 1) := by rw [cd_115]; decide +kernel
theorem e_115_37 {d : Nat} {h : mM} {T : mLs} {x : Nat} {st : List Value} : ev d 115 37 ( some (.ref x) :: T) st h = ev d 115 38 ( some (.ref x) :: T) (.ref x :: st) h := ev_of d_115_37 rfl
theorem d_115_38 : decode (cd 115) 38 = .ok (.aload_n 0, 1) := by rw [cd_115]; decide +kernel
theorem e_115_38 {d : Nat} {h : mM} {T : mLs} {x : Nat} {st : List Value} : ev d 115 38 ( some (.ref x) :: T) st h = ev d 115 39 ( some (.ref x) :: T) (.ref x :: st) h := ev_of d_115_38 rfl
theorem d_115_39 : decode (cd 115) 39 = .ok (.getfield 93, 3) := by rw [cd_115]; decide +kernel
theorem e_115_39 {d : Nat} {h : mM} {L : mLs} {st : List Value} {a : Nat} : ev d 115 39 L (.ref a :: st) h = if mK h a = 10 then oB (mR h a 33) (fun b => ev d 115 42 L (.ref b :: st) h) else none := ev_gR d_115_39 (by decide +kernel) (by decide +kernel)
theorem d_115_42 : decode (cd 115) 42 = .ok (.aload_n 0, 1) := by rw [cd_115]; decide +kernel
theorem e_115_42 {d : Nat} {h : mM} {T : mLs} {x : Nat} {st : List Value} : ev d 115 42 ( some (.ref x) :: T) st h = ev d 115 43 ( some (.ref x) :: T) (.ref x :: st) h := ev_of d_115_42 rfl
theorem d_115_43 : decode (cd 115) 43 = .ok (.getfield 147, 3) := by rw [cd_115]; decide +kernel
theorem e_115_43 {d : Nat} {h : mM} {L : mLs} {st : List Value} {a : Nat} : ev d 115 43 L (.ref a :: st) h = if mK h a = 10 then ev d 115 46 L (.int (mI h a 0) :: st) h else none := ev_gI d_115_43 (by decide +kernel) (by decide +kernel)
theorem d_115_46 : decode (cd 115) 46 = .ok (.iload_n 3, 1) := by rw [cd_115]; decide +kernel
theorem e_115_46 {d : Nat} {h : mM} {o0 o1 o2 : Option Value} {T : mLs} {x : Int32} {st : List Value} : ev d 115 46 (o0 :: o1 :: o2 :: some (.int x) :: T) st h = ev d 115 47 (o0 :: o1 :: o2 :: some (.int x) :: T) (.int x :: st) h := ev_of d_115_46 rfl
theorem d_115_47 : decode (cd 115) 47 = .ok (.iadd, 1) := by rw [cd_115]; decide +kernel
theorem e_115_47 {d : Nat} {h : mM} {L : mLs} {st : List Value} {x y : Int32} : ev d 115 47 L (.int y :: .int x :: st) h = ev d 115 48 L (.int (x + y) :: st) h := ev_of d_115_47 rfl
theorem d_115_48 : decode (cd 115) 48 = .ok (.aload_n 0, 1) := by rw [cd_115]; decide +kernel
theorem e_115_48 {d : Nat} {h : mM} {T : mLs} {x : Nat} {st : List Value} : ev d 115 48 ( some (.ref x) :: T) st h = ev d 115 49 ( some (.ref x) :: T) (.ref x :: st) h := ev_of d_115_48 rfl
theorem d_115_49 : decode (cd 115) 49 = .ok (.getfield 144, 3) := by rw [cd_115]; decide +kernel
theorem e_115_49 {d : Nat} {h : mM} {L : mLs} {st : List Value} {a : Nat} : ev d 115 49 L (.ref a :: st) h = if mK h a = 10 then ev d 115 52 L (.int (mI h a 24) :: st) h else none := ev_gI d_115_49 (by decide +kernel) (by decide +kernel)
theorem d_115_52 : decode (cd 115) 52 = .ok (.iconst 0, 1) := by rw [cd_115]; decide +kernel
theorem e_115_52 {d : Nat} {h : mM} {L : mLs} {st : List Value} : ev d 115 52 L st h = ev d 115 53 L (.int 0 :: st) h := ev_of d_115_52 rfl
theorem d_115_53 : decode (cd 115) 53 = .ok (.invokevirtual 195, 3) := by rw [cd_115]; decide +kernel
theorem e_115_53 {d : Nat} {h : mM} {L : mLs} {st : List Value} {a : Nat} {x0 : Nat} {x1 : Int32} {x2 : Int32} {x3 : Int32} (hc : mCat st ≤ 8) : ev (d + 1) 115 53 L (.int x3 :: .int x2 :: .int x1 :: .ref x0 :: .ref a :: st) h = if mK h a = 10 then cV (ev d 110 0 [some (.ref a), some (.ref x0), some (.int x1), some (.int x2), some (.int x3), none] [] h) (fun v h1 => ev (d + 1) 115 56 L (v ++ st) h1) else none := ev_cv (mj := 110) (as := [.ref x0, .int x1, .int x2, .int x3]) (rest := st) d_115_53 (by decide +kernel) rfl rfl (by show _ ≤ List.length _; simp only [List.length_cons]; have : na 110 = 4 := rfl; omega) rfl (Nat.le_of_ble_eq_true rfl) hc
theorem d_115_56 : decode (cd 115) 56 = .ok (.iinc 3 1, 3) := by rw [cd_115]; decide +kernel
theorem e_115_56 {d : Nat} {h : mM} {o0 o1 o2 : Option Value} {T : mLs} {x : Int32} {st : List Value} (hl : mLong o2 = false) : ev d 115 56 (o0 :: o1 :: o2 :: some (.int x) :: T) st h = ev d 115 59 (o0 :: o1 :: o2 :: some (.int (x + 1)) :: T) st h := ev_inc d_115_56 (by decide +kernel) rfl rfl (mS1_s (j := 2) hl)
theorem d_115_59 : decode (cd 115) 59 = .ok (.goto (-27), 3) := by rw [cd_115]; decide +kernel
theorem e_115_59 {d : Nat} {h : mM} {L : mLs} {st : List Value} : ev d 115 59 L st h = ev d 115 32 L st h := ev_go d_115_59 (by decide)
theorem d_115_62 : decode (cd 115) 62 = .ok (.aload_n 0, 1) := by rw [cd_115]; decide +kernel
theorem e_115_62 {d : Nat} {h : mM} {T : mLs} {x : Nat} {st : List Value} : ev d 115 62 ( some (.ref x) :: T) st h = ev d 115 63 ( some (.ref x) :: T) (.ref x :: st) h := ev_of d_115_62 rfl
theorem d_115_63 : decode (cd 115) 63 = .ok (.getfield 93, 3) := by rw [cd_115]; decide +kernel
theorem e_115_63 {d : Nat} {h : mM} {L : mLs} {st : List Value} {a : Nat} : ev d 115 63 L (.ref a :: st) h = if mK h a = 10 then oB (mR h a 33) (fun b => ev d 115 66 L (.ref b :: st) h) else none := ev_gR d_115_63 (by decide +kernel) (by decide +kernel)
theorem d_115_66 : decode (cd 115) 66 = .ok (.iload_n 1, 1) := by rw [cd_115]; decide +kernel
theorem e_115_66 {d : Nat} {h : mM} {o0 : Option Value} {T : mLs} {x : Int32} {st : List Value} : ev d 115 66 (o0 :: some (.int x) :: T) st h = ev d 115 67 (o0 :: some (.int x) :: T) (.int x :: st) h := ev_of d_115_66 rfl
theorem d_115_67 : decode (cd 115) 67 = .ok (.iaload, 1) := by rw [cd_115]; decide +kernel
theorem e_115_67 {d : Nat} {h : mM} {L : mLs} {st : List Value} {a : Nat} {i : Int32} : ev d 115 67 L (.int i :: .ref a :: st) h = if (mK h a = 11 ∨ mK h a = 19) ∧ ixOK i (mL h a) = true then ev d 115 68 L (.int (mI h a i.toNatClampNeg) :: st) h else none := ev_ia d_115_67
theorem d_115_68 : decode (cd 115) 68 = .ok (.aload_n 0, 1) := by rw [cd_115]; decide +kernel
theorem e_115_68 {d : Nat} {h : mM} {T : mLs} {x : Nat} {st : List Value} : ev d 115 68 ( some (.ref x) :: T) st h = ev d 115 69 ( some (.ref x) :: T) (.ref x :: st) h := ev_of d_115_68 rfl
theorem d_115_69 : decode (cd 115) 69 = .ok (.getfield 17, 3) := by rw [cd_115]; decide +kernel
theorem e_115_69 {d : Nat} {h : mM} {L : mLs} {st : List Value} {a : Nat} : ev d 115 69 L (.ref a :: st) h = if mK h a = 10 then oB (mR h a 4) (fun b => ev d 115 72 L (.ref b :: st) h) else none := ev_gR d_115_69 (by decide +kernel) (by decide +kernel)
theorem d_115_72 : decode (cd 115) 72 = .ok (.iload_n 1, 1) := by rw [cd_115]; decide +kernel
theorem e_115_72 {d : Nat} {h : mM} {o0 : Option Value} {T : mLs} {x : Int32} {st : List Value} : ev d 115 72 (o0 :: some (.int x) :: T) st h = ev d 115 73 (o0 :: some (.int x) :: T) (.int x :: st) h := ev_of d_115_72 rfl
theorem d_115_73 : decode (cd 115) 73 = .ok (.iaload, 1) := by rw [cd_115]; decide +kernel
theorem e_115_73 {d : Nat} {h : mM} {L : mLs} {st : List Value} {a : Nat} {i : Int32} : ev d 115 73 L (.int i :: .ref a :: st) h = if (mK h a = 11 ∨ mK h a = 19) ∧ ixOK i (mL h a) = true then ev d 115 74 L (.int (mI h a i.toNatClampNeg) :: st) h else none := ev_ia d_115_73
theorem d_115_74 : decode (cd 115) 74 = .ok (.idiv, 1) := by rw [cd_115]; decide +kernel
theorem e_115_74 {d : Nat} {h : mM} {L : mLs} {st : List Value} {x y : Int32} : ev d 115 74 L (.int y :: .int x :: st) h = if y = 0 then none else ev d 115 75 L (.int (x / y) :: st) h := ev_div d_115_74
theorem d_115_75 : decode (cd 115) 75 = .ok (.i2l, 1) := by rw [cd_115]; decide +kernel
theorem e_115_75 {d : Nat} {h : mM} {L : mLs} {st : List Value} {x : Int32} : ev d 115 75 L (.int x :: st) h = ev d 115 76 L (.long x.toInt64 :: st) h := ev_of d_115_75 rfl
theorem d_115_76 : decode (cd 115) 76 = .ok (.lreturn, 1) := by rw [cd_115]; decide +kernel
theorem e_115_76 {d : Nat} {h : mM} {L : mLs} {v : Int64} : ev d 115 76 L [.long v] h = some (some (.long v), h) := ev_rl d_115_76 (by decide +kernel)
-- 116: Model.all
theorem cd_116 : cd 116 = prog_12_method_39_code := rfl
theorem d_116_0 : decode (cd 116) 0 = .ok (.iload_n 1, 1) := by rw [cd_116]; decide +kernel
theorem e_116_0 {d : Nat} {h : mM} {o0 : Option Value} {T : mLs} {x : Int32} {st : List Value} : ev d 116 0 (o0 :: some (.int x) :: T) st h = ev d 116 1 (o0 :: some (.int x) :: T) (.int x :: st) h := ev_of d_116_0 rfl
theorem d_116_1 : decode (cd 116) 1 = .ok (.iconst 0, 1) := by rw [cd_116]; decide +kernel
theorem e_116_1 {d : Nat} {h : mM} {L : mLs} {st : List Value} : ev d 116 1 L st h = ev d 116 2 L (.int 0 :: st) h := ev_of d_116_1 rfl
theorem d_116_2 : decode (cd 116) 2 = .ok (.iconst 5, 1) := by rw [cd_116]; decide +kernel
theorem e_116_2 {d : Nat} {h : mM} {L : mLs} {st : List Value} : ev d 116 2 L st h = ev d 116 3 L (.int 5 :: st) h := ev_of d_116_2 rfl
theorem d_116_3 : decode (cd 116) 3 = .ok (.invokestatic 114, 3) := by rw [cd_116]; decide +kernel
theorem e_116_3 {d : Nat} {h : mM} {L : mLs} {st : List Value} {x0 : Int32} {x1 : Int32} {x2 : Int32} (hc : mCat st ≤ 8) : ev (d + 1) 116 3 L (.int x2 :: .int x1 :: .int x0 :: st) h = cV (ev d 80 0 [some (.int x0), some (.int x1), some (.int x2)] [] h) (fun v h1 => ev (d + 1) 116 6 L (v ++ st) h1) := ev_cs (kd := 1) (mj := 80) (as := [.int x0, .int x1, .int x2]) (rest := st) d_116_3 (by decide +kernel) (by decide) rfl rfl (by show _ ≤ List.length _; simp only [List.length_cons]; have : na 80 = 3 := rfl; omega) rfl (Nat.le_of_ble_eq_true rfl) hc
theorem d_116_6 : decode (cd 116) 6 = .ok (.ifCond .ne 11, 3) := by rw [cd_116]; decide +kernel
theorem e_116_6 {d : Nat} {h : mM} {L : mLs} {st : List Value} {x : Int32} : ev d 116 6 L (.int x :: st) h = if ¬ x = 0 then ev d 116 17 L st h else ev d 116 9 L st h := ev_if (¬ x = 0) inferInstance rfl d_116_6 (by decide)
theorem d_116_9 : decode (cd 116) 9 = .ok (.aload_n 0, 1) := by rw [cd_116]; decide +kernel
theorem e_116_9 {d : Nat} {h : mM} {T : mLs} {x : Nat} {st : List Value} : ev d 116 9 ( some (.ref x) :: T) st h = ev d 116 10 ( some (.ref x) :: T) (.ref x :: st) h := ev_of d_116_9 rfl
theorem d_116_10 : decode (cd 116) 10 = .ok (.ldc2_w 121, 3) := by rw [cd_116]; decide +kernel
theorem e_116_10 {d : Nat} {h : mM} {L : mLs} {st : List Value} : ev d 116 10 L st h = ev d 116 13 L (.long (-1000000001) :: st) h := ev_of d_116_10 rfl
theorem d_116_13 : decode (cd 116) 13 = .ok (.invokevirtual 123, 3) := by rw [cd_116]; decide +kernel
theorem e_116_13 {d : Nat} {h : mM} {L : mLs} {st : List Value} {a : Nat} {x0 : Int64} (hc : mCat st ≤ 8) : ev (d + 1) 116 13 L (.long x0 :: .ref a :: st) h = if mK h a = 10 then cV (ev d 79 0 [some (.ref a), some (.long x0), none] [] h) (fun v h1 => ev (d + 1) 116 16 L (v ++ st) h1) else none := ev_cv (mj := 79) (as := [.long x0]) (rest := st) d_116_13 (by decide +kernel) rfl rfl (by show _ ≤ List.length _; simp only [List.length_cons]; have : na 79 = 1 := rfl; omega) rfl (Nat.le_of_ble_eq_true rfl) hc
theorem d_116_16 : decode (cd 116) 16 = .ok (.lreturn, 1) := by rw [cd_116]; decide +kernel
theorem e_116_16 {d : Nat} {h : mM} {L : mLs} {v : Int64} : ev d 116 16 L [.long v] h = some (some (.long v), h) := ev_rl d_116_16 (by decide +kernel)
theorem d_116_17 : decode (cd 116) 17 = .ok (.lconst 0, 1) := by rw [cd_116]; decide +kernel
theorem e_116_17 {d : Nat} {h : mM} {L : mLs} {st : List Value} : ev d 116 17 L st h = ev d 116 18 L (.long 0 :: st) h := ev_of d_116_17 rfl
theorem d_116_18 : decode (cd 116) 18 = .ok (.lstore_n 2, 1) := by rw [cd_116]; decide +kernel
theorem e_116_18 {d : Nat} {h : mM} {o0 o1 o2 o3 : Option Value} {T : mLs} {x : Int64} {st : List Value} (hl : mLong o1 = false) : ev d 116 18 (o0 :: o1 :: o2 :: o3 :: T) (.long x :: st) h = ev d 116 19 (o0 :: o1 :: some (.long x) :: none :: T) st h := ev_st_ln d_116_18 (by decide +kernel) (mS2_s (j := 1) hl)
theorem d_116_19 : decode (cd 116) 19 = .ok (.iconst 0, 1) := by rw [cd_116]; decide +kernel
theorem e_116_19 {d : Nat} {h : mM} {L : mLs} {st : List Value} : ev d 116 19 L st h = ev d 116 20 L (.int 0 :: st) h := ev_of d_116_19 rfl
theorem d_116_20 : decode (cd 116) 20 = .ok (.istore 4, 2) := by rw [cd_116]; decide +kernel
theorem e_116_20 {d : Nat} {h : mM} {o0 o1 o2 o3 o4 : Option Value} {T : mLs} {x : Int32} {st : List Value} (hl : mLong o3 = false) : ev d 116 20 (o0 :: o1 :: o2 :: o3 :: o4 :: T) (.int x :: st) h = ev d 116 22 (o0 :: o1 :: o2 :: o3 :: some (.int x) :: T) st h := ev_st_i d_116_20 (by decide +kernel) (mS1_s (j := 3) hl)
theorem d_116_22 : decode (cd 116) 22 = .ok (.iload 4, 2) := by rw [cd_116]; decide +kernel
theorem e_116_22 {d : Nat} {h : mM} {o0 o1 o2 o3 : Option Value} {T : mLs} {x : Int32} {st : List Value} : ev d 116 22 (o0 :: o1 :: o2 :: o3 :: some (.int x) :: T) st h = ev d 116 24 (o0 :: o1 :: o2 :: o3 :: some (.int x) :: T) (.int x :: st) h := ev_of d_116_22 rfl
theorem d_116_24 : decode (cd 116) 24 = .ok (.aload_n 0, 1) := by rw [cd_116]; decide +kernel
theorem e_116_24 {d : Nat} {h : mM} {T : mLs} {x : Nat} {st : List Value} : ev d 116 24 ( some (.ref x) :: T) st h = ev d 116 25 ( some (.ref x) :: T) (.ref x :: st) h := ev_of d_116_24 rfl
theorem d_116_25 : decode (cd 116) 25 = .ok (.getfield 111, 3) := by rw [cd_116]; decide +kernel
theorem e_116_25 {d : Nat} {h : mM} {L : mLs} {st : List Value} {a : Nat} : ev d 116 25 L (.ref a :: st) h = if mK h a = 10 then ev d 116 28 L (.int (mI h a 3) :: st) h else none := ev_gI d_116_25 (by decide +kernel) (by decide +kernel)
theorem d_116_28 : decode (cd 116) 28 = .ok (.if_icmp .ge 20, 3) := by rw [cd_116]; decide +kernel
theorem e_116_28 {d : Nat} {h : mM} {L : mLs} {st : List Value} {x y : Int32} : ev d 116 28 L (.int y :: .int x :: st) h = if y ≤ x then ev d 116 48 L st h else ev d 116 31 L st h := ev_ic (y ≤ x) inferInstance rfl d_116_28 (by decide)
theorem d_116_31 : decode (cd 116) 31 = .ok (.lload_n 2, 1) := by rw [cd_116]; decide +kernel
theorem e_116_31 {d : Nat} {h : mM} {o0 o1 : Option Value} {T : mLs} {x : Int64} {st : List Value} : ev d 116 31 (o0 :: o1 :: some (.long x) :: T) st h = ev d 116 32 (o0 :: o1 :: some (.long x) :: T) (.long x :: st) h := ev_of d_116_31 rfl
theorem d_116_32 : decode (cd 116) 32 = .ok (.aload_n 0, 1) := by rw [cd_116]; decide +kernel
theorem e_116_32 {d : Nat} {h : mM} {T : mLs} {x : Nat} {st : List Value} : ev d 116 32 ( some (.ref x) :: T) st h = ev d 116 33 ( some (.ref x) :: T) (.ref x :: st) h := ev_of d_116_32 rfl
theorem d_116_33 : decode (cd 116) 33 = .ok (.getfield 29, 3) := by rw [cd_116]; decide +kernel
theorem e_116_33 {d : Nat} {h : mM} {L : mLs} {st : List Value} {a : Nat} : ev d 116 33 L (.ref a :: st) h = if mK h a = 10 then oB (mR h a 8) (fun b => ev d 116 36 L (.ref b :: st) h) else none := ev_gR d_116_33 (by decide +kernel) (by decide +kernel)
theorem d_116_36 : decode (cd 116) 36 = .ok (.iload 4, 2) := by rw [cd_116]; decide +kernel
theorem e_116_36 {d : Nat} {h : mM} {o0 o1 o2 o3 : Option Value} {T : mLs} {x : Int32} {st : List Value} : ev d 116 36 (o0 :: o1 :: o2 :: o3 :: some (.int x) :: T) st h = ev d 116 38 (o0 :: o1 :: o2 :: o3 :: some (.int x) :: T) (.int x :: st) h := ev_of d_116_36 rfl
theorem d_116_38 : decode (cd 116) 38 = .ok (.iaload, 1) := by rw [cd_116]; decide +kernel
theorem e_116_38 {d : Nat} {h : mM} {L : mLs} {st : List Value} {a : Nat} {i : Int32} : ev d 116 38 L (.int i :: .ref a :: st) h = if (mK h a = 11 ∨ mK h a = 19) ∧ ixOK i (mL h a) = true then ev d 116 39 L (.int (mI h a i.toNatClampNeg) :: st) h else none := ev_ia d_116_38
theorem d_116_39 : decode (cd 116) 39 = .ok (.i2l, 1) := by rw [cd_116]; decide +kernel
theorem e_116_39 {d : Nat} {h : mM} {L : mLs} {st : List Value} {x : Int32} : ev d 116 39 L (.int x :: st) h = ev d 116 40 L (.long x.toInt64 :: st) h := ev_of d_116_39 rfl
theorem d_116_40 : decode (cd 116) 40 = .ok (.ladd, 1) := by rw [cd_116]; decide +kernel
theorem e_116_40 {d : Nat} {h : mM} {L : mLs} {st : List Value} {x y : Int64} : ev d 116 40 L (.long y :: .long x :: st) h = ev d 116 41 L (.long (x + y) :: st) h := ev_of d_116_40 rfl
theorem d_116_41 : decode (cd 116) 41 = .ok (.lstore_n 2, 1) := by rw [cd_116]; decide +kernel
theorem e_116_41 {d : Nat} {h : mM} {o0 o1 o2 o3 : Option Value} {T : mLs} {x : Int64} {st : List Value} (hl : mLong o1 = false) : ev d 116 41 (o0 :: o1 :: o2 :: o3 :: T) (.long x :: st) h = ev d 116 42 (o0 :: o1 :: some (.long x) :: none :: T) st h := ev_st_ln d_116_41 (by decide +kernel) (mS2_s (j := 1) hl)
theorem d_116_42 : decode (cd 116) 42 = .ok (.iinc 4 1, 3) := by rw [cd_116]; decide +kernel
theorem e_116_42 {d : Nat} {h : mM} {o0 o1 o2 o3 : Option Value} {T : mLs} {x : Int32} {st : List Value} (hl : mLong o3 = false) : ev d 116 42 (o0 :: o1 :: o2 :: o3 :: some (.int x) :: T) st h = ev d 116 45 (o0 :: o1 :: o2 :: o3 :: some (.int (x + 1)) :: T) st h := ev_inc d_116_42 (by decide +kernel) rfl rfl (mS1_s (j := 3) hl)
theorem d_116_45 : decode (cd 116) 45 = .ok (.goto (-23), 3) := by rw [cd_116]; decide +kernel
theorem e_116_45 {d : Nat} {h : mM} {L : mLs} {st : List Value} : ev d 116 45 L st h = ev d 116 22 L st h := ev_go d_116_45 (by decide)
theorem d_116_48 : decode (cd 116) 48 = .ok (.iload_n 1, 1) := by rw [cd_116]; decide +kernel
theorem e_116_48 {d : Nat} {h : mM} {o0 : Option Value} {T : mLs} {x : Int32} {st : List Value} : ev d 116 48 (o0 :: some (.int x) :: T) st h = ev d 116 49 (o0 :: some (.int x) :: T) (.int x :: st) h := ev_of d_116_48 rfl
theorem d_116_49 : decode (cd 116) 49 = .ok (.ifCond .ne 7, 3) := by rw [cd_116]; decide +kernel
theorem e_116_49 {d : Nat} {h : mM} {L : mLs} {st : List Value} {x : Int32} : ev d 116 49 L (.int x :: st) h = if ¬ x = 0 then ev d 116 56 L st h else ev d 116 52 L st h := ev_if (¬ x = 0) inferInstance rfl d_116_49 (by decide)
theorem d_116_52 : decode (cd 116) 52 = .ok (.lload_n 2, 1) := by rw [cd_116]; decide +kernel
theorem e_116_52 {d : Nat} {h : mM} {o0 o1 : Option Value} {T : mLs} {x : Int64} {st : List Value} : ev d 116 52 (o0 :: o1 :: some (.long x) :: T) st h = ev d 116 53 (o0 :: o1 :: some (.long x) :: T) (.long x :: st) h := ev_of d_116_52 rfl
theorem d_116_53 : decode (cd 116) 53 = .ok (.goto 11, 3) := by rw [cd_116]; decide +kernel
theorem e_116_53 {d : Nat} {h : mM} {L : mLs} {st : List Value} : ev d 116 53 L st h = ev d 116 64 L st h := ev_go d_116_53 (by decide)
theorem d_116_56 : decode (cd 116) 56 = .ok (.aload_n 0, 1) := by rw [cd_116]; decide +kernel
theorem e_116_56 {d : Nat} {h : mM} {T : mLs} {x : Nat} {st : List Value} : ev d 116 56 ( some (.ref x) :: T) st h = ev d 116 57 ( some (.ref x) :: T) (.ref x :: st) h := ev_of d_116_56 rfl
theorem d_116_57 : decode (cd 116) 57 = .ok (.getfield 84, 3) := by rw [cd_116]; decide +kernel
theorem e_116_57 {d : Nat} {h : mM} {L : mLs} {st : List Value} {a : Nat} : ev d 116 57 L (.ref a :: st) h = if mK h a = 10 then oB (mR h a 29) (fun b => ev d 116 60 L (.ref b :: st) h) else none := ev_gR d_116_57 (by decide +kernel) (by decide +kernel)
theorem d_116_60 : decode (cd 116) 60 = .ok (.iload_n 1, 1) := by rw [cd_116]; decide +kernel
theorem e_116_60 {d : Nat} {h : mM} {o0 : Option Value} {T : mLs} {x : Int32} {st : List Value} : ev d 116 60 (o0 :: some (.int x) :: T) st h = ev d 116 61 (o0 :: some (.int x) :: T) (.int x :: st) h := ev_of d_116_60 rfl
theorem d_116_61 : decode (cd 116) 61 = .ok (.iconst 1, 1) := by rw [cd_116]; decide +kernel
theorem e_116_61 {d : Nat} {h : mM} {L : mLs} {st : List Value} : ev d 116 61 L st h = ev d 116 62 L (.int 1 :: st) h := ev_of d_116_61 rfl
theorem d_116_62 : decode (cd 116) 62 = .ok (.isub, 1) := by rw [cd_116]; decide +kernel
theorem e_116_62 {d : Nat} {h : mM} {L : mLs} {st : List Value} {x y : Int32} : ev d 116 62 L (.int y :: .int x :: st) h = ev d 116 63 L (.int (x - y) :: st) h := ev_of d_116_62 rfl
theorem d_116_63 : decode (cd 116) 63 = .ok (.laload, 1) := by rw [cd_116]; decide +kernel
theorem e_116_63 {d : Nat} {h : mM} {L : mLs} {st : List Value} {a : Nat} {i : Int32} : ev d 116 63 L (.int i :: .ref a :: st) h = if mK h a = 12 ∧ ixOK i (mL h a) = true then ev d 116 64 L (.long (mJ h a i.toNatClampNeg) :: st) h else none := ev_la d_116_63
theorem d_116_64 : decode (cd 116) 64 = .ok (.lreturn, 1) := by rw [cd_116]; decide +kernel
theorem e_116_64 {d : Nat} {h : mM} {L : mLs} {v : Int64} : ev d 116 64 L [.long v] h = some (some (.long v), h) := ev_rl d_116_64 (by decide +kernel)
-- 117: Model.tell
theorem cd_117 : cd 117 = prog_12_method_40_code := rfl
theorem d_117_0 : decode (cd 117) 0 = .ok (.aload_n 0, 1) := by rw [cd_117]; decide +kernel
theorem e_117_0 {d : Nat} {h : mM} {T : mLs} {x : Nat} {st : List Value} : ev d 117 0 ( some (.ref x) :: T) st h = ev d 117 1 ( some (.ref x) :: T) (.ref x :: st) h := ev_of d_117_0 rfl
theorem d_117_1 : decode (cd 117) 1 = .ok (.getfield 204, 3) := by rw [cd_117]; decide +kernel
theorem e_117_1 {d : Nat} {h : mM} {L : mLs} {st : List Value} {a : Nat} : ev d 117 1 L (.ref a :: st) h = if mK h a = 10 then ev d 117 4 L (.int (mI h a 30) :: st) h else none := ev_gI d_117_1 (by decide +kernel) (by decide +kernel)
theorem d_117_4 : decode (cd 117) 4 = .ok (.bipush 24, 2) := by rw [cd_117]; decide +kernel
theorem e_117_4 {d : Nat} {h : mM} {L : mLs} {st : List Value} : ev d 117 4 L st h = ev d 117 6 L (.int 24 :: st) h := ev_of d_117_4 rfl
theorem d_117_6 : decode (cd 117) 6 = .ok (.if_icmp .ne 11, 3) := by rw [cd_117]; decide +kernel
theorem e_117_6 {d : Nat} {h : mM} {L : mLs} {st : List Value} {x y : Int32} : ev d 117 6 L (.int y :: .int x :: st) h = if ¬ x = y then ev d 117 17 L st h else ev d 117 9 L st h := ev_ic (¬ x = y) inferInstance rfl d_117_6 (by decide)
theorem d_117_9 : decode (cd 117) 9 = .ok (.aload_n 0, 1) := by rw [cd_117]; decide +kernel
theorem e_117_9 {d : Nat} {h : mM} {T : mLs} {x : Nat} {st : List Value} : ev d 117 9 ( some (.ref x) :: T) st h = ev d 117 10 ( some (.ref x) :: T) (.ref x :: st) h := ev_of d_117_9 rfl
theorem d_117_10 : decode (cd 117) 10 = .ok (.ldc2_w 130, 3) := by rw [cd_117]; decide +kernel
theorem e_117_10 {d : Nat} {h : mM} {L : mLs} {st : List Value} : ev d 117 10 L st h = ev d 117 13 L (.long (-1000000004) :: st) h := ev_of d_117_10 rfl
theorem d_117_13 : decode (cd 117) 13 = .ok (.invokevirtual 123, 3) := by rw [cd_117]; decide +kernel
theorem e_117_13 {d : Nat} {h : mM} {L : mLs} {st : List Value} {a : Nat} {x0 : Int64} (hc : mCat st ≤ 8) : ev (d + 1) 117 13 L (.long x0 :: .ref a :: st) h = if mK h a = 10 then cV (ev d 79 0 [some (.ref a), some (.long x0), none] [] h) (fun v h1 => ev (d + 1) 117 16 L (v ++ st) h1) else none := ev_cv (mj := 79) (as := [.long x0]) (rest := st) d_117_13 (by decide +kernel) rfl rfl (by show _ ≤ List.length _; simp only [List.length_cons]; have : na 79 = 1 := rfl; omega) rfl (Nat.le_of_ble_eq_true rfl) hc
theorem d_117_16 : decode (cd 117) 16 = .ok (.lreturn, 1) := by rw [cd_117]; decide +kernel
theorem e_117_16 {d : Nat} {h : mM} {L : mLs} {v : Int64} : ev d 117 16 L [.long v] h = some (some (.long v), h) := ev_rl d_117_16 (by decide +kernel)
theorem d_117_17 : decode (cd 117) 17 = .ok (.aload_n 0, 1) := by rw [cd_117]; decide +kernel
theorem e_117_17 {d : Nat} {h : mM} {T : mLs} {x : Nat} {st : List Value} : ev d 117 17 ( some (.ref x) :: T) st h = ev d 117 18 ( some (.ref x) :: T) (.ref x :: st) h := ev_of d_117_17 rfl
theorem d_117_18 : decode (cd 117) 18 = .ok (.getfield 87, 3) := by rw [cd_117]; decide +kernel
theorem e_117_18 {d : Nat} {h : mM} {L : mLs} {st : List Value} {a : Nat} : ev d 117 18 L (.ref a :: st) h = if mK h a = 10 then oB (mR h a 31) (fun b => ev d 117 21 L (.ref b :: st) h) else none := ev_gR d_117_18 (by decide +kernel) (by decide +kernel)
theorem d_117_21 : decode (cd 117) 21 = .ok (.aload_n 0, 1) := by rw [cd_117]; decide +kernel
theorem e_117_21 {d : Nat} {h : mM} {T : mLs} {x : Nat} {st : List Value} : ev d 117 21 ( some (.ref x) :: T) st h = ev d 117 22 ( some (.ref x) :: T) (.ref x :: st) h := ev_of d_117_21 rfl
theorem d_117_22 : decode (cd 117) 22 = .ok (.getfield 204, 3) := by rw [cd_117]; decide +kernel
theorem e_117_22 {d : Nat} {h : mM} {L : mLs} {st : List Value} {a : Nat} : ev d 117 22 L (.ref a :: st) h = if mK h a = 10 then ev d 117 25 L (.int (mI h a 30) :: st) h else none := ev_gI d_117_22 (by decide +kernel) (by decide +kernel)
theorem d_117_25 : decode (cd 117) 25 = .ok (.iload_n 1, 1) := by rw [cd_117]; decide +kernel
theorem e_117_25 {d : Nat} {h : mM} {o0 : Option Value} {T : mLs} {x : Int32} {st : List Value} : ev d 117 25 (o0 :: some (.int x) :: T) st h = ev d 117 26 (o0 :: some (.int x) :: T) (.int x :: st) h := ev_of d_117_25 rfl
theorem d_117_26 : decode (cd 117) 26 = .ok (.iastore, 1) := by rw [cd_117]; decide +kernel
theorem e_117_26 {d : Nat} {h : mM} {L : mLs} {st : List Value} {a : Nat} {i v : Int32} : ev d 117 26 L (.int v :: .int i :: .ref a :: st) h = if mK h a = 11 ∧ ixOK i (mL h a) = true then ev d 117 27 L st (wI h a i.toNatClampNeg v) else none := ev_is d_117_26
theorem d_117_27 : decode (cd 117) 27 = .ok (.aload_n 0, 1) := by rw [cd_117]; decide +kernel
theorem e_117_27 {d : Nat} {h : mM} {T : mLs} {x : Nat} {st : List Value} : ev d 117 27 ( some (.ref x) :: T) st h = ev d 117 28 ( some (.ref x) :: T) (.ref x :: st) h := ev_of d_117_27 rfl
theorem d_117_28 : decode (cd 117) 28 = .ok (.dup, 1) := by rw [cd_117]; decide +kernel
theorem e_117_28r {d : Nat} {h : mM} {L : mLs} {st : List Value} {a : Nat} : ev d 117 28 L (.ref a :: st) h = ev d 117 29 L (.ref a :: .ref a :: st) h := ev_of d_117_28 rfl
theorem e_117_28i {d : Nat} {h : mM} {L : mLs} {st : List Value} {x : Int32} : ev d 117 28 L (.int x :: st) h = ev d 117 29 L (.int x :: .int x :: st) h := ev_of d_117_28 rfl
theorem d_117_29 : decode (cd 117) 29 = .ok (.getfield 204, 3) := by rw [cd_117]; decide +kernel
theorem e_117_29 {d : Nat} {h : mM} {L : mLs} {st : List Value} {a : Nat} : ev d 117 29 L (.ref a :: st) h = if mK h a = 10 then ev d 117 32 L (.int (mI h a 30) :: st) h else none := ev_gI d_117_29 (by decide +kernel) (by decide +kernel)
theorem d_117_32 : decode (cd 117) 32 = .ok (.iconst 1, 1) := by rw [cd_117]; decide +kernel
theorem e_117_32 {d : Nat} {h : mM} {L : mLs} {st : List Value} : ev d 117 32 L st h = ev d 117 33 L (.int 1 :: st) h := ev_of d_117_32 rfl
theorem d_117_33 : decode (cd 117) 33 = .ok (.iadd, 1) := by rw [cd_117]; decide +kernel
theorem e_117_33 {d : Nat} {h : mM} {L : mLs} {st : List Value} {x y : Int32} : ev d 117 33 L (.int y :: .int x :: st) h = ev d 117 34 L (.int (x + y) :: st) h := ev_of d_117_33 rfl
theorem d_117_34 : decode (cd 117) 34 = .ok (.putfield 204, 3) := by rw [cd_117]; decide +kernel
theorem e_117_34 {d : Nat} {h : mM} {L : mLs} {st : List Value} {a : Nat} {v : Int32} : ev d 117 34 L (.int v :: .ref a :: st) h = if mK h a = 10 then ev d 117 37 L st (wI h a 30 v) else none := ev_pI d_117_34 (by decide +kernel) (by decide +kernel) (by decide +kernel)
theorem d_117_37 : decode (cd 117) 37 = .ok (.aload_n 0, 1) := by rw [cd_117]; decide +kernel
theorem e_117_37 {d : Nat} {h : mM} {T : mLs} {x : Nat} {st : List Value} : ev d 117 37 ( some (.ref x) :: T) st h = ev d 117 38 ( some (.ref x) :: T) (.ref x :: st) h := ev_of d_117_37 rfl
theorem d_117_38 : decode (cd 117) 38 = .ok (.getfield 204, 3) := by rw [cd_117]; decide +kernel
theorem e_117_38 {d : Nat} {h : mM} {L : mLs} {st : List Value} {a : Nat} : ev d 117 38 L (.ref a :: st) h = if mK h a = 10 then ev d 117 41 L (.int (mI h a 30) :: st) h else none := ev_gI d_117_38 (by decide +kernel) (by decide +kernel)
theorem d_117_41 : decode (cd 117) 41 = .ok (.i2l, 1) := by rw [cd_117]; decide +kernel
theorem e_117_41 {d : Nat} {h : mM} {L : mLs} {st : List Value} {x : Int32} : ev d 117 41 L (.int x :: st) h = ev d 117 42 L (.long x.toInt64 :: st) h := ev_of d_117_41 rfl
theorem d_117_42 : decode (cd 117) 42 = .ok (.lreturn, 1) := by rw [cd_117]; decide +kernel
theorem e_117_42 {d : Nat} {h : mM} {L : mLs} {v : Int64} : ev d 117 42 L [.long v] h = some (some (.long v), h) := ev_rl d_117_42 (by decide +kernel)
-- 118: Model.check
theorem cd_118 : cd 118 = prog_12_method_41_code := rfl
theorem d_118_0 : decode (cd 118) 0 = .ok (.aload_n 0, 1) := by rw [cd_118]; decide +kernel
theorem e_118_0 {d : Nat} {h : mM} {T : mLs} {x : Nat} {st : List Value} : ev d 118 0 ( some (.ref x) :: T) st h = ev d 118 1 ( some (.ref x) :: T) (.ref x :: st) h := ev_of d_118_0 rfl
theorem d_118_1 : decode (cd 118) 1 = .ok (.getfield 204, 3) := by rw [cd_118]; decide +kernel
theorem e_118_1 {d : Nat} {h : mM} {L : mLs} {st : List Value} {a : Nat} : ev d 118 1 L (.ref a :: st) h = if mK h a = 10 then ev d 118 4 L (.int (mI h a 30) :: st) h else none := ev_gI d_118_1 (by decide +kernel) (by decide +kernel)
theorem d_118_4 : decode (cd 118) 4 = .ok (.istore_n 2, 1) := by rw [cd_118]; decide +kernel
theorem e_118_4 {d : Nat} {h : mM} {o0 o1 o2 : Option Value} {T : mLs} {x : Int32} {st : List Value} (hl : mLong o1 = false) : ev d 118 4 (o0 :: o1 :: o2 :: T) (.int x :: st) h = ev d 118 5 (o0 :: o1 :: some (.int x) :: T) st h := ev_st_in d_118_4 (by decide +kernel) (mS1_s (j := 1) hl)
theorem d_118_5 : decode (cd 118) 5 = .ok (.aload_n 0, 1) := by rw [cd_118]; decide +kernel
theorem e_118_5 {d : Nat} {h : mM} {T : mLs} {x : Nat} {st : List Value} : ev d 118 5 ( some (.ref x) :: T) st h = ev d 118 6 ( some (.ref x) :: T) (.ref x :: st) h := ev_of d_118_5 rfl
theorem d_118_6 : decode (cd 118) 6 = .ok (.iconst 0, 1) := by rw [cd_118]; decide +kernel
theorem e_118_6 {d : Nat} {h : mM} {L : mLs} {st : List Value} : ev d 118 6 L st h = ev d 118 7 L (.int 0 :: st) h := ev_of d_118_6 rfl
theorem d_118_7 : decode (cd 118) 7 = .ok (.putfield 204, 3) := by rw [cd_118]; decide +kernel
theorem e_118_7 {d : Nat} {h : mM} {L : mLs} {st : List Value} {a : Nat} {v : Int32} : ev d 118 7 L (.int v :: .ref a :: st) h = if mK h a = 10 then ev d 118 10 L st (wI h a 30 v) else none := ev_pI d_118_7 (by decide +kernel) (by decide +kernel) (by decide +kernel)
theorem d_118_10 : decode (cd 118) 10 = .ok (.aload_n 0, 1) := by rw [cd_118]; decide +kernel
theorem e_118_10 {d : Nat} {h : mM} {T : mLs} {x : Nat} {st : List Value} : ev d 118 10 ( some (.ref x) :: T) st h = ev d 118 11 ( some (.ref x) :: T) (.ref x :: st) h := ev_of d_118_10 rfl
theorem d_118_11 : decode (cd 118) 11 = .ok (.iload_n 1, 1) := by rw [cd_118]; decide +kernel
theorem e_118_11 {d : Nat} {h : mM} {o0 : Option Value} {T : mLs} {x : Int32} {st : List Value} : ev d 118 11 (o0 :: some (.int x) :: T) st h = ev d 118 12 (o0 :: some (.int x) :: T) (.int x :: st) h := ev_of d_118_11 rfl
theorem d_118_12 : decode (cd 118) 12 = .ok (.invokevirtual 132, 3) := by rw [cd_118]; decide +kernel
theorem e_118_12 {d : Nat} {h : mM} {L : mLs} {st : List Value} {a : Nat} {x0 : Int32} (hc : mCat st ≤ 8) : ev (d + 1) 118 12 L (.int x0 :: .ref a :: st) h = if mK h a = 10 then cV (ev d 81 0 [some (.ref a), some (.int x0)] [] h) (fun v h1 => ev (d + 1) 118 15 L (v ++ st) h1) else none := ev_cv (mj := 81) (as := [.int x0]) (rest := st) d_118_12 (by decide +kernel) rfl rfl (by show _ ≤ List.length _; simp only [List.length_cons]; have : na 81 = 1 := rfl; omega) rfl (Nat.le_of_ble_eq_true rfl) hc
theorem d_118_15 : decode (cd 118) 15 = .ok (.ifCond .ne 11, 3) := by rw [cd_118]; decide +kernel
theorem e_118_15 {d : Nat} {h : mM} {L : mLs} {st : List Value} {x : Int32} : ev d 118 15 L (.int x :: st) h = if ¬ x = 0 then ev d 118 26 L st h else ev d 118 18 L st h := ev_if (¬ x = 0) inferInstance rfl d_118_15 (by decide)
theorem d_118_18 : decode (cd 118) 18 = .ok (.aload_n 0, 1) := by rw [cd_118]; decide +kernel
theorem e_118_18 {d : Nat} {h : mM} {T : mLs} {x : Nat} {st : List Value} : ev d 118 18 ( some (.ref x) :: T) st h = ev d 118 19 ( some (.ref x) :: T) (.ref x :: st) h := ev_of d_118_18 rfl
theorem d_118_19 : decode (cd 118) 19 = .ok (.ldc2_w 121, 3) := by rw [cd_118]; decide +kernel
theorem e_118_19 {d : Nat} {h : mM} {L : mLs} {st : List Value} : ev d 118 19 L st h = ev d 118 22 L (.long (-1000000001) :: st) h := ev_of d_118_19 rfl
theorem d_118_22 : decode (cd 118) 22 = .ok (.invokevirtual 123, 3) := by rw [cd_118]; decide +kernel
theorem e_118_22 {d : Nat} {h : mM} {L : mLs} {st : List Value} {a : Nat} {x0 : Int64} (hc : mCat st ≤ 8) : ev (d + 1) 118 22 L (.long x0 :: .ref a :: st) h = if mK h a = 10 then cV (ev d 79 0 [some (.ref a), some (.long x0), none] [] h) (fun v h1 => ev (d + 1) 118 25 L (v ++ st) h1) else none := ev_cv (mj := 79) (as := [.long x0]) (rest := st) d_118_22 (by decide +kernel) rfl rfl (by show _ ≤ List.length _; simp only [List.length_cons]; have : na 79 = 1 := rfl; omega) rfl (Nat.le_of_ble_eq_true rfl) hc
theorem d_118_25 : decode (cd 118) 25 = .ok (.lreturn, 1) := by rw [cd_118]; decide +kernel
theorem e_118_25 {d : Nat} {h : mM} {L : mLs} {v : Int64} : ev d 118 25 L [.long v] h = some (some (.long v), h) := ev_rl d_118_25 (by decide +kernel)
theorem d_118_26 : decode (cd 118) 26 = .ok (.aload_n 0, 1) := by rw [cd_118]; decide +kernel
theorem e_118_26 {d : Nat} {h : mM} {T : mLs} {x : Nat} {st : List Value} : ev d 118 26 ( some (.ref x) :: T) st h = ev d 118 27 ( some (.ref x) :: T) (.ref x :: st) h := ev_of d_118_26 rfl
theorem d_118_27 : decode (cd 118) 27 = .ok (.invokevirtual 199, 3) := by rw [cd_118]; decide +kernel
theorem e_118_27 {d : Nat} {h : mM} {L : mLs} {st : List Value} {a : Nat} (hc : mCat st ≤ 8) : ev (d + 1) 118 27 L (.ref a :: st) h = if mK h a = 10 then cV (ev d 111 0 [some (.ref a), none] [] h) (fun v h1 => ev (d + 1) 118 30 L (v ++ st) h1) else none := ev_cv (mj := 111) (as := []) (rest := st) d_118_27 (by decide +kernel) rfl rfl (by show _ ≤ List.length _; simp only [List.length_cons]; have : na 111 = 0 := rfl; omega) rfl (Nat.le_of_ble_eq_true rfl) hc
theorem d_118_30 : decode (cd 118) 30 = .ok (.iconst 0, 1) := by rw [cd_118]; decide +kernel
theorem e_118_30 {d : Nat} {h : mM} {L : mLs} {st : List Value} : ev d 118 30 L st h = ev d 118 31 L (.int 0 :: st) h := ev_of d_118_30 rfl
theorem d_118_31 : decode (cd 118) 31 = .ok (.istore_n 3, 1) := by rw [cd_118]; decide +kernel
theorem e_118_31 {d : Nat} {h : mM} {o0 o1 o2 o3 : Option Value} {T : mLs} {x : Int32} {st : List Value} (hl : mLong o2 = false) : ev d 118 31 (o0 :: o1 :: o2 :: o3 :: T) (.int x :: st) h = ev d 118 32 (o0 :: o1 :: o2 :: some (.int x) :: T) st h := ev_st_in d_118_31 (by decide +kernel) (mS1_s (j := 2) hl)
theorem d_118_32 : decode (cd 118) 32 = .ok (.iload_n 3, 1) := by rw [cd_118]; decide +kernel
theorem e_118_32 {d : Nat} {h : mM} {o0 o1 o2 : Option Value} {T : mLs} {x : Int32} {st : List Value} : ev d 118 32 (o0 :: o1 :: o2 :: some (.int x) :: T) st h = ev d 118 33 (o0 :: o1 :: o2 :: some (.int x) :: T) (.int x :: st) h := ev_of d_118_32 rfl
theorem d_118_33 : decode (cd 118) 33 = .ok (.iload_n 2, 1) := by rw [cd_118]; decide +kernel
theorem e_118_33 {d : Nat} {h : mM} {o0 o1 : Option Value} {T : mLs} {x : Int32} {st : List Value} : ev d 118 33 (o0 :: o1 :: some (.int x) :: T) st h = ev d 118 34 (o0 :: o1 :: some (.int x) :: T) (.int x :: st) h := ev_of d_118_33 rfl
theorem d_118_34 : decode (cd 118) 34 = .ok (.if_icmp .ge 55, 3) := by rw [cd_118]; decide +kernel
theorem e_118_34 {d : Nat} {h : mM} {L : mLs} {st : List Value} {x y : Int32} : ev d 118 34 L (.int y :: .int x :: st) h = if y ≤ x then ev d 118 89 L st h else ev d 118 37 L st h := ev_ic (y ≤ x) inferInstance rfl d_118_34 (by decide)
theorem d_118_37 : decode (cd 118) 37 = .ok (.aload_n 0, 1) := by rw [cd_118]; decide +kernel
theorem e_118_37 {d : Nat} {h : mM} {T : mLs} {x : Nat} {st : List Value} : ev d 118 37 ( some (.ref x) :: T) st h = ev d 118 38 ( some (.ref x) :: T) (.ref x :: st) h := ev_of d_118_37 rfl
theorem d_118_38 : decode (cd 118) 38 = .ok (.aload_n 0, 1) := by rw [cd_118]; decide +kernel
theorem e_118_38 {d : Nat} {h : mM} {T : mLs} {x : Nat} {st : List Value} : ev d 118 38 ( some (.ref x) :: T) st h = ev d 118 39 ( some (.ref x) :: T) (.ref x :: st) h := ev_of d_118_38 rfl
theorem d_118_39 : decode (cd 118) 39 = .ok (.getfield 93, 3) := by rw [cd_118]; decide +kernel
theorem e_118_39 {d : Nat} {h : mM} {L : mLs} {st : List Value} {a : Nat} : ev d 118 39 L (.ref a :: st) h = if mK h a = 10 then oB (mR h a 33) (fun b => ev d 118 42 L (.ref b :: st) h) else none := ev_gR d_118_39 (by decide +kernel) (by decide +kernel)
theorem d_118_42 : decode (cd 118) 42 = .ok (.aload_n 0, 1) := by rw [cd_118]; decide +kernel
theorem e_118_42 {d : Nat} {h : mM} {T : mLs} {x : Nat} {st : List Value} : ev d 118 42 ( some (.ref x) :: T) st h = ev d 118 43 ( some (.ref x) :: T) (.ref x :: st) h := ev_of d_118_42 rfl
theorem d_118_43 : decode (cd 118) 43 = .ok (.getfield 147, 3) := by rw [cd_118]; decide +kernel
theorem e_118_43 {d : Nat} {h : mM} {L : mLs} {st : List Value} {a : Nat} : ev d 118 43 L (.ref a :: st) h = if mK h a = 10 then ev d 118 46 L (.int (mI h a 0) :: st) h else none := ev_gI d_118_43 (by decide +kernel) (by decide +kernel)
theorem d_118_46 : decode (cd 118) 46 = .ok (.iload_n 3, 1) := by rw [cd_118]; decide +kernel
theorem e_118_46 {d : Nat} {h : mM} {o0 o1 o2 : Option Value} {T : mLs} {x : Int32} {st : List Value} : ev d 118 46 (o0 :: o1 :: o2 :: some (.int x) :: T) st h = ev d 118 47 (o0 :: o1 :: o2 :: some (.int x) :: T) (.int x :: st) h := ev_of d_118_46 rfl
theorem d_118_47 : decode (cd 118) 47 = .ok (.iadd, 1) := by rw [cd_118]; decide +kernel
theorem e_118_47 {d : Nat} {h : mM} {L : mLs} {st : List Value} {x y : Int32} : ev d 118 47 L (.int y :: .int x :: st) h = ev d 118 48 L (.int (x + y) :: st) h := ev_of d_118_47 rfl
theorem d_118_48 : decode (cd 118) 48 = .ok (.aload_n 0, 1) := by rw [cd_118]; decide +kernel
theorem e_118_48 {d : Nat} {h : mM} {T : mLs} {x : Nat} {st : List Value} : ev d 118 48 ( some (.ref x) :: T) st h = ev d 118 49 ( some (.ref x) :: T) (.ref x :: st) h := ev_of d_118_48 rfl
theorem d_118_49 : decode (cd 118) 49 = .ok (.getfield 144, 3) := by rw [cd_118]; decide +kernel
theorem e_118_49 {d : Nat} {h : mM} {L : mLs} {st : List Value} {a : Nat} : ev d 118 49 L (.ref a :: st) h = if mK h a = 10 then ev d 118 52 L (.int (mI h a 24) :: st) h else none := ev_gI d_118_49 (by decide +kernel) (by decide +kernel)
theorem d_118_52 : decode (cd 118) 52 = .ok (.iconst 0, 1) := by rw [cd_118]; decide +kernel
theorem e_118_52 {d : Nat} {h : mM} {L : mLs} {st : List Value} : ev d 118 52 L st h = ev d 118 53 L (.int 0 :: st) h := ev_of d_118_52 rfl
theorem d_118_53 : decode (cd 118) 53 = .ok (.invokevirtual 195, 3) := by rw [cd_118]; decide +kernel
theorem e_118_53 {d : Nat} {h : mM} {L : mLs} {st : List Value} {a : Nat} {x0 : Nat} {x1 : Int32} {x2 : Int32} {x3 : Int32} (hc : mCat st ≤ 8) : ev (d + 1) 118 53 L (.int x3 :: .int x2 :: .int x1 :: .ref x0 :: .ref a :: st) h = if mK h a = 10 then cV (ev d 110 0 [some (.ref a), some (.ref x0), some (.int x1), some (.int x2), some (.int x3), none] [] h) (fun v h1 => ev (d + 1) 118 56 L (v ++ st) h1) else none := ev_cv (mj := 110) (as := [.ref x0, .int x1, .int x2, .int x3]) (rest := st) d_118_53 (by decide +kernel) rfl rfl (by show _ ≤ List.length _; simp only [List.length_cons]; have : na 110 = 4 := rfl; omega) rfl (Nat.le_of_ble_eq_true rfl) hc
theorem d_118_56 : decode (cd 118) 56 = .ok (.aload_n 0, 1) := by rw [cd_118]; decide +kernel
theorem e_118_56 {d : Nat} {h : mM} {T : mLs} {x : Nat} {st : List Value} : ev d 118 56 ( some (.ref x) :: T) st h = ev d 118 57 ( some (.ref x) :: T) (.ref x :: st) h := ev_of d_118_56 rfl
theorem d_118_57 : decode (cd 118) 57 = .ok (.getfield 93, 3) := by rw [cd_118]; decide +kernel
theorem e_118_57 {d : Nat} {h : mM} {L : mLs} {st : List Value} {a : Nat} : ev d 118 57 L (.ref a :: st) h = if mK h a = 10 then oB (mR h a 33) (fun b => ev d 118 60 L (.ref b :: st) h) else none := ev_gR d_118_57 (by decide +kernel) (by decide +kernel)
theorem d_118_60 : decode (cd 118) 60 = .ok (.iload_n 1, 1) := by rw [cd_118]; decide +kernel
theorem e_118_60 {d : Nat} {h : mM} {o0 : Option Value} {T : mLs} {x : Int32} {st : List Value} : ev d 118 60 (o0 :: some (.int x) :: T) st h = ev d 118 61 (o0 :: some (.int x) :: T) (.int x :: st) h := ev_of d_118_60 rfl
theorem d_118_61 : decode (cd 118) 61 = .ok (.iaload, 1) := by rw [cd_118]; decide +kernel
theorem e_118_61 {d : Nat} {h : mM} {L : mLs} {st : List Value} {a : Nat} {i : Int32} : ev d 118 61 L (.int i :: .ref a :: st) h = if (mK h a = 11 ∨ mK h a = 19) ∧ ixOK i (mL h a) = true then ev d 118 62 L (.int (mI h a i.toNatClampNeg) :: st) h else none := ev_ia d_118_61
theorem d_118_62 : decode (cd 118) 62 = .ok (.aload_n 0, 1) := by rw [cd_118]; decide +kernel
theorem e_118_62 {d : Nat} {h : mM} {T : mLs} {x : Nat} {st : List Value} : ev d 118 62 ( some (.ref x) :: T) st h = ev d 118 63 ( some (.ref x) :: T) (.ref x :: st) h := ev_of d_118_62 rfl
theorem d_118_63 : decode (cd 118) 63 = .ok (.getfield 17, 3) := by rw [cd_118]; decide +kernel
theorem e_118_63 {d : Nat} {h : mM} {L : mLs} {st : List Value} {a : Nat} : ev d 118 63 L (.ref a :: st) h = if mK h a = 10 then oB (mR h a 4) (fun b => ev d 118 66 L (.ref b :: st) h) else none := ev_gR d_118_63 (by decide +kernel) (by decide +kernel)
theorem d_118_66 : decode (cd 118) 66 = .ok (.iload_n 1, 1) := by rw [cd_118]; decide +kernel
theorem e_118_66 {d : Nat} {h : mM} {o0 : Option Value} {T : mLs} {x : Int32} {st : List Value} : ev d 118 66 (o0 :: some (.int x) :: T) st h = ev d 118 67 (o0 :: some (.int x) :: T) (.int x :: st) h := ev_of d_118_66 rfl
theorem d_118_67 : decode (cd 118) 67 = .ok (.iaload, 1) := by rw [cd_118]; decide +kernel
theorem e_118_67 {d : Nat} {h : mM} {L : mLs} {st : List Value} {a : Nat} {i : Int32} : ev d 118 67 L (.int i :: .ref a :: st) h = if (mK h a = 11 ∨ mK h a = 19) ∧ ixOK i (mL h a) = true then ev d 118 68 L (.int (mI h a i.toNatClampNeg) :: st) h else none := ev_ia d_118_67
theorem d_118_68 : decode (cd 118) 68 = .ok (.idiv, 1) := by rw [cd_118]; decide +kernel
theorem e_118_68 {d : Nat} {h : mM} {L : mLs} {st : List Value} {x y : Int32} : ev d 118 68 L (.int y :: .int x :: st) h = if y = 0 then none else ev d 118 69 L (.int (x / y) :: st) h := ev_div d_118_68
theorem d_118_69 : decode (cd 118) 69 = .ok (.aload_n 0, 1) := by rw [cd_118]; decide +kernel
theorem e_118_69 {d : Nat} {h : mM} {T : mLs} {x : Nat} {st : List Value} : ev d 118 69 ( some (.ref x) :: T) st h = ev d 118 70 ( some (.ref x) :: T) (.ref x :: st) h := ev_of d_118_69 rfl
theorem d_118_70 : decode (cd 118) 70 = .ok (.getfield 87, 3) := by rw [cd_118]; decide +kernel
theorem e_118_70 {d : Nat} {h : mM} {L : mLs} {st : List Value} {a : Nat} : ev d 118 70 L (.ref a :: st) h = if mK h a = 10 then oB (mR h a 31) (fun b => ev d 118 73 L (.ref b :: st) h) else none := ev_gR d_118_70 (by decide +kernel) (by decide +kernel)
theorem d_118_73 : decode (cd 118) 73 = .ok (.iload_n 3, 1) := by rw [cd_118]; decide +kernel
theorem e_118_73 {d : Nat} {h : mM} {o0 o1 o2 : Option Value} {T : mLs} {x : Int32} {st : List Value} : ev d 118 73 (o0 :: o1 :: o2 :: some (.int x) :: T) st h = ev d 118 74 (o0 :: o1 :: o2 :: some (.int x) :: T) (.int x :: st) h := ev_of d_118_73 rfl
theorem d_118_74 : decode (cd 118) 74 = .ok (.iaload, 1) := by rw [cd_118]; decide +kernel
theorem e_118_74 {d : Nat} {h : mM} {L : mLs} {st : List Value} {a : Nat} {i : Int32} : ev d 118 74 L (.int i :: .ref a :: st) h = if (mK h a = 11 ∨ mK h a = 19) ∧ ixOK i (mL h a) = true then ev d 118 75 L (.int (mI h a i.toNatClampNeg) :: st) h else none := ev_ia d_118_74
theorem d_118_75 : decode (cd 118) 75 = .ok (.if_icmp .eq 8, 3) := by rw [cd_118]; decide +kernel
theorem e_118_75 {d : Nat} {h : mM} {L : mLs} {st : List Value} {x y : Int32} : ev d 118 75 L (.int y :: .int x :: st) h = if x = y then ev d 118 83 L st h else ev d 118 78 L st h := ev_ic (x = y) inferInstance rfl d_118_75 (by decide)
theorem d_118_78 : decode (cd 118) 78 = .ok (.lconst 1, 1) := by rw [cd_118]; decide +kernel
theorem e_118_78 {d : Nat} {h : mM} {L : mLs} {st : List Value} : ev d 118 78 L st h = ev d 118 79 L (.long 1 :: st) h := ev_of d_118_78 rfl
theorem d_118_79 : decode (cd 118) 79 = .ok (.iload_n 3, 1) := by rw [cd_118]; decide +kernel
theorem e_118_79 {d : Nat} {h : mM} {o0 o1 o2 : Option Value} {T : mLs} {x : Int32} {st : List Value} : ev d 118 79 (o0 :: o1 :: o2 :: some (.int x) :: T) st h = ev d 118 80 (o0 :: o1 :: o2 :: some (.int x) :: T) (.int x :: st) h := ev_of d_118_79 rfl
theorem d_118_80 : decode (cd 118) 80 = .ok (.i2l, 1) := by rw [cd_118]; decide +kernel
theorem e_118_80 {d : Nat} {h : mM} {L : mLs} {st : List Value} {x : Int32} : ev d 118 80 L (.int x :: st) h = ev d 118 81 L (.long x.toInt64 :: st) h := ev_of d_118_80 rfl
theorem d_118_81 : decode (cd 118) 81 = .ok (.ladd, 1) := by rw [cd_118]; decide +kernel
theorem e_118_81 {d : Nat} {h : mM} {L : mLs} {st : List Value} {x y : Int64} : ev d 118 81 L (.long y :: .long x :: st) h = ev d 118 82 L (.long (x + y) :: st) h := ev_of d_118_81 rfl
theorem d_118_82 : decode (cd 118) 82 = .ok (.lreturn, 1) := by rw [cd_118]; decide +kernel
theorem e_118_82 {d : Nat} {h : mM} {L : mLs} {v : Int64} : ev d 118 82 L [.long v] h = some (some (.long v), h) := ev_rl d_118_82 (by decide +kernel)
theorem d_118_83 : decode (cd 118) 83 = .ok (.iinc 3 1, 3) := by rw [cd_118]; decide +kernel
theorem e_118_83 {d : Nat} {h : mM} {o0 o1 o2 : Option Value} {T : mLs} {x : Int32} {st : List Value} (hl : mLong o2 = false) : ev d 118 83 (o0 :: o1 :: o2 :: some (.int x) :: T) st h = ev d 118 86 (o0 :: o1 :: o2 :: some (.int (x + 1)) :: T) st h := ev_inc d_118_83 (by decide +kernel) rfl rfl (mS1_s (j := 2) hl)
theorem d_118_86 : decode (cd 118) 86 = .ok (.goto (-54), 3) := by rw [cd_118]; decide +kernel
theorem e_118_86 {d : Nat} {h : mM} {L : mLs} {st : List Value} : ev d 118 86 L st h = ev d 118 32 L st h := ev_go d_118_86 (by decide)
theorem d_118_89 : decode (cd 118) 89 = .ok (.lconst 0, 1) := by rw [cd_118]; decide +kernel
theorem e_118_89 {d : Nat} {h : mM} {L : mLs} {st : List Value} : ev d 118 89 L st h = ev d 118 90 L (.long 0 :: st) h := ev_of d_118_89 rfl
theorem d_118_90 : decode (cd 118) 90 = .ok (.lreturn, 1) := by rw [cd_118]; decide +kernel
theorem e_118_90 {d : Nat} {h : mM} {L : mLs} {v : Int64} : ev d 118 90 L [.long v] h = some (some (.long v), h) := ev_rl d_118_90 (by decide +kernel)
-- 119: Model.count
theorem cd_119 : cd 119 = prog_12_method_42_code := rfl
theorem d_119_0 : decode (cd 119) 0 = .ok (.iconst 0, 1) := by rw [cd_119]; decide +kernel
theorem e_119_0 {d : Nat} {h : mM} {L : mLs} {st : List Value} : ev d 119 0 L st h = ev d 119 1 L (.int 0 :: st) h := ev_of d_119_0 rfl
theorem d_119_1 : decode (cd 119) 1 = .ok (.istore_n 2, 1) := by rw [cd_119]; decide +kernel
theorem e_119_1 {d : Nat} {h : mM} {o0 o1 o2 : Option Value} {T : mLs} {x : Int32} {st : List Value} (hl : mLong o1 = false) : ev d 119 1 (o0 :: o1 :: o2 :: T) (.int x :: st) h = ev d 119 2 (o0 :: o1 :: some (.int x) :: T) st h := ev_st_in d_119_1 (by decide +kernel) (mS1_s (j := 1) hl)
theorem d_119_2 : decode (cd 119) 2 = .ok (.iconst 0, 1) := by rw [cd_119]; decide +kernel
theorem e_119_2 {d : Nat} {h : mM} {L : mLs} {st : List Value} : ev d 119 2 L st h = ev d 119 3 L (.int 0 :: st) h := ev_of d_119_2 rfl
theorem d_119_3 : decode (cd 119) 3 = .ok (.istore_n 3, 1) := by rw [cd_119]; decide +kernel
theorem e_119_3 {d : Nat} {h : mM} {o0 o1 o2 o3 : Option Value} {T : mLs} {x : Int32} {st : List Value} (hl : mLong o2 = false) : ev d 119 3 (o0 :: o1 :: o2 :: o3 :: T) (.int x :: st) h = ev d 119 4 (o0 :: o1 :: o2 :: some (.int x) :: T) st h := ev_st_in d_119_3 (by decide +kernel) (mS1_s (j := 2) hl)
theorem d_119_4 : decode (cd 119) 4 = .ok (.iload_n 3, 1) := by rw [cd_119]; decide +kernel
theorem e_119_4 {d : Nat} {h : mM} {o0 o1 o2 : Option Value} {T : mLs} {x : Int32} {st : List Value} : ev d 119 4 (o0 :: o1 :: o2 :: some (.int x) :: T) st h = ev d 119 5 (o0 :: o1 :: o2 :: some (.int x) :: T) (.int x :: st) h := ev_of d_119_4 rfl
theorem d_119_5 : decode (cd 119) 5 = .ok (.aload_n 0, 1) := by rw [cd_119]; decide +kernel
theorem e_119_5 {d : Nat} {h : mM} {T : mLs} {x : Nat} {st : List Value} : ev d 119 5 ( some (.ref x) :: T) st h = ev d 119 6 ( some (.ref x) :: T) (.ref x :: st) h := ev_of d_119_5 rfl
theorem d_119_6 : decode (cd 119) 6 = .ok (.getfield 118, 3) := by rw [cd_119]; decide +kernel
theorem e_119_6 {d : Nat} {h : mM} {L : mLs} {st : List Value} {a : Nat} : ev d 119 6 L (.ref a :: st) h = if mK h a = 10 then ev d 119 9 L (.int (mI h a 13) :: st) h else none := ev_gI d_119_6 (by decide +kernel) (by decide +kernel)
theorem d_119_9 : decode (cd 119) 9 = .ok (.if_icmp .ge 18, 3) := by rw [cd_119]; decide +kernel
theorem e_119_9 {d : Nat} {h : mM} {L : mLs} {st : List Value} {x y : Int32} : ev d 119 9 L (.int y :: .int x :: st) h = if y ≤ x then ev d 119 27 L st h else ev d 119 12 L st h := ev_ic (y ≤ x) inferInstance rfl d_119_9 (by decide)
theorem d_119_12 : decode (cd 119) 12 = .ok (.iload_n 2, 1) := by rw [cd_119]; decide +kernel
theorem e_119_12 {d : Nat} {h : mM} {o0 o1 : Option Value} {T : mLs} {x : Int32} {st : List Value} : ev d 119 12 (o0 :: o1 :: some (.int x) :: T) st h = ev d 119 13 (o0 :: o1 :: some (.int x) :: T) (.int x :: st) h := ev_of d_119_12 rfl
theorem d_119_13 : decode (cd 119) 13 = .ok (.aload_n 0, 1) := by rw [cd_119]; decide +kernel
theorem e_119_13 {d : Nat} {h : mM} {T : mLs} {x : Nat} {st : List Value} : ev d 119 13 ( some (.ref x) :: T) st h = ev d 119 14 ( some (.ref x) :: T) (.ref x :: st) h := ev_of d_119_13 rfl
theorem d_119_14 : decode (cd 119) 14 = .ok (.getfield 71, 3) := by rw [cd_119]; decide +kernel
theorem e_119_14 {d : Nat} {h : mM} {L : mLs} {st : List Value} {a : Nat} : ev d 119 14 L (.ref a :: st) h = if mK h a = 10 then oB (mR h a 25) (fun b => ev d 119 17 L (.ref b :: st) h) else none := ev_gR d_119_14 (by decide +kernel) (by decide +kernel)
theorem d_119_17 : decode (cd 119) 17 = .ok (.iload_n 3, 1) := by rw [cd_119]; decide +kernel
theorem e_119_17 {d : Nat} {h : mM} {o0 o1 o2 : Option Value} {T : mLs} {x : Int32} {st : List Value} : ev d 119 17 (o0 :: o1 :: o2 :: some (.int x) :: T) st h = ev d 119 18 (o0 :: o1 :: o2 :: some (.int x) :: T) (.int x :: st) h := ev_of d_119_17 rfl
theorem d_119_18 : decode (cd 119) 18 = .ok (.iaload, 1) := by rw [cd_119]; decide +kernel
theorem e_119_18 {d : Nat} {h : mM} {L : mLs} {st : List Value} {a : Nat} {i : Int32} : ev d 119 18 L (.int i :: .ref a :: st) h = if (mK h a = 11 ∨ mK h a = 19) ∧ ixOK i (mL h a) = true then ev d 119 19 L (.int (mI h a i.toNatClampNeg) :: st) h else none := ev_ia d_119_18
theorem d_119_19 : decode (cd 119) 19 = .ok (.iadd, 1) := by rw [cd_119]; decide +kernel
theorem e_119_19 {d : Nat} {h : mM} {L : mLs} {st : List Value} {x y : Int32} : ev d 119 19 L (.int y :: .int x :: st) h = ev d 119 20 L (.int (x + y) :: st) h := ev_of d_119_19 rfl
theorem d_119_20 : decode (cd 119) 20 = .ok (.istore_n 2, 1) := by rw [cd_119]; decide +kernel
theorem e_119_20 {d : Nat} {h : mM} {o0 o1 o2 : Option Value} {T : mLs} {x : Int32} {st : List Value} (hl : mLong o1 = false) : ev d 119 20 (o0 :: o1 :: o2 :: T) (.int x :: st) h = ev d 119 21 (o0 :: o1 :: some (.int x) :: T) st h := ev_st_in d_119_20 (by decide +kernel) (mS1_s (j := 1) hl)
theorem d_119_21 : decode (cd 119) 21 = .ok (.iinc 3 1, 3) := by rw [cd_119]; decide +kernel
theorem e_119_21 {d : Nat} {h : mM} {o0 o1 o2 : Option Value} {T : mLs} {x : Int32} {st : List Value} (hl : mLong o2 = false) : ev d 119 21 (o0 :: o1 :: o2 :: some (.int x) :: T) st h = ev d 119 24 (o0 :: o1 :: o2 :: some (.int (x + 1)) :: T) st h := ev_inc d_119_21 (by decide +kernel) rfl rfl (mS1_s (j := 2) hl)
theorem d_119_24 : decode (cd 119) 24 = .ok (.goto (-20), 3) := by rw [cd_119]; decide +kernel
theorem e_119_24 {d : Nat} {h : mM} {L : mLs} {st : List Value} : ev d 119 24 L st h = ev d 119 4 L st h := ev_go d_119_24 (by decide)
theorem d_119_27 : decode (cd 119) 27 = .ok (.iload_n 1, 1) := by rw [cd_119]; decide +kernel
theorem e_119_27 {d : Nat} {h : mM} {o0 : Option Value} {T : mLs} {x : Int32} {st : List Value} : ev d 119 27 (o0 :: some (.int x) :: T) st h = ev d 119 28 (o0 :: some (.int x) :: T) (.int x :: st) h := ev_of d_119_27 rfl
theorem d_119_28 : decode (cd 119) 28 = .ok (.tableswitch 83 0 6 #[44, 50, 56, 62, 68, 71, 77], 44) := by rw [cd_119]; decide +kernel
theorem e_119_28 {d : Nat} {h : mM} {L : mLs} {st : List Value} {x : Int32} : ev d 119 28 L (.int x :: st) h = tsF (fun t => ev d 119 t L st h) x [72, 78, 84, 90, 96, 99, 105] 0 (ev d 119 111 L st h) := ev_ts _ d_119_28 (by decide) (by decide) (by decide)
theorem d_119_72 : decode (cd 119) 72 = .ok (.aload_n 0, 1) := by rw [cd_119]; decide +kernel
theorem e_119_72 {d : Nat} {h : mM} {T : mLs} {x : Nat} {st : List Value} : ev d 119 72 ( some (.ref x) :: T) st h = ev d 119 73 ( some (.ref x) :: T) (.ref x :: st) h := ev_of d_119_72 rfl
theorem d_119_73 : decode (cd 119) 73 = .ok (.getfield 111, 3) := by rw [cd_119]; decide +kernel
theorem e_119_73 {d : Nat} {h : mM} {L : mLs} {st : List Value} {a : Nat} : ev d 119 73 L (.ref a :: st) h = if mK h a = 10 then ev d 119 76 L (.int (mI h a 3) :: st) h else none := ev_gI d_119_73 (by decide +kernel) (by decide +kernel)
theorem d_119_76 : decode (cd 119) 76 = .ok (.i2l, 1) := by rw [cd_119]; decide +kernel
theorem e_119_76 {d : Nat} {h : mM} {L : mLs} {st : List Value} {x : Int32} : ev d 119 76 L (.int x :: st) h = ev d 119 77 L (.long x.toInt64 :: st) h := ev_of d_119_76 rfl
theorem d_119_77 : decode (cd 119) 77 = .ok (.lreturn, 1) := by rw [cd_119]; decide +kernel
theorem e_119_77 {d : Nat} {h : mM} {L : mLs} {v : Int64} : ev d 119 77 L [.long v] h = some (some (.long v), h) := ev_rl d_119_77 (by decide +kernel)
theorem d_119_78 : decode (cd 119) 78 = .ok (.aload_n 0, 1) := by rw [cd_119]; decide +kernel
theorem e_119_78 {d : Nat} {h : mM} {T : mLs} {x : Nat} {st : List Value} : ev d 119 78 ( some (.ref x) :: T) st h = ev d 119 79 ( some (.ref x) :: T) (.ref x :: st) h := ev_of d_119_78 rfl
theorem d_119_79 : decode (cd 119) 79 = .ok (.getfield 136, 3) := by rw [cd_119]; decide +kernel
theorem e_119_79 {d : Nat} {h : mM} {L : mLs} {st : List Value} {a : Nat} : ev d 119 79 L (.ref a :: st) h = if mK h a = 10 then ev d 119 82 L (.int (mI h a 9) :: st) h else none := ev_gI d_119_79 (by decide +kernel) (by decide +kernel)
theorem d_119_82 : decode (cd 119) 82 = .ok (.i2l, 1) := by rw [cd_119]; decide +kernel
theorem e_119_82 {d : Nat} {h : mM} {L : mLs} {st : List Value} {x : Int32} : ev d 119 82 L (.int x :: st) h = ev d 119 83 L (.long x.toInt64 :: st) h := ev_of d_119_82 rfl
theorem d_119_83 : decode (cd 119) 83 = .ok (.lreturn, 1) := by rw [cd_119]; decide +kernel
theorem e_119_83 {d : Nat} {h : mM} {L : mLs} {v : Int64} : ev d 119 83 L [.long v] h = some (some (.long v), h) := ev_rl d_119_83 (by decide +kernel)
theorem d_119_84 : decode (cd 119) 84 = .ok (.aload_n 0, 1) := by rw [cd_119]; decide +kernel
theorem e_119_84 {d : Nat} {h : mM} {T : mLs} {x : Nat} {st : List Value} : ev d 119 84 ( some (.ref x) :: T) st h = ev d 119 85 ( some (.ref x) :: T) (.ref x :: st) h := ev_of d_119_84 rfl
theorem d_119_85 : decode (cd 119) 85 = .ok (.getfield 118, 3) := by rw [cd_119]; decide +kernel
theorem e_119_85 {d : Nat} {h : mM} {L : mLs} {st : List Value} {a : Nat} : ev d 119 85 L (.ref a :: st) h = if mK h a = 10 then ev d 119 88 L (.int (mI h a 13) :: st) h else none := ev_gI d_119_85 (by decide +kernel) (by decide +kernel)
theorem d_119_88 : decode (cd 119) 88 = .ok (.i2l, 1) := by rw [cd_119]; decide +kernel
theorem e_119_88 {d : Nat} {h : mM} {L : mLs} {st : List Value} {x : Int32} : ev d 119 88 L (.int x :: st) h = ev d 119 89 L (.long x.toInt64 :: st) h := ev_of d_119_88 rfl
theorem d_119_89 : decode (cd 119) 89 = .ok (.lreturn, 1) := by rw [cd_119]; decide +kernel
theorem e_119_89 {d : Nat} {h : mM} {L : mLs} {v : Int64} : ev d 119 89 L [.long v] h = some (some (.long v), h) := ev_rl d_119_89 (by decide +kernel)
theorem d_119_90 : decode (cd 119) 90 = .ok (.aload_n 0, 1) := by rw [cd_119]; decide +kernel
theorem e_119_90 {d : Nat} {h : mM} {T : mLs} {x : Nat} {st : List Value} : ev d 119 90 ( some (.ref x) :: T) st h = ev d 119 91 ( some (.ref x) :: T) (.ref x :: st) h := ev_of d_119_90 rfl
theorem d_119_91 : decode (cd 119) 91 = .ok (.getfield 147, 3) := by rw [cd_119]; decide +kernel
theorem e_119_91 {d : Nat} {h : mM} {L : mLs} {st : List Value} {a : Nat} : ev d 119 91 L (.ref a :: st) h = if mK h a = 10 then ev d 119 94 L (.int (mI h a 0) :: st) h else none := ev_gI d_119_91 (by decide +kernel) (by decide +kernel)
theorem d_119_94 : decode (cd 119) 94 = .ok (.i2l, 1) := by rw [cd_119]; decide +kernel
theorem e_119_94 {d : Nat} {h : mM} {L : mLs} {st : List Value} {x : Int32} : ev d 119 94 L (.int x :: st) h = ev d 119 95 L (.long x.toInt64 :: st) h := ev_of d_119_94 rfl
theorem d_119_95 : decode (cd 119) 95 = .ok (.lreturn, 1) := by rw [cd_119]; decide +kernel
theorem e_119_95 {d : Nat} {h : mM} {L : mLs} {v : Int64} : ev d 119 95 L [.long v] h = some (some (.long v), h) := ev_rl d_119_95 (by decide +kernel)
theorem d_119_96 : decode (cd 119) 96 = .ok (.iload_n 2, 1) := by rw [cd_119]; decide +kernel
theorem e_119_96 {d : Nat} {h : mM} {o0 o1 : Option Value} {T : mLs} {x : Int32} {st : List Value} : ev d 119 96 (o0 :: o1 :: some (.int x) :: T) st h = ev d 119 97 (o0 :: o1 :: some (.int x) :: T) (.int x :: st) h := ev_of d_119_96 rfl
theorem d_119_97 : decode (cd 119) 97 = .ok (.i2l, 1) := by rw [cd_119]; decide +kernel
theorem e_119_97 {d : Nat} {h : mM} {L : mLs} {st : List Value} {x : Int32} : ev d 119 97 L (.int x :: st) h = ev d 119 98 L (.long x.toInt64 :: st) h := ev_of d_119_97 rfl
theorem d_119_98 : decode (cd 119) 98 = .ok (.lreturn, 1) := by rw [cd_119]; decide +kernel
theorem e_119_98 {d : Nat} {h : mM} {L : mLs} {v : Int64} : ev d 119 98 L [.long v] h = some (some (.long v), h) := ev_rl d_119_98 (by decide +kernel)
theorem d_119_99 : decode (cd 119) 99 = .ok (.aload_n 0, 1) := by rw [cd_119]; decide +kernel
theorem e_119_99 {d : Nat} {h : mM} {T : mLs} {x : Nat} {st : List Value} : ev d 119 99 ( some (.ref x) :: T) st h = ev d 119 100 ( some (.ref x) :: T) (.ref x :: st) h := ev_of d_119_99 rfl
theorem d_119_100 : decode (cd 119) 100 = .ok (.getfield 204, 3) := by rw [cd_119]; decide +kernel
theorem e_119_100 {d : Nat} {h : mM} {L : mLs} {st : List Value} {a : Nat} : ev d 119 100 L (.ref a :: st) h = if mK h a = 10 then ev d 119 103 L (.int (mI h a 30) :: st) h else none := ev_gI d_119_100 (by decide +kernel) (by decide +kernel)
theorem d_119_103 : decode (cd 119) 103 = .ok (.i2l, 1) := by rw [cd_119]; decide +kernel
theorem e_119_103 {d : Nat} {h : mM} {L : mLs} {st : List Value} {x : Int32} : ev d 119 103 L (.int x :: st) h = ev d 119 104 L (.long x.toInt64 :: st) h := ev_of d_119_103 rfl
theorem d_119_104 : decode (cd 119) 104 = .ok (.lreturn, 1) := by rw [cd_119]; decide +kernel
theorem e_119_104 {d : Nat} {h : mM} {L : mLs} {v : Int64} : ev d 119 104 L [.long v] h = some (some (.long v), h) := ev_rl d_119_104 (by decide +kernel)
theorem d_119_105 : decode (cd 119) 105 = .ok (.aload_n 0, 1) := by rw [cd_119]; decide +kernel
theorem e_119_105 {d : Nat} {h : mM} {T : mLs} {x : Nat} {st : List Value} : ev d 119 105 ( some (.ref x) :: T) st h = ev d 119 106 ( some (.ref x) :: T) (.ref x :: st) h := ev_of d_119_105 rfl
theorem d_119_106 : decode (cd 119) 106 = .ok (.getfield 9, 3) := by rw [cd_119]; decide +kernel
theorem e_119_106 {d : Nat} {h : mM} {L : mLs} {st : List Value} {a : Nat} : ev d 119 106 L (.ref a :: st) h = if mK h a = 10 then ev d 119 109 L (.int (mI h a 1) :: st) h else none := ev_gI d_119_106 (by decide +kernel) (by decide +kernel)
theorem d_119_109 : decode (cd 119) 109 = .ok (.i2l, 1) := by rw [cd_119]; decide +kernel
theorem e_119_109 {d : Nat} {h : mM} {L : mLs} {st : List Value} {x : Int32} : ev d 119 109 L (.int x :: st) h = ev d 119 110 L (.long x.toInt64 :: st) h := ev_of d_119_109 rfl
theorem d_119_110 : decode (cd 119) 110 = .ok (.lreturn, 1) := by rw [cd_119]; decide +kernel
theorem e_119_110 {d : Nat} {h : mM} {L : mLs} {v : Int64} : ev d 119 110 L [.long v] h = some (some (.long v), h) := ev_rl d_119_110 (by decide +kernel)
theorem d_119_111 : decode (cd 119) 111 = .ok (.aload_n 0, 1) := by rw [cd_119]; decide +kernel
theorem e_119_111 {d : Nat} {h : mM} {T : mLs} {x : Nat} {st : List Value} : ev d 119 111 ( some (.ref x) :: T) st h = ev d 119 112 ( some (.ref x) :: T) (.ref x :: st) h := ev_of d_119_111 rfl
theorem d_119_112 : decode (cd 119) 112 = .ok (.ldc2_w 121, 3) := by rw [cd_119]; decide +kernel
theorem e_119_112 {d : Nat} {h : mM} {L : mLs} {st : List Value} : ev d 119 112 L st h = ev d 119 115 L (.long (-1000000001) :: st) h := ev_of d_119_112 rfl
theorem d_119_115 : decode (cd 119) 115 = .ok (.invokevirtual 123, 3) := by rw [cd_119]; decide +kernel
theorem e_119_115 {d : Nat} {h : mM} {L : mLs} {st : List Value} {a : Nat} {x0 : Int64} (hc : mCat st ≤ 8) : ev (d + 1) 119 115 L (.long x0 :: .ref a :: st) h = if mK h a = 10 then cV (ev d 79 0 [some (.ref a), some (.long x0), none] [] h) (fun v h1 => ev (d + 1) 119 118 L (v ++ st) h1) else none := ev_cv (mj := 79) (as := [.long x0]) (rest := st) d_119_115 (by decide +kernel) rfl rfl (by show _ ≤ List.length _; simp only [List.length_cons]; have : na 79 = 1 := rfl; omega) rfl (Nat.le_of_ble_eq_true rfl) hc
theorem d_119_118 : decode (cd 119) 118 = .ok (.lreturn, 1) := by rw [cd_119]; decide +kernel
theorem e_119_118 {d : Nat} {h : mM} {L : mLs} {v : Int64} : ev d 119 118 L [.long v] h = some (some (.long v), h) := ev_rl d_119_118 (by decide +kernel)
-- 120: Model.found
theorem cd_120 : cd 120 = prog_12_method_43_code := rfl
theorem d_120_0 : decode (cd 120) 0 = .ok (.iload_n 1, 1) := by rw [cd_120]; decide +kernel
theorem e_120_0 {d : Nat} {h : mM} {o0 : Option Value} {T : mLs} {x : Int32} {st : List Value} : ev d 120 0 (o0 :: some (.int x) :: T) st h = ev d 120 1 (o0 :: some (.int x) :: T) (.int x :: st) h := ev_of d_120_0 rfl
theorem d_120_1 : decode (cd 120) 1 = .ok (.iconst 1, 1) := by rw [cd_120]; decide +kernel
theorem e_120_1 {d : Nat} {h : mM} {L : mLs} {st : List Value} : ev d 120 1 L st h = ev d 120 2 L (.int 1 :: st) h := ev_of d_120_1 rfl
theorem d_120_2 : decode (cd 120) 2 = .ok (.iconst 5, 1) := by rw [cd_120]; decide +kernel
theorem e_120_2 {d : Nat} {h : mM} {L : mLs} {st : List Value} : ev d 120 2 L st h = ev d 120 3 L (.int 5 :: st) h := ev_of d_120_2 rfl
theorem d_120_3 : decode (cd 120) 3 = .ok (.invokestatic 114, 3) := by rw [cd_120]; decide +kernel
theorem e_120_3 {d : Nat} {h : mM} {L : mLs} {st : List Value} {x0 : Int32} {x1 : Int32} {x2 : Int32} (hc : mCat st ≤ 8) : ev (d + 1) 120 3 L (.int x2 :: .int x1 :: .int x0 :: st) h = cV (ev d 80 0 [some (.int x0), some (.int x1), some (.int x2)] [] h) (fun v h1 => ev (d + 1) 120 6 L (v ++ st) h1) := ev_cs (kd := 1) (mj := 80) (as := [.int x0, .int x1, .int x2]) (rest := st) d_120_3 (by decide +kernel) (by decide) rfl rfl (by show _ ≤ List.length _; simp only [List.length_cons]; have : na 80 = 3 := rfl; omega) rfl (Nat.le_of_ble_eq_true rfl) hc
theorem d_120_6 : decode (cd 120) 6 = .ok (.ifCond .eq 12, 3) := by rw [cd_120]; decide +kernel
theorem e_120_6 {d : Nat} {h : mM} {L : mLs} {st : List Value} {x : Int32} : ev d 120 6 L (.int x :: st) h = if x = 0 then ev d 120 18 L st h else ev d 120 9 L st h := ev_if (x = 0) inferInstance rfl d_120_6 (by decide)
theorem d_120_9 : decode (cd 120) 9 = .ok (.aload_n 0, 1) := by rw [cd_120]; decide +kernel
theorem e_120_9 {d : Nat} {h : mM} {T : mLs} {x : Nat} {st : List Value} : ev d 120 9 ( some (.ref x) :: T) st h = ev d 120 10 ( some (.ref x) :: T) (.ref x :: st) h := ev_of d_120_9 rfl
theorem d_120_10 : decode (cd 120) 10 = .ok (.getfield 90, 3) := by rw [cd_120]; decide +kernel
theorem e_120_10 {d : Nat} {h : mM} {L : mLs} {st : List Value} {a : Nat} : ev d 120 10 L (.ref a :: st) h = if mK h a = 10 then oB (mR h a 32) (fun b => ev d 120 13 L (.ref b :: st) h) else none := ev_gR d_120_10 (by decide +kernel) (by decide +kernel)
theorem d_120_13 : decode (cd 120) 13 = .ok (.iload_n 1, 1) := by rw [cd_120]; decide +kernel
theorem e_120_13 {d : Nat} {h : mM} {o0 : Option Value} {T : mLs} {x : Int32} {st : List Value} : ev d 120 13 (o0 :: some (.int x) :: T) st h = ev d 120 14 (o0 :: some (.int x) :: T) (.int x :: st) h := ev_of d_120_13 rfl
theorem d_120_14 : decode (cd 120) 14 = .ok (.laload, 1) := by rw [cd_120]; decide +kernel
theorem e_120_14 {d : Nat} {h : mM} {L : mLs} {st : List Value} {a : Nat} {i : Int32} : ev d 120 14 L (.int i :: .ref a :: st) h = if mK h a = 12 ∧ ixOK i (mL h a) = true then ev d 120 15 L (.long (mJ h a i.toNatClampNeg) :: st) h else none := ev_la d_120_14
theorem d_120_15 : decode (cd 120) 15 = .ok (.goto 10, 3) := by rw [cd_120]; decide +kernel
theorem e_120_15 {d : Nat} {h : mM} {L : mLs} {st : List Value} : ev d 120 15 L st h = ev d 120 25 L st h := ev_go d_120_15 (by decide)
theorem d_120_18 : decode (cd 120) 18 = .ok (.aload_n 0, 1) := by rw [cd_120]; decide +kernel
theorem e_120_18 {d : Nat} {h : mM} {T : mLs} {x : Nat} {st : List Value} : ev d 120 18 ( some (.ref x) :: T) st h = ev d 120 19 ( some (.ref x) :: T) (.ref x :: st) h := ev_of d_120_18 rfl
theorem d_120_19 : decode (cd 120) 19 = .ok (.ldc2_w 121, 3) := by rw [cd_120]; decide +kernel
theorem e_120_19 {d : Nat} {h : mM} {L : mLs} {st : List Value} : ev d 120 19 L st h = ev d 120 22 L (.long (-1000000001) :: st) h := ev_of d_120_19 rfl
theorem d_120_22 : decode (cd 120) 22 = .ok (.invokevirtual 123, 3) := by rw [cd_120]; decide +kernel
theorem e_120_22 {d : Nat} {h : mM} {L : mLs} {st : List Value} {a : Nat} {x0 : Int64} (hc : mCat st ≤ 8) : ev (d + 1) 120 22 L (.long x0 :: .ref a :: st) h = if mK h a = 10 then cV (ev d 79 0 [some (.ref a), some (.long x0), none] [] h) (fun v h1 => ev (d + 1) 120 25 L (v ++ st) h1) else none := ev_cv (mj := 79) (as := [.long x0]) (rest := st) d_120_22 (by decide +kernel) rfl rfl (by show _ ≤ List.length _; simp only [List.length_cons]; have : na 79 = 1 := rfl; omega) rfl (Nat.le_of_ble_eq_true rfl) hc
theorem d_120_25 : decode (cd 120) 25 = .ok (.lreturn, 1) := by rw [cd_120]; decide +kernel
theorem e_120_25 {d : Nat} {h : mM} {L : mLs} {v : Int64} : ev d 120 25 L [.long v] h = some (some (.long v), h) := ev_rl d_120_25 (by decide +kernel)
