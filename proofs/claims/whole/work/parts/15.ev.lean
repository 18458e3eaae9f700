-- decode rows and equations, by gen_ev.py
-- 37: TideMill.<init>
theorem cd_37 : cd 37 = prog_1_method_1_code := rfl
theorem d_37_0 : decode (cd 37) 0 = .ok (.aload_n 0, 1) := by rw [cd_37]; decide +kernel
theorem e_37_0 {d : Nat} {h : mM} {T : mLs} {x : Nat} {st : List Value} : ev d 37 0 ( some (.ref x) :: T) st h = ev d 37 1 ( some (.ref x) :: T) (.ref x :: st) h := ev_of d_37_0 rfl
theorem d_37_1 : decode (cd 37) 1 = .ok (.invokespecial 1, 3) := by rw [cd_37]; decide +kernel
theorem e_37_1 {d : Nat} {h : mM} {L : mLs} {st : List Value} {a : Nat} (hc : mCat st ≤ 8) : ev d 37 1 L (.ref a :: st) h = ev d 37 4 L st h := ev_obj (mj := 0) d_37_1 (by decide +kernel) hc
theorem d_37_4 : decode (cd 37) 4 = .ok (.aload_n 0, 1) := by rw [cd_37]; decide +kernel
theorem e_37_4 {d : Nat} {h : mM} {T : mLs} {x : Nat} {st : List Value} : ev d 37 4 ( some (.ref x) :: T) st h = ev d 37 5 ( some (.ref x) :: T) (.ref x :: st) h := ev_of d_37_4 rfl
theorem d_37_5 : decode (cd 37) 5 = .ok (.new 7, 3) := by rw [cd_37]; decide +kernel
theorem e_37_5 {d : Nat} {h : mM} {L : mLs} {st : List Value} : ev d 37 5 L st h = ev d 37 8 L (.ref (mN h) :: st) (wN h 7 2) := ev_new d_37_5 (by decide +kernel)
theorem d_37_8 : decode (cd 37) 8 = .ok (.dup, 1) := by rw [cd_37]; decide +kernel
theorem e_37_8r {d : Nat} {h : mM} {L : mLs} {st : List Value} {a : Nat} : ev d 37 8 L (.ref a :: st) h = ev d 37 9 L (.ref a :: .ref a :: st) h := ev_of d_37_8 rfl
theorem e_37_8i {d : Nat} {h : mM} {L : mLs} {st : List Value} {x : Int32} : ev d 37 8 L (.int x :: st) h = ev d 37 9 L (.int x :: .int x :: st) h := ev_of d_37_8 rfl
theorem d_37_9 : decode (cd 37) 9 = .ok (.invokespecial 9, 3) := by rw [cd_37]; decide +kernel
theorem e_37_9 {d : Nat} {h : mM} {L : mLs} {st : List Value} {a : Nat} (hc : mCat st ≤ 8) : ev (d + 1) 37 9 L (.ref a :: st) h = cV (ev d 30 0 [some (.ref a), none] [] h) (fun v h1 => ev (d + 1) 37 12 L (v ++ st) h1) := ev_ci (kd := 2) (mj := 30) (as := []) (rest := st) d_37_9 (by decide +kernel) (by decide) rfl rfl (by show _ ≤ List.length _; simp only [List.length_cons]; have : na 30 = 0 := rfl; omega) rfl (Nat.le_of_ble_eq_true rfl) hc
theorem d_37_12 : decode (cd 37) 12 = .ok (.putfield 10, 3) := by rw [cd_37]; decide +kernel
theorem e_37_12 {d : Nat} {h : mM} {L : mLs} {st : List Value} {a b : Nat} : ev d 37 12 L (.ref b :: .ref a :: st) h = if mK h a = 9 then ev d 37 15 L st (wR h a 0 (some b)) else none := ev_pR d_37_12 (by decide +kernel) (by decide +kernel) (by decide +kernel)
theorem d_37_15 : decode (cd 37) 15 = .ok (.aload_n 0, 1) := by rw [cd_37]; decide +kernel
theorem e_37_15 {d : Nat} {h : mM} {T : mLs} {x : Nat} {st : List Value} : ev d 37 15 ( some (.ref x) :: T) st h = ev d 37 16 ( some (.ref x) :: T) (.ref x :: st) h := ev_of d_37_15 rfl
theorem d_37_16 : decode (cd 37) 16 = .ok (.new 16, 3) := by rw [cd_37]; decide +kernel
theorem e_37_16 {d : Nat} {h : mM} {L : mLs} {st : List Value} : ev d 37 16 L st h = ev d 37 19 L (.ref (mN h) :: st) (wN h 8 7) := ev_new d_37_16 (by decide +kernel)
theorem d_37_19 : decode (cd 37) 19 = .ok (.dup, 1) := by rw [cd_37]; decide +kernel
theorem e_37_19r {d : Nat} {h : mM} {L : mLs} {st : List Value} {a : Nat} : ev d 37 19 L (.ref a :: st) h = ev d 37 20 L (.ref a :: .ref a :: st) h := ev_of d_37_19 rfl
theorem e_37_19i {d : Nat} {h : mM} {L : mLs} {st : List Value} {x : Int32} : ev d 37 19 L (.int x :: st) h = ev d 37 20 L (.int x :: .int x :: st) h := ev_of d_37_19 rfl
theorem d_37_20 : decode (cd 37) 20 = .ok (.invokespecial 18, 3) := by rw [cd_37]; decide +kernel
theorem e_37_20 {d : Nat} {h : mM} {L : mLs} {st : List Value} {a : Nat} (hc : mCat st ≤ 8) : ev (d + 1) 37 20 L (.ref a :: st) h = cV (ev d 32 0 [some (.ref a), none] [] h) (fun v h1 => ev (d + 1) 37 23 L (v ++ st) h1) := ev_ci (kd := 2) (mj := 32) (as := []) (rest := st) d_37_20 (by decide +kernel) (by decide) rfl rfl (by show _ ≤ List.length _; simp only [List.length_cons]; have : na 32 = 0 := rfl; omega) rfl (Nat.le_of_ble_eq_true rfl) hc
theorem d_37_23 : decode (cd 37) 23 = .ok (.putfield 19, 3) := by rw [cd_37]; decide +kernel
theorem e_37_23 {d : Nat} {h : mM} {L : mLs} {st : List Value} {a b : Nat} : ev d 37 23 L (.ref b :: .ref a :: st) h = if mK h a = 9 then ev d 37 26 L st (wR h a 1 (some b)) else none := ev_pR d_37_23 (by decide +kernel) (by decide +kernel) (by decide +kernel)
theorem d_37_26 : decode (cd 37) 26 = .ok (.aload_n 0, 1) := by rw [cd_37]; decide +kernel
theorem e_37_26 {d : Nat} {h : mM} {T : mLs} {x : Nat} {st : List Value} : ev d 37 26 ( some (.ref x) :: T) st h = ev d 37 27 ( some (.ref x) :: T) (.ref x :: st) h := ev_of d_37_26 rfl
theorem d_37_27 : decode (cd 37) 27 = .ok (.new 23, 3) := by rw [cd_37]; decide +kernel
theorem e_37_27 {d : Nat} {h : mM} {L : mLs} {st : List Value} : ev d 37 27 L st h = ev d 37 30 L (.ref (mN h) :: st) (wN h 1 6) := ev_new d_37_27 (by decide +kernel)
theorem d_37_30 : decode (cd 37) 30 = .ok (.dup, 1) := by rw [cd_37]; decide +kernel
theorem e_37_30r {d : Nat} {h : mM} {L : mLs} {st : List Value} {a : Nat} : ev d 37 30 L (.ref a :: st) h = ev d 37 31 L (.ref a :: .ref a :: st) h := ev_of d_37_30 rfl
theorem e_37_30i {d : Nat} {h : mM} {L : mLs} {st : List Value} {x : Int32} : ev d 37 30 L (.int x :: st) h = ev d 37 31 L (.int x :: .int x :: st) h := ev_of d_37_30 rfl
theorem d_37_31 : decode (cd 37) 31 = .ok (.aload_n 0, 1) := by rw [cd_37]; decide +kernel
theorem e_37_31 {d : Nat} {h : mM} {T : mLs} {x : Nat} {st : List Value} : ev d 37 31 ( some (.ref x) :: T) st h = ev d 37 32 ( some (.ref x) :: T) (.ref x :: st) h := ev_of d_37_31 rfl
theorem d_37_32 : decode (cd 37) 32 = .ok (.getfield 19, 3) := by rw [cd_37]; decide +kernel
theorem e_37_32 {d : Nat} {h : mM} {L : mLs} {st : List Value} {a : Nat} : ev d 37 32 L (.ref a :: st) h = if mK h a = 9 then oB (mR h a 1) (fun b => ev d 37 35 L (.ref b :: st) h) else none := ev_gR d_37_32 (by decide +kernel) (by decide +kernel)
theorem d_37_35 : decode (cd 37) 35 = .ok (.invokespecial 25, 3) := by rw [cd_37]; decide +kernel
theorem e_37_35 {d : Nat} {h : mM} {L : mLs} {st : List Value} {a : Nat} {x0 : Nat} (hc : mCat st ≤ 8) : ev (d + 1) 37 35 L (.ref x0 :: .ref a :: st) h = cV (ev d 1 0 [some (.ref a), some (.ref x0)] [] h) (fun v h1 => ev (d + 1) 37 38 L (v ++ st) h1) := ev_ci (kd := 2) (mj := 1) (as := [.ref x0]) (rest := st) d_37_35 (by decide +kernel) (by decide) rfl rfl (by show _ ≤ List.length _; simp only [List.length_cons]; have : na 1 = 1 := rfl; omega) rfl (Nat.le_of_ble_eq_true rfl) hc
theorem d_37_38 : decode (cd 37) 38 = .ok (.putfield 28, 3) := by rw [cd_37]; decide +kernel
theorem e_37_38 {d : Nat} {h : mM} {L : mLs} {st : List Value} {a b : Nat} : ev d 37 38 L (.ref b :: .ref a :: st) h = if mK h a = 9 then ev d 37 41 L st (wR h a 2 (some b)) else none := ev_pR d_37_38 (by decide +kernel) (by decide +kernel) (by decide +kernel)
theorem d_37_41 : decode (cd 37) 41 = .ok (.aload_n 0, 1) := by rw [cd_37]; decide +kernel
theorem e_37_41 {d : Nat} {h : mM} {T : mLs} {x : Nat} {st : List Value} : ev d 37 41 ( some (.ref x) :: T) st h = ev d 37 42 ( some (.ref x) :: T) (.ref x :: st) h := ev_of d_37_41 rfl
theorem d_37_42 : decode (cd 37) 42 = .ok (.new 32, 3) := by rw [cd_37]; decide +kernel
theorem e_37_42 {d : Nat} {h : mM} {L : mLs} {st : List Value} : ev d 37 42 L st h = ev d 37 45 L (.ref (mN h) :: st) (wN h 5 8) := ev_new d_37_42 (by decide +kernel)
theorem d_37_45 : decode (cd 37) 45 = .ok (.dup, 1) := by rw [cd_37]; decide +kernel
theorem e_37_45r {d : Nat} {h : mM} {L : mLs} {st : List Value} {a : Nat} : ev d 37 45 L (.ref a :: st) h = ev d 37 46 L (.ref a :: .ref a :: st) h := ev_of d_37_45 rfl
theorem e_37_45i {d : Nat} {h : mM} {L : mLs} {st : List Value} {x : Int32} : ev d 37 45 L (.int x :: st) h = ev d 37 46 L (.int x :: .int x :: st) h := ev_of d_37_45 rfl
theorem d_37_46 : decode (cd 37) 46 = .ok (.aload_n 0, 1) := by rw [cd_37]; decide +kernel
theorem e_37_46 {d : Nat} {h : mM} {T : mLs} {x : Nat} {st : List Value} : ev d 37 46 ( some (.ref x) :: T) st h = ev d 37 47 ( some (.ref x) :: T) (.ref x :: st) h := ev_of d_37_46 rfl
theorem d_37_47 : decode (cd 37) 47 = .ok (.getfield 19, 3) := by rw [cd_37]; decide +kernel
theorem e_37_47 {d : Nat} {h : mM} {L : mLs} {st : List Value} {a : Nat} : ev d 37 47 L (.ref a :: st) h = if mK h a = 9 then oB (mR h a 1) (fun b => ev d 37 50 L (.ref b :: st) h) else none := ev_gR d_37_47 (by decide +kernel) (by decide +kernel)
theorem d_37_50 : decode (cd 37) 50 = .ok (.aload_n 0, 1) := by rw [cd_37]; decide +kernel
theorem e_37_50 {d : Nat} {h : mM} {T : mLs} {x : Nat} {st : List Value} : ev d 37 50 ( some (.ref x) :: T) st h = ev d 37 51 ( some (.ref x) :: T) (.ref x :: st) h := ev_of d_37_50 rfl
theorem d_37_51 : decode (cd 37) 51 = .ok (.getfield 10, 3) := by rw [cd_37]; decide +kernel
theorem e_37_51 {d : Nat} {h : mM} {L : mLs} {st : List Value} {a : Nat} : ev d 37 51 L (.ref a :: st) h = if mK h a = 9 then oB (mR h a 0) (fun b => ev d 37 54 L (.ref b :: st) h) else none := ev_gR d_37_51 (by decide +kernel) (by decide +kernel)
theorem d_37_54 : decode (cd 37) 54 = .ok (.invokespecial 34, 3) := by rw [cd_37]; decide +kernel
theorem e_37_54 {d : Nat} {h : mM} {L : mLs} {st : List Value} {a : Nat} {x0 : Nat} {x1 : Nat} (hc : mCat st ≤ 8) : ev (d + 1) 37 54 L (.ref x1 :: .ref x0 :: .ref a :: st) h = cV (ev d 21 0 [some (.ref a), some (.ref x0), some (.ref x1)] [] h) (fun v h1 => ev (d + 1) 37 57 L (v ++ st) h1) := ev_ci (kd := 2) (mj := 21) (as := [.ref x0, .ref x1]) (rest := st) d_37_54 (by decide +kernel) (by decide) rfl rfl (by show _ ≤ List.length _; simp only [List.length_cons]; have : na 21 = 2 := rfl; omega) rfl (Nat.le_of_ble_eq_true rfl) hc
theorem d_37_57 : decode (cd 37) 57 = .ok (.putfield 37, 3) := by rw [cd_37]; decide +kernel
theorem e_37_57 {d : Nat} {h : mM} {L : mLs} {st : List Value} {a b : Nat} : ev d 37 57 L (.ref b :: .ref a :: st) h = if mK h a = 9 then ev d 37 60 L st (wR h a 3 (some b)) else none := ev_pR d_37_57 (by decide +kernel) (by decide +kernel) (by decide +kernel)
theorem d_37_60 : decode (cd 37) 60 = .ok (.aload_n 0, 1) := by rw [cd_37]; decide +kernel
theorem e_37_60 {d : Nat} {h : mM} {T : mLs} {x : Nat} {st : List Value} : ev d 37 60 ( some (.ref x) :: T) st h = ev d 37 61 ( some (.ref x) :: T) (.ref x :: st) h := ev_of d_37_60 rfl
theorem d_37_61 : decode (cd 37) 61 = .ok (.iconst 4, 1) := by rw [cd_37]; decide +kernel
theorem e_37_61 {d : Nat} {h : mM} {L : mLs} {st : List Value} : ev d 37 61 L st h = ev d 37 62 L (.int 4 :: st) h := ev_of d_37_61 rfl
theorem d_37_62 : decode (cd 37) 62 = .ok (.newarray .int, 2) := by rw [cd_37]; decide +kernel
theorem e_37_62 {d : Nat} {h : mM} {L : mLs} {st : List Value} {n : Int32} (hn : ¬ n < 0) (h1 : n.toNatClampNeg ≤ 1000) : ev d 37 62 L (.int n :: st) h = ev d 37 64 L (.ref (mN h) :: st) (wN h 11 n.toNatClampNeg) := ev_na d_37_62 (by decide) hn h1
theorem d_37_64 : decode (cd 37) 64 = .ok (.putfield 41, 3) := by rw [cd_37]; decide +kernel
theorem e_37_64 {d : Nat} {h : mM} {L : mLs} {st : List Value} {a b : Nat} : ev d 37 64 L (.ref b :: .ref a :: st) h = if mK h a = 9 then ev d 37 67 L st (wR h a 4 (some b)) else none := ev_pR d_37_64 (by decide +kernel) (by decide +kernel) (by decide +kernel)
theorem d_37_67 : decode (cd 37) 67 = .ok (.aload_n 0, 1) := by rw [cd_37]; decide +kernel
theorem e_37_67 {d : Nat} {h : mM} {T : mLs} {x : Nat} {st : List Value} : ev d 37 67 ( some (.ref x) :: T) st h = ev d 37 68 ( some (.ref x) :: T) (.ref x :: st) h := ev_of d_37_67 rfl
theorem d_37_68 : decode (cd 37) 68 = .ok (.bipush 10, 2) := by rw [cd_37]; decide +kernel
theorem e_37_68 {d : Nat} {h : mM} {L : mLs} {st : List Value} : ev d 37 68 L st h = ev d 37 70 L (.int 10 :: st) h := ev_of d_37_68 rfl
theorem d_37_70 : decode (cd 37) 70 = .ok (.newarray .int, 2) := by rw [cd_37]; decide +kernel
theorem e_37_70 {d : Nat} {h : mM} {L : mLs} {st : List Value} {n : Int32} (hn : ¬ n < 0) (h1 : n.toNatClampNeg ≤ 1000) : ev d 37 70 L (.int n :: st) h = ev d 37 72 L (.ref (mN h) :: st) (wN h 11 n.toNatClampNeg) := ev_na d_37_70 (by decide) hn h1
theorem d_37_72 : decode (cd 37) 72 = .ok (.putfield 45, 3) := by rw [cd_37]; decide +kernel
theorem e_37_72 {d : Nat} {h : mM} {L : mLs} {st : List Value} {a b : Nat} : ev d 37 72 L (.ref b :: .ref a :: st) h = if mK h a = 9 then ev d 37 75 L st (wR h a 5 (some b)) else none := ev_pR d_37_72 (by decide +kernel) (by decide +kernel) (by decide +kernel)
theorem d_37_75 : decode (cd 37) 75 = .ok (.aload_n 0, 1) := by rw [cd_37]; decide +kernel
theorem e_37_75 {d : Nat} {h : mM} {T : mLs} {x : Nat} {st : List Value} : ev d 37 75 ( some (.ref x) :: T) st h = ev d 37 76 ( some (.ref x) :: T) (.ref x :: st) h := ev_of d_37_75 rfl
theorem d_37_76 : decode (cd 37) 76 = .ok (.bipush 24, 2) := by rw [cd_37]; decide +kernel
theorem e_37_76 {d : Nat} {h : mM} {L : mLs} {st : List Value} : ev d 37 76 L st h = ev d 37 78 L (.int 24 :: st) h := ev_of d_37_76 rfl
theorem d_37_78 : decode (cd 37) 78 = .ok (.newarray .int, 2) := by rw [cd_37]; decide +kernel
theorem e_37_78 {d : Nat} {h : mM} {L : mLs} {st : List Value} {n : Int32} (hn : ¬ n < 0) (h1 : n.toNatClampNeg ≤ 1000) : ev d 37 78 L (.int n :: st) h = ev d 37 80 L (.ref (mN h) :: st) (wN h 11 n.toNatClampNeg) := ev_na d_37_78 (by decide) hn h1
theorem d_37_80 : decode (cd 37) 80 = .ok (.putfield 48, 3) := by rw [cd_37]; decide +kernel
theorem e_37_80 {d : Nat} {h : mM} {L : mLs} {st : List Value} {a b : Nat} : ev d 37 80 L (.ref b :: .ref a :: st) h = if mK h a = 9 then ev d 37 83 L st (wR h a 6 (some b)) else none := ev_pR d_37_80 (by decide +kernel) (by decide +kernel) (by decide +kernel)
theorem d_37_83 : decode (cd 37) 83 = .ok (.aload_n 0, 1) := by rw [cd_37]; decide +kernel
theorem e_37_83 {d : Nat} {h : mM} {T : mLs} {x : Nat} {st : List Value} : ev d 37 83 ( some (.ref x) :: T) st h = ev d 37 84 ( some (.ref x) :: T) (.ref x :: st) h := ev_of d_37_83 rfl
theorem d_37_84 : decode (cd 37) 84 = .ok (.bipush 6, 2) := by rw [cd_37]; decide +kernel
theorem e_37_84 {d : Nat} {h : mM} {L : mLs} {st : List Value} : ev d 37 84 L st h = ev d 37 86 L (.int 6 :: st) h := ev_of d_37_84 rfl
theorem d_37_86 : decode (cd 37) 86 = .ok (.newarray .int, 2) := by rw [cd_37]; decide +kernel
theorem e_37_86 {d : Nat} {h : mM} {L : mLs} {st : List Value} {n : Int32} (hn : ¬ n < 0) (h1 : n.toNatClampNeg ≤ 1000) : ev d 37 86 L (.int n :: st) h = ev d 37 88 L (.ref (mN h) :: st) (wN h 11 n.toNatClampNeg) := ev_na d_37_86 (by decide) hn h1
theorem d_37_88 : decode (cd 37) 88 = .ok (.putfield 51, 3) := by rw [cd_37]; decide +kernel
theorem e_37_88 {d : Nat} {h : mM} {L : mLs} {st : List Value} {a b : Nat} : ev d 37 88 L (.ref b :: .ref a :: st) h = if mK h a = 9 then ev d 37 91 L st (wR h a 7 (some b)) else none := ev_pR d_37_88 (by decide +kernel) (by decide +kernel) (by decide +kernel)
theorem d_37_91 : decode (cd 37) 91 = .ok (.aload_n 0, 1) := by rw [cd_37]; decide +kernel
theorem e_37_91 {d : Nat} {h : mM} {T : mLs} {x : Nat} {st : List Value} : ev d 37 91 ( some (.ref x) :: T) st h = ev d 37 92 ( some (.ref x) :: T) (.ref x :: st) h := ev_of d_37_91 rfl
theorem d_37_92 : decode (cd 37) 92 = .ok (.iconst 4, 1) := by rw [cd_37]; decide +kernel
theorem e_37_92 {d : Nat} {h : mM} {L : mLs} {st : List Value} : ev d 37 92 L st h = ev d 37 93 L (.int 4 :: st) h := ev_of d_37_92 rfl
theorem d_37_93 : decode (cd 37) 93 = .ok (.newarray .int, 2) := by rw [cd_37]; decide +kernel
theorem e_37_93 {d : Nat} {h : mM} {L : mLs} {st : List Value} {n : Int32} (hn : ¬ n < 0) (h1 : n.toNatClampNeg ≤ 1000) : ev d 37 93 L (.int n :: st) h = ev d 37 95 L (.ref (mN h) :: st) (wN h 11 n.toNatClampNeg) := ev_na d_37_93 (by decide) hn h1
theorem d_37_95 : decode (cd 37) 95 = .ok (.putfield 54, 3) := by rw [cd_37]; decide +kernel
theorem e_37_95 {d : Nat} {h : mM} {L : mLs} {st : List Value} {a b : Nat} : ev d 37 95 L (.ref b :: .ref a :: st) h = if mK h a = 9 then ev d 37 98 L st (wR h a 8 (some b)) else none := ev_pR d_37_95 (by decide +kernel) (by decide +kernel) (by decide +kernel)
theorem d_37_98 : decode (cd 37) 98 = .ok (.aload_n 0, 1) := by rw [cd_37]; decide +kernel
theorem e_37_98 {d : Nat} {h : mM} {T : mLs} {x : Nat} {st : List Value} : ev d 37 98 ( some (.ref x) :: T) st h = ev d 37 99 ( some (.ref x) :: T) (.ref x :: st) h := ev_of d_37_98 rfl
theorem d_37_99 : decode (cd 37) 99 = .ok (.iconst 0, 1) := by rw [cd_37]; decide +kernel
theorem e_37_99 {d : Nat} {h : mM} {L : mLs} {st : List Value} : ev d 37 99 L st h = ev d 37 100 L (.int 0 :: st) h := ev_of d_37_99 rfl
theorem d_37_100 : decode (cd 37) 100 = .ok (.putfield 57, 3) := by rw [cd_37]; decide +kernel
theorem e_37_100 {d : Nat} {h : mM} {L : mLs} {st : List Value} {a : Nat} {v : Int32} : ev d 37 100 L (.int v :: .ref a :: st) h = if mK h a = 9 then ev d 37 103 L st (wI h a 9 v) else none := ev_pI d_37_100 (by decide +kernel) (by decide +kernel) (by decide +kernel)
theorem d_37_103 : decode (cd 37) 103 = .ok (.aload_n 0, 1) := by rw [cd_37]; decide +kernel
theorem e_37_103 {d : Nat} {h : mM} {T : mLs} {x : Nat} {st : List Value} : ev d 37 103 ( some (.ref x) :: T) st h = ev d 37 104 ( some (.ref x) :: T) (.ref x :: st) h := ev_of d_37_103 rfl
theorem d_37_104 : decode (cd 37) 104 = .ok (.iconst 0, 1) := by rw [cd_37]; decide +kernel
theorem e_37_104 {d : Nat} {h : mM} {L : mLs} {st : List Value} : ev d 37 104 L st h = ev d 37 105 L (.int 0 :: st) h := ev_of d_37_104 rfl
theorem d_37_105 : decode (cd 37) 105 = .ok (.putfield 61, 3) := by rw [cd_37]; decide +kernel
theorem e_37_105 {d : Nat} {h : mM} {L : mLs} {st : List Value} {a : Nat} {v : Int32} : ev d 37 105 L (.int v :: .ref a :: st) h = if mK h a = 9 then ev d 37 108 L st (wI h a 10 v) else none := ev_pI d_37_105 (by decide +kernel) (by decide +kernel) (by decide +kernel)
theorem d_37_108 : decode (cd 37) 108 = .ok (.aload_n 0, 1) := by rw [cd_37]; decide +kernel
theorem e_37_108 {d : Nat} {h : mM} {T : mLs} {x : Nat} {st : List Value} : ev d 37 108 ( some (.ref x) :: T) st h = ev d 37 109 ( some (.ref x) :: T) (.ref x :: st) h := ev_of d_37_108 rfl
theorem d_37_109 : decode (cd 37) 109 = .ok (.iconst 0, 1) := by rw [cd_37]; decide +kernel
theorem e_37_109 {d : Nat} {h : mM} {L : mLs} {st : List Value} : ev d 37 109 L st h = ev d 37 110 L (.int 0 :: st) h := ev_of d_37_109 rfl
theorem d_37_110 : decode (cd 37) 110 = .ok (.putfield 64, 3) := by rw [cd_37]; decide +kernel
theorem e_37_110 {d : Nat} {h : mM} {L : mLs} {st : List Value} {a : Nat} {v : Int32} : ev d 37 110 L (.int v :: .ref a :: st) h = if mK h a = 9 then ev d 37 113 L st (wI h a 11 v) else none := ev_pI d_37_110 (by decide +kernel) (by decide +kernel) (by decide +kernel)
theorem d_37_113 : decode (cd 37) 113 = .ok (.aload_n 0, 1) := by rw [cd_37]; decide +kernel
theorem e_37_113 {d : Nat} {h : mM} {T : mLs} {x : Nat} {st : List Value} : ev d 37 113 ( some (.ref x) :: T) st h = ev d 37 114 ( some (.ref x) :: T) (.ref x :: st) h := ev_of d_37_113 rfl
theorem d_37_114 : decode (cd 37) 114 = .ok (.iconst 0, 1) := by rw [cd_37]; decide +kernel
theorem e_37_114 {d : Nat} {h : mM} {L : mLs} {st : List Value} : ev d 37 114 L st h = ev d 37 115 L (.int 0 :: st) h := ev_of d_37_114 rfl
theorem d_37_115 : decode (cd 37) 115 = .ok (.putfield 67, 3) := by rw [cd_37]; decide +kernel
theorem e_37_115 {d : Nat} {h : mM} {L : mLs} {st : List Value} {a : Nat} {v : Int32} : ev d 37 115 L (.int v :: .ref a :: st) h = if mK h a = 9 then ev d 37 118 L st (wI h a 12 v) else none := ev_pI d_37_115 (by decide +kernel) (by decide +kernel) (by decide +kernel)
theorem d_37_118 : decode (cd 37) 118 = .ok (.aload_n 0, 1) := by rw [cd_37]; decide +kernel
theorem e_37_118 {d : Nat} {h : mM} {T : mLs} {x : Nat} {st : List Value} : ev d 37 118 ( some (.ref x) :: T) st h = ev d 37 119 ( some (.ref x) :: T) (.ref x :: st) h := ev_of d_37_118 rfl
theorem d_37_119 : decode (cd 37) 119 = .ok (.iconst 0, 1) := by rw [cd_37]; decide +kernel
theorem e_37_119 {d : Nat} {h : mM} {L : mLs} {st : List Value} : ev d 37 119 L st h = ev d 37 120 L (.int 0 :: st) h := ev_of d_37_119 rfl
theorem d_37_120 : decode (cd 37) 120 = .ok (.putfield 70, 3) := by rw [cd_37]; decide +kernel
theorem e_37_120 {d : Nat} {h : mM} {L : mLs} {st : List Value} {a : Nat} {v : Int32} : ev d 37 120 L (.int v :: .ref a :: st) h = if mK h a = 9 then ev d 37 123 L st (wI h a 13 v) else none := ev_pI d_37_120 (by decide +kernel) (by decide +kernel) (by decide +kernel)
theorem d_37_123 : decode (cd 37) 123 = .ok (.aload_n 0, 1) := by rw [cd_37]; decide +kernel
theorem e_37_123 {d : Nat} {h : mM} {T : mLs} {x : Nat} {st : List Value} : ev d 37 123 ( some (.ref x) :: T) st h = ev d 37 124 ( some (.ref x) :: T) (.ref x :: st) h := ev_of d_37_123 rfl
theorem d_37_124 : decode (cd 37) 124 = .ok (.iconst 0, 1) := by rw [cd_37]; decide +kernel
theorem e_37_124 {d : Nat} {h : mM} {L : mLs} {st : List Value} : ev d 37 124 L st h = ev d 37 125 L (.int 0 :: st) h := ev_of d_37_124 rfl
theorem d_37_125 : decode (cd 37) 125 = .ok (.putfield 73, 3) := by rw [cd_37]; decide +kernel
theorem e_37_125 {d : Nat} {h : mM} {L : mLs} {st : List Value} {a : Nat} {v : Int32} : ev d 37 125 L (.int v :: .ref a :: st) h = if mK h a = 9 then ev d 37 128 L st (wI h a 14 v) else none := ev_pI d_37_125 (by decide +kernel) (by decide +kernel) (by decide +kernel)
theorem d_37_128 : decode (cd 37) 128 = .ok (.aload_n 0, 1) := by rw [cd_37]; decide +kernel
theorem e_37_128 {d : Nat} {h : mM} {T : mLs} {x : Nat} {st : List Value} : ev d 37 128 ( some (.ref x) :: T) st h = ev d 37 129 ( some (.ref x) :: T) (.ref x :: st) h := ev_of d_37_128 rfl
theorem d_37_129 : decode (cd 37) 129 = .ok (.iconst 0, 1) := by rw [cd_37]; decide +kernel
theorem e_37_129 {d : Nat} {h : mM} {L : mLs} {st : List Value} : ev d 37 129 L st h = ev d 37 130 L (.int 0 :: st) h := ev_of d_37_129 rfl
theorem d_37_130 : decode (cd 37) 130 = .ok (.putfield 76, 3) := by rw [cd_37]; decide +kernel
theorem e_37_130 {d : Nat} {h : mM} {L : mLs} {st : List Value} {a : Nat} {v : Int32} : ev d 37 130 L (.int v :: .ref a :: st) h = if mK h a = 9 then ev d 37 133 L st (wI h a 15 v) else none := ev_pI d_37_130 (by decide +kernel) (by decide +kernel) (by decide +kernel)
theorem d_37_133 : decode (cd 37) 133 = .ok (.return_, 1) := by rw [cd_37]; decide +kernel
theorem e_37_133 {d : Nat} {h : mM} {L : mLs} : ev d 37 133 L [] h = some (none, h) := ev_rv d_37_133 (by decide +kernel)
-- 38: TideMill.round
theorem cd_38 : cd 38 = prog_1_method_2_code := rfl
theorem d_38_0 : decode (cd 38) 0 = .ok (.iload_n 1, 1) := by rw [cd_38]; decide +kernel
theorem e_38_0 {d : Nat} {h : mM} {o0 : Option Value} {T : mLs} {x : Int32} {st : List Value} : ev d 38 0 (o0 :: some (.int x) :: T) st h = ev d 38 1 (o0 :: some (.int x) :: T) (.int x :: st) h := ev_of d_38_0 rfl
theorem d_38_1 : decode (cd 38) 1 = .ok (.iconst 1, 1) := by rw [cd_38]; decide +kernel
theorem e_38_1 {d : Nat} {h : mM} {L : mLs} {st : List Value} : ev d 38 1 L st h = ev d 38 2 L (.int 1 :: st) h := ev_of d_38_1 rfl
theorem d_38_2 : decode (cd 38) 2 = .ok (.bipush 24, 2) := by rw [cd_38]; decide +kernel
theorem e_38_2 {d : Nat} {h : mM} {L : mLs} {st : List Value} : ev d 38 2 L st h = ev d 38 4 L (.int 24 :: st) h := ev_of d_38_2 rfl
theorem d_38_4 : decode (cd 38) 4 = .ok (.invokestatic 79, 3) := by rw [cd_38]; decide +kernel
theorem e_38_4 {d : Nat} {h : mM} {L : mLs} {st : List Value} {x0 : Int32} {x1 : Int32} {x2 : Int32} (hc : mCat st ≤ 8) : ev (d + 1) 38 4 L (.int x2 :: .int x1 :: .int x0 :: st) h = cV (ev d 65 0 [some (.int x0), some (.int x1), some (.int x2)] [] h) (fun v h1 => ev (d + 1) 38 7 L (v ++ st) h1) := ev_cs (kd := 1) (mj := 65) (as := [.int x0, .int x1, .int x2]) (rest := st) d_38_4 (by decide +kernel) (by decide) rfl rfl (by show _ ≤ List.length _; simp only [List.length_cons]; have : na 65 = 3 := rfl; omega) rfl (Nat.le_of_ble_eq_true rfl) hc
theorem d_38_7 : decode (cd 38) 7 = .ok (.ifCond .ne 9, 3) := by rw [cd_38]; decide +kernel
theorem e_38_7 {d : Nat} {h : mM} {L : mLs} {st : List Value} {x : Int32} : ev d 38 7 L (.int x :: st) h = if ¬ x = 0 then ev d 38 16 L st h else ev d 38 10 L st h := ev_if (¬ x = 0) inferInstance rfl d_38_7 (by decide)
theorem d_38_10 : decode (cd 38) 10 = .ok (.aload_n 0, 1) := by rw [cd_38]; decide +kernel
theorem e_38_10 {d : Nat} {h : mM} {T : mLs} {x : Nat} {st : List Value} : ev d 38 10 ( some (.ref x) :: T) st h = ev d 38 11 ( some (.ref x) :: T) (.ref x :: st) h := ev_of d_38_10 rfl
theorem d_38_11 : decode (cd 38) 11 = .ok (.iconst 1, 1) := by rw [cd_38]; decide +kernel
theorem e_38_11 {d : Nat} {h : mM} {L : mLs} {st : List Value} : ev d 38 11 L st h = ev d 38 12 L (.int 1 :: st) h := ev_of d_38_11 rfl
theorem d_38_12 : decode (cd 38) 12 = .ok (.invokevirtual 83, 3) := by rw [cd_38]; decide +kernel
theorem e_38_12 {d : Nat} {h : mM} {L : mLs} {st : List Value} {a : Nat} {x0 : Int32} (hc : mCat st ≤ 8) : ev (d + 1) 38 12 L (.int x0 :: .ref a :: st) h = if mK h a = 9 then cV (ev d 64 0 [some (.ref a), some (.int x0)] [] h) (fun v h1 => ev (d + 1) 38 15 L (v ++ st) h1) else none := ev_cv (mj := 64) (as := [.int x0]) (rest := st) d_38_12 (by decide +kernel) rfl rfl (by show _ ≤ List.length _; simp only [List.length_cons]; have : na 64 = 1 := rfl; omega) rfl (Nat.le_of_ble_eq_true rfl) hc
theorem d_38_15 : decode (cd 38) 15 = .ok (.ireturn, 1) := by rw [cd_38]; decide +kernel
theorem e_38_15 {d : Nat} {h : mM} {L : mLs} {v : Int32} : ev d 38 15 L [.int v] h = some (some (.int v), h) := ev_ri d_38_15 (by decide +kernel)
theorem d_38_16 : decode (cd 38) 16 = .ok (.aload_n 0, 1) := by rw [cd_38]; decide +kernel
theorem e_38_16 {d : Nat} {h : mM} {T : mLs} {x : Nat} {st : List Value} : ev d 38 16 ( some (.ref x) :: T) st h = ev d 38 17 ( some (.ref x) :: T) (.ref x :: st) h := ev_of d_38_16 rfl
theorem d_38_17 : decode (cd 38) 17 = .ok (.getfield 10, 3) := by rw [cd_38]; decide +kernel
theorem e_38_17 {d : Nat} {h : mM} {L : mLs} {st : List Value} {a : Nat} : ev d 38 17 L (.ref a :: st) h = if mK h a = 9 then oB (mR h a 0) (fun b => ev d 38 20 L (.ref b :: st) h) else none := ev_gR d_38_17 (by decide +kernel) (by decide +kernel)
theorem d_38_20 : decode (cd 38) 20 = .ok (.getfield 87, 3) := by rw [cd_38]; decide +kernel
theorem e_38_20 {d : Nat} {h : mM} {L : mLs} {st : List Value} {a : Nat} : ev d 38 20 L (.ref a :: st) h = if mK h a = 7 then ev d 38 23 L (.int (mI h a 1) :: st) h else none := ev_gI d_38_20 (by decide +kernel) (by decide +kernel)
theorem d_38_23 : decode (cd 38) 23 = .ok (.istore_n 2, 1) := by rw [cd_38]; decide +kernel
theorem e_38_23 {d : Nat} {h : mM} {o0 o1 o2 : Option Value} {T : mLs} {x : Int32} {st : List Value} (hl : mLong o1 = false) : ev d 38 23 (o0 :: o1 :: o2 :: T) (.int x :: st) h = ev d 38 24 (o0 :: o1 :: some (.int x) :: T) st h := ev_st_in d_38_23 (by decide +kernel) (mS1_s (j := 1) hl)
theorem d_38_24 : decode (cd 38) 24 = .ok (.aload_n 0, 1) := by rw [cd_38]; decide +kernel
theorem e_38_24 {d : Nat} {h : mM} {T : mLs} {x : Nat} {st : List Value} : ev d 38 24 ( some (.ref x) :: T) st h = ev d 38 25 ( some (.ref x) :: T) (.ref x :: st) h := ev_of d_38_24 rfl
theorem d_38_25 : decode (cd 38) 25 = .ok (.getfield 10, 3) := by rw [cd_38]; decide +kernel
theorem e_38_25 {d : Nat} {h : mM} {L : mLs} {st : List Value} {a : Nat} : ev d 38 25 L (.ref a :: st) h = if mK h a = 9 then oB (mR h a 0) (fun b => ev d 38 28 L (.ref b :: st) h) else none := ev_gR d_38_25 (by decide +kernel) (by decide +kernel)
theorem d_38_28 : decode (cd 38) 28 = .ok (.iload_n 1, 1) := by rw [cd_38]; decide +kernel
theorem e_38_28 {d : Nat} {h : mM} {o0 : Option Value} {T : mLs} {x : Int32} {st : List Value} : ev d 38 28 (o0 :: some (.int x) :: T) st h = ev d 38 29 (o0 :: some (.int x) :: T) (.int x :: st) h := ev_of d_38_28 rfl
theorem d_38_29 : decode (cd 38) 29 = .ok (.putfield 87, 3) := by rw [cd_38]; decide +kernel
theorem e_38_29 {d : Nat} {h : mM} {L : mLs} {st : List Value} {a : Nat} {v : Int32} : ev d 38 29 L (.int v :: .ref a :: st) h = if mK h a = 7 then ev d 38 32 L st (wI h a 1 v) else none := ev_pI d_38_29 (by decide +kernel) (by decide +kernel) (by decide +kernel)
theorem d_38_32 : decode (cd 38) 32 = .ok (.iload_n 2, 1) := by rw [cd_38]; decide +kernel
theorem e_38_32 {d : Nat} {h : mM} {o0 o1 : Option Value} {T : mLs} {x : Int32} {st : List Value} : ev d 38 32 (o0 :: o1 :: some (.int x) :: T) st h = ev d 38 33 (o0 :: o1 :: some (.int x) :: T) (.int x :: st) h := ev_of d_38_32 rfl
theorem d_38_33 : decode (cd 38) 33 = .ok (.ireturn, 1) := by rw [cd_38]; decide +kernel
theorem e_38_33 {d : Nat} {h : mM} {L : mLs} {v : Int32} : ev d 38 33 L [.int v] h = some (some (.int v), h) := ev_ri d_38_33 (by decide +kernel)
-- 39: TideMill.height
theorem cd_39 : cd 39 = prog_1_method_3_code := rfl
theorem d_39_0 : decode (cd 39) 0 = .ok (.iload_n 1, 1) := by rw [cd_39]; decide +kernel
theorem e_39_0 {d : Nat} {h : mM} {o0 : Option Value} {T : mLs} {x : Int32} {st : List Value} : ev d 39 0 (o0 :: some (.int x) :: T) st h = ev d 39 1 (o0 :: some (.int x) :: T) (.int x :: st) h := ev_of d_39_0 rfl
theorem d_39_1 : decode (cd 39) 1 = .ok (.iconst 0, 1) := by rw [cd_39]; decide +kernel
theorem e_39_1 {d : Nat} {h : mM} {L : mLs} {st : List Value} : ev d 39 1 L st h = ev d 39 2 L (.int 0 :: st) h := ev_of d_39_1 rfl
theorem d_39_2 : decode (cd 39) 2 = .ok (.bipush 23, 2) := by rw [cd_39]; decide +kernel
theorem e_39_2 {d : Nat} {h : mM} {L : mLs} {st : List Value} : ev d 39 2 L st h = ev d 39 4 L (.int 23 :: st) h := ev_of d_39_2 rfl
theorem d_39_4 : decode (cd 39) 4 = .ok (.invokestatic 79, 3) := by rw [cd_39]; decide +kernel
theorem e_39_4 {d : Nat} {h : mM} {L : mLs} {st : List Value} {x0 : Int32} {x1 : Int32} {x2 : Int32} (hc : mCat st ≤ 8) : ev (d + 1) 39 4 L (.int x2 :: .int x1 :: .int x0 :: st) h = cV (ev d 65 0 [some (.int x0), some (.int x1), some (.int x2)] [] h) (fun v h1 => ev (d + 1) 39 7 L (v ++ st) h1) := ev_cs (kd := 1) (mj := 65) (as := [.int x0, .int x1, .int x2]) (rest := st) d_39_4 (by decide +kernel) (by decide) rfl rfl (by show _ ≤ List.length _; simp only [List.length_cons]; have : na 65 = 3 := rfl; omega) rfl (Nat.le_of_ble_eq_true rfl) hc
theorem d_39_7 : decode (cd 39) 7 = .ok (.ifCond .eq 14, 3) := by rw [cd_39]; decide +kernel
theorem e_39_7 {d : Nat} {h : mM} {L : mLs} {st : List Value} {x : Int32} : ev d 39 7 L (.int x :: st) h = if x = 0 then ev d 39 21 L st h else ev d 39 10 L st h := ev_if (x = 0) inferInstance rfl d_39_7 (by decide)
theorem d_39_10 : decode (cd 39) 10 = .ok (.iload_n 2, 1) := by rw [cd_39]; decide +kernel
theorem e_39_10 {d : Nat} {h : mM} {o0 o1 : Option Value} {T : mLs} {x : Int32} {st : List Value} : ev d 39 10 (o0 :: o1 :: some (.int x) :: T) st h = ev d 39 11 (o0 :: o1 :: some (.int x) :: T) (.int x :: st) h := ev_of d_39_10 rfl
theorem d_39_11 : decode (cd 39) 11 = .ok (.iconst 0, 1) := by rw [cd_39]; decide +kernel
theorem e_39_11 {d : Nat} {h : mM} {L : mLs} {st : List Value} : ev d 39 11 L st h = ev d 39 12 L (.int 0 :: st) h := ev_of d_39_11 rfl
theorem d_39_12 : decode (cd 39) 12 = .ok (.sipush 200, 3) := by rw [cd_39]; decide +kernel
theorem e_39_12 {d : Nat} {h : mM} {L : mLs} {st : List Value} : ev d 39 12 L st h = ev d 39 15 L (.int 200 :: st) h := ev_of d_39_12 rfl
theorem d_39_15 : decode (cd 39) 15 = .ok (.invokestatic 79, 3) := by rw [cd_39]; decide +kernel
theorem e_39_15 {d : Nat} {h : mM} {L : mLs} {st : List Value} {x0 : Int32} {x1 : Int32} {x2 : Int32} (hc : mCat st ≤ 8) : ev (d + 1) 39 15 L (.int x2 :: .int x1 :: .int x0 :: st) h = cV (ev d 65 0 [some (.int x0), some (.int x1), some (.int x2)] [] h) (fun v h1 => ev (d + 1) 39 18 L (v ++ st) h1) := ev_cs (kd := 1) (mj := 65) (as := [.int x0, .int x1, .int x2]) (rest := st) d_39_15 (by decide +kernel) (by decide) rfl rfl (by show _ ≤ List.length _; simp only [List.length_cons]; have : na 65 = 3 := rfl; omega) rfl (Nat.le_of_ble_eq_true rfl) hc
theorem d_39_18 : decode (cd 39) 18 = .ok (.ifCond .ne 9, 3) := by rw [cd_39]; decide +kernel
theorem e_39_18 {d : Nat} {h : mM} {L : mLs} {st : List Value} {x : Int32} : ev d 39 18 L (.int x :: st) h = if ¬ x = 0 then ev d 39 27 L st h else ev d 39 21 L st h := ev_if (¬ x = 0) inferInstance rfl d_39_18 (by decide)
theorem d_39_21 : decode (cd 39) 21 = .ok (.aload_n 0, 1) := by rw [cd_39]; decide +kernel
theorem e_39_21 {d : Nat} {h : mM} {T : mLs} {x : Nat} {st : List Value} : ev d 39 21 ( some (.ref x) :: T) st h = ev d 39 22 ( some (.ref x) :: T) (.ref x :: st) h := ev_of d_39_21 rfl
theorem d_39_22 : decode (cd 39) 22 = .ok (.iconst 1, 1) := by rw [cd_39]; decide +kernel
theorem e_39_22 {d : Nat} {h : mM} {L : mLs} {st : List Value} : ev d 39 22 L st h = ev d 39 23 L (.int 1 :: st) h := ev_of d_39_22 rfl
theorem d_39_23 : decode (cd 39) 23 = .ok (.invokevirtual 83, 3) := by rw [cd_39]; decide +kernel
theorem e_39_23 {d : Nat} {h : mM} {L : mLs} {st : List Value} {a : Nat} {x0 : Int32} (hc : mCat st ≤ 8) : ev (d + 1) 39 23 L (.int x0 :: .ref a :: st) h = if mK h a = 9 then cV (ev d 64 0 [some (.ref a), some (.int x0)] [] h) (fun v h1 => ev (d + 1) 39 26 L (v ++ st) h1) else none := ev_cv (mj := 64) (as := [.int x0]) (rest := st) d_39_23 (by decide +kernel) rfl rfl (by show _ ≤ List.length _; simp only [List.length_cons]; have : na 64 = 1 := rfl; omega) rfl (Nat.le_of_ble_eq_true rfl) hc
theorem d_39_26 : decode (cd 39) 26 = .ok (.ireturn, 1) := by rw [cd_39]; decide +kernel
theorem e_39_26 {d : Nat} {h : mM} {L : mLs} {v : Int32} : ev d 39 26 L [.int v] h = some (some (.int v), h) := ev_ri d_39_26 (by decide +kernel)
theorem d_39_27 : decode (cd 39) 27 = .ok (.aload_n 0, 1) := by rw [cd_39]; decide +kernel
theorem e_39_27 {d : Nat} {h : mM} {T : mLs} {x : Nat} {st : List Value} : ev d 39 27 ( some (.ref x) :: T) st h = ev d 39 28 ( some (.ref x) :: T) (.ref x :: st) h := ev_of d_39_27 rfl
theorem d_39_28 : decode (cd 39) 28 = .ok (.getfield 10, 3) := by rw [cd_39]; decide +kernel
theorem e_39_28 {d : Nat} {h : mM} {L : mLs} {st : List Value} {a : Nat} : ev d 39 28 L (.ref a :: st) h = if mK h a = 9 then oB (mR h a 0) (fun b => ev d 39 31 L (.ref b :: st) h) else none := ev_gR d_39_28 (by decide +kernel) (by decide +kernel)
theorem d_39_31 : decode (cd 39) 31 = .ok (.getfield 90, 3) := by rw [cd_39]; decide +kernel
theorem e_39_31 {d : Nat} {h : mM} {L : mLs} {st : List Value} {a : Nat} : ev d 39 31 L (.ref a :: st) h = if mK h a = 7 then oB (mR h a 0) (fun b => ev d 39 34 L (.ref b :: st) h) else none := ev_gR d_39_31 (by decide +kernel) (by decide +kernel)
theorem d_39_34 : decode (cd 39) 34 = .ok (.iload_n 1, 1) := by rw [cd_39]; decide +kernel
theorem e_39_34 {d : Nat} {h : mM} {o0 : Option Value} {T : mLs} {x : Int32} {st : List Value} : ev d 39 34 (o0 :: some (.int x) :: T) st h = ev d 39 35 (o0 :: some (.int x) :: T) (.int x :: st) h := ev_of d_39_34 rfl
theorem d_39_35 : decode (cd 39) 35 = .ok (.iaload, 1) := by rw [cd_39]; decide +kernel
theorem e_39_35 {d : Nat} {h : mM} {L : mLs} {st : List Value} {a : Nat} {i : Int32} : ev d 39 35 L (.int i :: .ref a :: st) h = if (mK h a = 11 ∨ mK h a = 19) ∧ ixOK i (mL h a) = true then ev d 39 36 L (.int (mI h a i.toNatClampNeg) :: st) h else none := ev_ia d_39_35
theorem d_39_36 : decode (cd 39) 36 = .ok (.istore_n 3, 1) := by rw [cd_39]; decide +kernel
theorem e_39_36 {d : Nat} {h : mM} {o0 o1 o2 o3 : Option Value} {T : mLs} {x : Int32} {st : List Value} (hl : mLong o2 = false) : ev d 39 36 (o0 :: o1 :: o2 :: o3 :: T) (.int x :: st) h = ev d 39 37 (o0 :: o1 :: o2 :: some (.int x) :: T) st h := ev_st_in d_39_36 (by decide +kernel) (mS1_s (j := 2) hl)
theorem d_39_37 : decode (cd 39) 37 = .ok (.aload_n 0, 1) := by rw [cd_39]; decide +kernel
theorem e_39_37 {d : Nat} {h : mM} {T : mLs} {x : Nat} {st : List Value} : ev d 39 37 ( some (.ref x) :: T) st h = ev d 39 38 ( some (.ref x) :: T) (.ref x :: st) h := ev_of d_39_37 rfl
theorem d_39_38 : decode (cd 39) 38 = .ok (.getfield 10, 3) := by rw [cd_39]; decide +kernel
theorem e_39_38 {d : Nat} {h : mM} {L : mLs} {st : List Value} {a : Nat} : ev d 39 38 L (.ref a :: st) h = if mK h a = 9 then oB (mR h a 0) (fun b => ev d 39 41 L (.ref b :: st) h) else none := ev_gR d_39_38 (by decide +kernel) (by decide +kernel)
theorem d_39_41 : decode (cd 39) 41 = .ok (.getfield 90, 3) := by rw [cd_39]; decide +kernel
theorem e_39_41 {d : Nat} {h : mM} {L : mLs} {st : List Value} {a : Nat} : ev d 39 41 L (.ref a :: st) h = if mK h a = 7 then oB (mR h a 0) (fun b => ev d 39 44 L (.ref b :: st) h) else none := ev_gR d_39_41 (by decide +kernel) (by decide +kernel)
theorem d_39_44 : decode (cd 39) 44 = .ok (.iload_n 1, 1) := by rw [cd_39]; decide +kernel
theorem e_39_44 {d : Nat} {h : mM} {o0 : Option Value} {T : mLs} {x : Int32} {st : List Value} : ev d 39 44 (o0 :: some (.int x) :: T) st h = ev d 39 45 (o0 :: some (.int x) :: T) (.int x :: st) h := ev_of d_39_44 rfl
theorem d_39_45 : decode (cd 39) 45 = .ok (.iload_n 2, 1) := by rw [cd_39]; decide +kernel
theorem e_39_45 {d : Nat} {h : mM} {o0 o1 : Option Value} {T : mLs} {x : Int32} {st : List Value} : ev d 39 45 (o0 :: o1 :: some (.int x) :: T) st h = ev d 39 46 (o0 :: o1 :: some (.int x) :: T) (.int x :: st) h := ev_of d_39_45 rfl
theorem d_39_46 : decode (cd 39) 46 = .ok (.iastore, 1) := by rw [cd_39]; decide +kernel
theorem e_39_46 {d : Nat} {h : mM} {L : mLs} {st : List Value} {a : Nat} {i v : Int32} : ev d 39 46 L (.int v :: .int i :: .ref a :: st) h = if mK h a = 11 ∧ ixOK i (mL h a) = true then ev d 39 47 L st (wI h a i.toNatClampNeg v) else none := ev_is d_39_46
theorem d_39_47 : decode (cd 39) 47 = .ok (.iload_n 3, 1) := by rw [cd_39]; decide +kernel
theorem e_39_47 {d : Nat} {h : mM} {o0 o1 o2 : Option Value} {T : mLs} {x : Int32} {st : List Value} : ev d 39 47 (o0 :: o1 :: o2 :: some (.int x) :: T) st h = ev d 39 48 (o0 :: o1 :: o2 :: some (.int x) :: T) (.int x :: st) h := ev_of d_39_47 rfl
theorem d_39_48 : decode (cd 39) 48 = .ok (.ireturn, 1) := by rw [cd_39]; decide +kernel
theorem e_39_48 {d : Nat} {h : mM} {L : mLs} {v : Int32} : ev d 39 48 L [.int v] h = some (some (.int v), h) := ev_ri d_39_48 (by decide +kernel)
-- 40: TideMill.tide
theorem cd_40 : cd 40 = prog_1_method_4_code := rfl
theorem d_40_0 : decode (cd 40) 0 = .ok (.iload_n 1, 1) := by rw [cd_40]; decide +kernel
theorem e_40_0 {d : Nat} {h : mM} {o0 : Option Value} {T : mLs} {x : Int32} {st : List Value} : ev d 40 0 (o0 :: some (.int x) :: T) st h = ev d 40 1 (o0 :: some (.int x) :: T) (.int x :: st) h := ev_of d_40_0 rfl
theorem d_40_1 : decode (cd 40) 1 = .ok (.ifCond .ge 11, 3) := by rw [cd_40]; decide +kernel
theorem e_40_1 {d : Nat} {h : mM} {L : mLs} {st : List Value} {x : Int32} : ev d 40 1 L (.int x :: st) h = if 0 ≤ x then ev d 40 12 L st h else ev d 40 4 L st h := ev_if (0 ≤ x) inferInstance rfl d_40_1 (by decide)
theorem d_40_4 : decode (cd 40) 4 = .ok (.aload_n 0, 1) := by rw [cd_40]; decide +kernel
theorem e_40_4 {d : Nat} {h : mM} {T : mLs} {x : Nat} {st : List Value} : ev d 40 4 ( some (.ref x) :: T) st h = ev d 40 5 ( some (.ref x) :: T) (.ref x :: st) h := ev_of d_40_4 rfl
theorem d_40_5 : decode (cd 40) 5 = .ok (.iconst 1, 1) := by rw [cd_40]; decide +kernel
theorem e_40_5 {d : Nat} {h : mM} {L : mLs} {st : List Value} : ev d 40 5 L st h = ev d 40 6 L (.int 1 :: st) h := ev_of d_40_5 rfl
theorem d_40_6 : decode (cd 40) 6 = .ok (.invokevirtual 83, 3) := by rw [cd_40]; decide +kernel
theorem e_40_6 {d : Nat} {h : mM} {L : mLs} {st : List Value} {a : Nat} {x0 : Int32} (hc : mCat st ≤ 8) : ev (d + 1) 40 6 L (.int x0 :: .ref a :: st) h = if mK h a = 9 then cV (ev d 64 0 [some (.ref a), some (.int x0)] [] h) (fun v h1 => ev (d + 1) 40 9 L (v ++ st) h1) else none := ev_cv (mj := 64) (as := [.int x0]) (rest := st) d_40_6 (by decide +kernel) rfl rfl (by show _ ≤ List.length _; simp only [List.length_cons]; have : na 64 = 1 := rfl; omega) rfl (Nat.le_of_ble_eq_true rfl) hc
theorem d_40_9 : decode (cd 40) 9 = .ok (.goto 11, 3) := by rw [cd_40]; decide +kernel
theorem e_40_9 {d : Nat} {h : mM} {L : mLs} {st : List Value} : ev d 40 9 L st h = ev d 40 20 L st h := ev_go d_40_9 (by decide)
theorem d_40_12 : decode (cd 40) 12 = .ok (.aload_n 0, 1) := by rw [cd_40]; decide +kernel
theorem e_40_12 {d : Nat} {h : mM} {T : mLs} {x : Nat} {st : List Value} : ev d 40 12 ( some (.ref x) :: T) st h = ev d 40 13 ( some (.ref x) :: T) (.ref x :: st) h := ev_of d_40_12 rfl
theorem d_40_13 : decode (cd 40) 13 = .ok (.getfield 10, 3) := by rw [cd_40]; decide +kernel
theorem e_40_13 {d : Nat} {h : mM} {L : mLs} {st : List Value} {a : Nat} : ev d 40 13 L (.ref a :: st) h = if mK h a = 9 then oB (mR h a 0) (fun b => ev d 40 16 L (.ref b :: st) h) else none := ev_gR d_40_13 (by decide +kernel) (by decide +kernel)
theorem d_40_16 : decode (cd 40) 16 = .ok (.iload_n 1, 1) := by rw [cd_40]; decide +kernel
theorem e_40_16 {d : Nat} {h : mM} {o0 : Option Value} {T : mLs} {x : Int32} {st : List Value} : ev d 40 16 (o0 :: some (.int x) :: T) st h = ev d 40 17 (o0 :: some (.int x) :: T) (.int x :: st) h := ev_of d_40_16 rfl
theorem d_40_17 : decode (cd 40) 17 = .ok (.invokevirtual 93, 3) := by rw [cd_40]; decide +kernel
theorem e_40_17 {d : Nat} {h : mM} {L : mLs} {st : List Value} {a : Nat} {x0 : Int32} (hc : mCat st ≤ 8) : ev (d + 1) 40 17 L (.int x0 :: .ref a :: st) h = if mK h a = 7 then cV (ev d 31 0 [some (.ref a), some (.int x0)] [] h) (fun v h1 => ev (d + 1) 40 20 L (v ++ st) h1) else none := ev_cv (mj := 31) (as := [.int x0]) (rest := st) d_40_17 (by decide +kernel) rfl rfl (by show _ ≤ List.length _; simp only [List.length_cons]; have : na 31 = 1 := rfl; omega) rfl (Nat.le_of_ble_eq_true rfl) hc
theorem d_40_20 : decode (cd 40) 20 = .ok (.ireturn, 1) := by rw [cd_40]; decide +kernel
theorem e_40_20 {d : Nat} {h : mM} {L : mLs} {v : Int32} : ev d 40 20 L [.int v] h = some (some (.int v), h) := ev_ri d_40_20 (by decide +kernel)
-- 41: TideMill.pond
theorem cd_41 : cd 41 = prog_1_method_5_code := rfl
theorem d_41_0 : decode (cd 41) 0 = .ok (.iload_n 1, 1) := by rw [cd_41]; decide +kernel
theorem e_41_0 {d : Nat} {h : mM} {o0 : Option Value} {T : mLs} {x : Int32} {st : List Value} : ev d 41 0 (o0 :: some (.int x) :: T) st h = ev d 41 1 (o0 :: some (.int x) :: T) (.int x :: st) h := ev_of d_41_0 rfl
theorem d_41_1 : decode (cd 41) 1 = .ok (.iconst 1, 1) := by rw [cd_41]; decide +kernel
theorem e_41_1 {d : Nat} {h : mM} {L : mLs} {st : List Value} : ev d 41 1 L st h = ev d 41 2 L (.int 1 :: st) h := ev_of d_41_1 rfl
theorem d_41_2 : decode (cd 41) 2 = .ok (.bipush 100, 2) := by rw [cd_41]; decide +kernel
theorem e_41_2 {d : Nat} {h : mM} {L : mLs} {st : List Value} : ev d 41 2 L st h = ev d 41 4 L (.int 100 :: st) h := ev_of d_41_2 rfl
theorem d_41_4 : decode (cd 41) 4 = .ok (.invokestatic 79, 3) := by rw [cd_41]; decide +kernel
theorem e_41_4 {d : Nat} {h : mM} {L : mLs} {st : List Value} {x0 : Int32} {x1 : Int32} {x2 : Int32} (hc : mCat st ≤ 8) : ev (d + 1) 41 4 L (.int x2 :: .int x1 :: .int x0 :: st) h = cV (ev d 65 0 [some (.int x0), some (.int x1), some (.int x2)] [] h) (fun v h1 => ev (d + 1) 41 7 L (v ++ st) h1) := ev_cs (kd := 1) (mj := 65) (as := [.int x0, .int x1, .int x2]) (rest := st) d_41_4 (by decide +kernel) (by decide) rfl rfl (by show _ ≤ List.length _; simp only [List.length_cons]; have : na 65 = 3 := rfl; omega) rfl (Nat.le_of_ble_eq_true rfl) hc
theorem d_41_7 : decode (cd 41) 7 = .ok (.ifCond .eq 21, 3) := by rw [cd_41]; decide +kernel
theorem e_41_7 {d : Nat} {h : mM} {L : mLs} {st : List Value} {x : Int32} : ev d 41 7 L (.int x :: st) h = if x = 0 then ev d 41 28 L st h else ev d 41 10 L st h := ev_if (x = 0) inferInstance rfl d_41_7 (by decide)
theorem d_41_10 : decode (cd 41) 10 = .ok (.iload_n 2, 1) := by rw [cd_41]; decide +kernel
theorem e_41_10 {d : Nat} {h : mM} {o0 o1 : Option Value} {T : mLs} {x : Int32} {st : List Value} : ev d 41 10 (o0 :: o1 :: some (.int x) :: T) st h = ev d 41 11 (o0 :: o1 :: some (.int x) :: T) (.int x :: st) h := ev_of d_41_10 rfl
theorem d_41_11 : decode (cd 41) 11 = .ok (.iconst 1, 1) := by rw [cd_41]; decide +kernel
theorem e_41_11 {d : Nat} {h : mM} {L : mLs} {st : List Value} : ev d 41 11 L st h = ev d 41 12 L (.int 1 :: st) h := ev_of d_41_11 rfl
theorem d_41_12 : decode (cd 41) 12 = .ok (.sipush 250, 3) := by rw [cd_41]; decide +kernel
theorem e_41_12 {d : Nat} {h : mM} {L : mLs} {st : List Value} : ev d 41 12 L st h = ev d 41 15 L (.int 250 :: st) h := ev_of d_41_12 rfl
theorem d_41_15 : decode (cd 41) 15 = .ok (.invokestatic 79, 3) := by rw [cd_41]; decide +kernel
theorem e_41_15 {d : Nat} {h : mM} {L : mLs} {st : List Value} {x0 : Int32} {x1 : Int32} {x2 : Int32} (hc : mCat st ≤ 8) : ev (d + 1) 41 15 L (.int x2 :: .int x1 :: .int x0 :: st) h = cV (ev d 65 0 [some (.int x0), some (.int x1), some (.int x2)] [] h) (fun v h1 => ev (d + 1) 41 18 L (v ++ st) h1) := ev_cs (kd := 1) (mj := 65) (as := [.int x0, .int x1, .int x2]) (rest := st) d_41_15 (by decide +kernel) (by decide) rfl rfl (by show _ ≤ List.length _; simp only [List.length_cons]; have : na 65 = 3 := rfl; omega) rfl (Nat.le_of_ble_eq_true rfl) hc
theorem d_41_18 : decode (cd 41) 18 = .ok (.ifCond .eq 10, 3) := by rw [cd_41]; decide +kernel
theorem e_41_18 {d : Nat} {h : mM} {L : mLs} {st : List Value} {x : Int32} : ev d 41 18 L (.int x :: st) h = if x = 0 then ev d 41 28 L st h else ev d 41 21 L st h := ev_if (x = 0) inferInstance rfl d_41_18 (by decide)
theorem d_41_21 : decode (cd 41) 21 = .ok (.iload_n 3, 1) := by rw [cd_41]; decide +kernel
theorem e_41_21 {d : Nat} {h : mM} {o0 o1 o2 : Option Value} {T : mLs} {x : Int32} {st : List Value} : ev d 41 21 (o0 :: o1 :: o2 :: some (.int x) :: T) st h = ev d 41 22 (o0 :: o1 :: o2 :: some (.int x) :: T) (.int x :: st) h := ev_of d_41_21 rfl
theorem d_41_22 : decode (cd 41) 22 = .ok (.invokestatic 96, 3) := by rw [cd_41]; decide +kernel
theorem e_41_22 {d : Nat} {h : mM} {L : mLs} {st : List Value} {x0 : Int32} (hc : mCat st ≤ 8) : ev (d + 1) 41 22 L (.int x0 :: st) h = cV (ev d 66 0 [some (.int x0)] [] h) (fun v h1 => ev (d + 1) 41 25 L (v ++ st) h1) := ev_cs (kd := 1) (mj := 66) (as := [.int x0]) (rest := st) d_41_22 (by decide +kernel) (by decide) rfl rfl (by show _ ≤ List.length _; simp only [List.length_cons]; have : na 66 = 1 := rfl; omega) rfl (Nat.le_of_ble_eq_true rfl) hc
theorem d_41_25 : decode (cd 41) 25 = .ok (.ifCond .ne 9, 3) := by rw [cd_41]; decide +kernel
theorem e_41_25 {d : Nat} {h : mM} {L : mLs} {st : List Value} {x : Int32} : ev d 41 25 L (.int x :: st) h = if ¬ x = 0 then ev d 41 34 L st h else ev d 41 28 L st h := ev_if (¬ x = 0) inferInstance rfl d_41_25 (by decide)
theorem d_41_28 : decode (cd 41) 28 = .ok (.aload_n 0, 1) := by rw [cd_41]; decide +kernel
theorem e_41_28 {d : Nat} {h : mM} {T : mLs} {x : Nat} {st : List Value} : ev d 41 28 ( some (.ref x) :: T) st h = ev d 41 29 ( some (.ref x) :: T) (.ref x :: st) h := ev_of d_41_28 rfl
theorem d_41_29 : decode (cd 41) 29 = .ok (.iconst 1, 1) := by rw [cd_41]; decide +kernel
theorem e_41_29 {d : Nat} {h : mM} {L : mLs} {st : List Value} : ev d 41 29 L st h = ev d 41 30 L (.int 1 :: st) h := ev_of d_41_29 rfl
theorem d_41_30 : decode (cd 41) 30 = .ok (.invokevirtual 83, 3) := by rw [cd_41]; decide +kernel
theorem e_41_30 {d : Nat} {h : mM} {L : mLs} {st : List Value} {a : Nat} {x0 : Int32} (hc : mCat st ≤ 8) : ev (d + 1) 41 30 L (.int x0 :: .ref a :: st) h = if mK h a = 9 then cV (ev d 64 0 [some (.ref a), some (.int x0)] [] h) (fun v h1 => ev (d + 1) 41 33 L (v ++ st) h1) else none := ev_cv (mj := 64) (as := [.int x0]) (rest := st) d_41_30 (by decide +kernel) rfl rfl (by show _ ≤ List.length _; simp only [List.length_cons]; have : na 64 = 1 := rfl; omega) rfl (Nat.le_of_ble_eq_true rfl) hc
theorem d_41_33 : decode (cd 41) 33 = .ok (.ireturn, 1) := by rw [cd_41]; decide +kernel
theorem e_41_33 {d : Nat} {h : mM} {L : mLs} {v : Int32} : ev d 41 33 L [.int v] h = some (some (.int v), h) := ev_ri d_41_33 (by decide +kernel)
theorem d_41_34 : decode (cd 41) 34 = .ok (.aload_n 0, 1) := by rw [cd_41]; decide +kernel
theorem e_41_34 {d : Nat} {h : mM} {T : mLs} {x : Nat} {st : List Value} : ev d 41 34 ( some (.ref x) :: T) st h = ev d 41 35 ( some (.ref x) :: T) (.ref x :: st) h := ev_of d_41_34 rfl
theorem d_41_35 : decode (cd 41) 35 = .ok (.getfield 19, 3) := by rw [cd_41]; decide +kernel
theorem e_41_35 {d : Nat} {h : mM} {L : mLs} {st : List Value} {a : Nat} : ev d 41 35 L (.ref a :: st) h = if mK h a = 9 then oB (mR h a 1) (fun b => ev d 41 38 L (.ref b :: st) h) else none := ev_gR d_41_35 (by decide +kernel) (by decide +kernel)
theorem d_41_38 : decode (cd 41) 38 = .ok (.getfield 100, 3) := by rw [cd_41]; decide +kernel
theorem e_41_38 {d : Nat} {h : mM} {L : mLs} {st : List Value} {a : Nat} : ev d 41 38 L (.ref a :: st) h = if mK h a = 8 then ev d 41 41 L (.int (mI h a 4) :: st) h else none := ev_gI d_41_38 (by decide +kernel) (by decide +kernel)
theorem d_41_41 : decode (cd 41) 41 = .ok (.iconst 4, 1) := by rw [cd_41]; decide +kernel
theorem e_41_41 {d : Nat} {h : mM} {L : mLs} {st : List Value} : ev d 41 41 L st h = ev d 41 42 L (.int 4 :: st) h := ev_of d_41_41 rfl
theorem d_41_42 : decode (cd 41) 42 = .ok (.if_icmp .lt 9, 3) := by rw [cd_41]; decide +kernel
theorem e_41_42 {d : Nat} {h : mM} {L : mLs} {st : List Value} {x y : Int32} : ev d 41 42 L (.int y :: .int x :: st) h = if x < y then ev d 41 51 L st h else ev d 41 45 L st h := ev_ic (x < y) inferInstance rfl d_41_42 (by decide)
theorem d_41_45 : decode (cd 41) 45 = .ok (.aload_n 0, 1) := by rw [cd_41]; decide +kernel
theorem e_41_45 {d : Nat} {h : mM} {T : mLs} {x : Nat} {st : List Value} : ev d 41 45 ( some (.ref x) :: T) st h = ev d 41 46 ( some (.ref x) :: T) (.ref x :: st) h := ev_of d_41_45 rfl
theorem d_41_46 : decode (cd 41) 46 = .ok (.iconst 4, 1) := by rw [cd_41]; decide +kernel
theorem e_41_46 {d : Nat} {h : mM} {L : mLs} {st : List Value} : ev d 41 46 L st h = ev d 41 47 L (.int 4 :: st) h := ev_of d_41_46 rfl
theorem d_41_47 : decode (cd 41) 47 = .ok (.invokevirtual 83, 3) := by rw [cd_41]; decide +kernel
theorem e_41_47 {d : Nat} {h : mM} {L : mLs} {st : List Value} {a : Nat} {x0 : Int32} (hc : mCat st ≤ 8) : ev (d + 1) 41 47 L (.int x0 :: .ref a :: st) h = if mK h a = 9 then cV (ev d 64 0 [some (.ref a), some (.int x0)] [] h) (fun v h1 => ev (d + 1) 41 50 L (v ++ st) h1) else none := ev_cv (mj := 64) (as := [.int x0]) (rest := st) d_41_47 (by decide +kernel) rfl rfl (by show _ ≤ List.length _; simp only [List.length_cons]; have : na 64 = 1 := rfl; omega) rfl (Nat.le_of_ble_eq_true rfl) hc
theorem d_41_50 : decode (cd 41) 50 = .ok (.ireturn, 1) := by rw [cd_41]; decide +kernel
theorem e_41_50 {d : Nat} {h : mM} {L : mLs} {v : Int32} : ev d 41 50 L [.int v] h = some (some (.int v), h) := ev_ri d_41_50 (by decide +kernel)
theorem d_41_51 : decode (cd 41) 51 = .ok (.aload_n 0, 1) := by rw [cd_41]; decide +kernel
theorem e_41_51 {d : Nat} {h : mM} {T : mLs} {x : Nat} {st : List Value} : ev d 41 51 ( some (.ref x) :: T) st h = ev d 41 52 ( some (.ref x) :: T) (.ref x :: st) h := ev_of d_41_51 rfl
theorem d_41_52 : decode (cd 41) 52 = .ok (.getfield 19, 3) := by rw [cd_41]; decide +kernel
theorem e_41_52 {d : Nat} {h : mM} {L : mLs} {st : List Value} {a : Nat} : ev d 41 52 L (.ref a :: st) h = if mK h a = 9 then oB (mR h a 1) (fun b => ev d 41 55 L (.ref b :: st) h) else none := ev_gR d_41_52 (by decide +kernel) (by decide +kernel)
theorem d_41_55 : decode (cd 41) 55 = .ok (.getfield 100, 3) := by rw [cd_41]; decide +kernel
theorem e_41_55 {d : Nat} {h : mM} {L : mLs} {st : List Value} {a : Nat} : ev d 41 55 L (.ref a :: st) h = if mK h a = 8 then ev d 41 58 L (.int (mI h a 4) :: st) h else none := ev_gI d_41_55 (by decide +kernel) (by decide +kernel)
theorem d_41_58 : decode (cd 41) 58 = .ok (.istore 4, 2) := by rw [cd_41]; decide +kernel
theorem e_41_58 {d : Nat} {h : mM} {o0 o1 o2 o3 o4 : Option Value} {T : mLs} {x : Int32} {st : List Value} (hl : mLong o3 = false) : ev d 41 58 (o0 :: o1 :: o2 :: o3 :: o4 :: T) (.int x :: st) h = ev d 41 60 (o0 :: o1 :: o2 :: o3 :: some (.int x) :: T) st h := ev_st_i d_41_58 (by decide +kernel) (mS1_s (j := 3) hl)
theorem d_41_60 : decode (cd 41) 60 = .ok (.aload_n 0, 1) := by rw [cd_41]; decide +kernel
theorem e_41_60 {d : Nat} {h : mM} {T : mLs} {x : Nat} {st : List Value} : ev d 41 60 ( some (.ref x) :: T) st h = ev d 41 61 ( some (.ref x) :: T) (.ref x :: st) h := ev_of d_41_60 rfl
theorem d_41_61 : decode (cd 41) 61 = .ok (.getfield 19, 3) := by rw [cd_41]; decide +kernel
theorem e_41_61 {d : Nat} {h : mM} {L : mLs} {st : List Value} {a : Nat} : ev d 41 61 L (.ref a :: st) h = if mK h a = 9 then oB (mR h a 1) (fun b => ev d 41 64 L (.ref b :: st) h) else none := ev_gR d_41_61 (by decide +kernel) (by decide +kernel)
theorem d_41_64 : decode (cd 41) 64 = .ok (.getfield 103, 3) := by rw [cd_41]; decide +kernel
theorem e_41_64 {d : Nat} {h : mM} {L : mLs} {st : List Value} {a : Nat} : ev d 41 64 L (.ref a :: st) h = if mK h a = 8 then oB (mR h a 0) (fun b => ev d 41 67 L (.ref b :: st) h) else none := ev_gR d_41_64 (by decide +kernel) (by decide +kernel)
theorem d_41_67 : decode (cd 41) 67 = .ok (.iload 4, 2) := by rw [cd_41]; decide +kernel
theorem e_41_67 {d : Nat} {h : mM} {o0 o1 o2 o3 : Option Value} {T : mLs} {x : Int32} {st : List Value} : ev d 41 67 (o0 :: o1 :: o2 :: o3 :: some (.int x) :: T) st h = ev d 41 69 (o0 :: o1 :: o2 :: o3 :: some (.int x) :: T) (.int x :: st) h := ev_of d_41_67 rfl
theorem d_41_69 : decode (cd 41) 69 = .ok (.aaload, 1) := by rw [cd_41]; decide +kernel
theorem e_41_69 {d : Nat} {h : mM} {L : mLs} {st : List Value} {a : Nat} {i : Int32} : ev d 41 69 L (.int i :: .ref a :: st) h = if (12 < mK h a ∧ mK h a < 19) ∧ ixOK i (mL h a) = true then oB (mR h a i.toNatClampNeg) (fun b => ev d 41 70 L (.ref b :: st) h) else none := ev_aa d_41_69
theorem d_41_70 : decode (cd 41) 70 = .ok (.astore 5, 2) := by rw [cd_41]; decide +kernel
theorem e_41_70 {d : Nat} {h : mM} {o0 o1 o2 o3 o4 o5 : Option Value} {T : mLs} {x : Nat} {st : List Value} (hl : mLong o4 = false) : ev d 41 70 (o0 :: o1 :: o2 :: o3 :: o4 :: o5 :: T) (.ref x :: st) h = ev d 41 72 (o0 :: o1 :: o2 :: o3 :: o4 :: some (.ref x) :: T) st h := ev_st_r d_41_70 (by decide +kernel) (mS1_s (j := 4) hl)
theorem d_41_72 : decode (cd 41) 72 = .ok (.aload 5, 2) := by rw [cd_41]; decide +kernel
theorem e_41_72 {d : Nat} {h : mM} {o0 o1 o2 o3 o4 : Option Value} {T : mLs} {x : Nat} {st : List Value} : ev d 41 72 (o0 :: o1 :: o2 :: o3 :: o4 :: some (.ref x) :: T) st h = ev d 41 74 (o0 :: o1 :: o2 :: o3 :: o4 :: some (.ref x) :: T) (.ref x :: st) h := ev_of d_41_72 rfl
theorem d_41_74 : decode (cd 41) 74 = .ok (.iload_n 1, 1) := by rw [cd_41]; decide +kernel
theorem e_41_74 {d : Nat} {h : mM} {o0 : Option Value} {T : mLs} {x : Int32} {st : List Value} : ev d 41 74 (o0 :: some (.int x) :: T) st h = ev d 41 75 (o0 :: some (.int x) :: T) (.int x :: st) h := ev_of d_41_74 rfl
theorem d_41_75 : decode (cd 41) 75 = .ok (.putfield 107, 3) := by rw [cd_41]; decide +kernel
theorem e_41_75 {d : Nat} {h : mM} {L : mLs} {st : List Value} {a : Nat} {v : Int32} : ev d 41 75 L (.int v :: .ref a :: st) h = if mK h a = 3 then ev d 41 78 L st (wI h a 0 v) else none := ev_pI d_41_75 (by decide +kernel) (by decide +kernel) (by decide +kernel)
theorem d_41_78 : decode (cd 41) 78 = .ok (.aload 5, 2) := by rw [cd_41]; decide +kernel
theorem e_41_78 {d : Nat} {h : mM} {o0 o1 o2 o3 o4 : Option Value} {T : mLs} {x : Nat} {st : List Value} : ev d 41 78 (o0 :: o1 :: o2 :: o3 :: o4 :: some (.ref x) :: T) st h = ev d 41 80 (o0 :: o1 :: o2 :: o3 :: o4 :: some (.ref x) :: T) (.ref x :: st) h := ev_of d_41_78 rfl
theorem d_41_80 : decode (cd 41) 80 = .ok (.iload_n 2, 1) := by rw [cd_41]; decide +kernel
theorem e_41_80 {d : Nat} {h : mM} {o0 o1 : Option Value} {T : mLs} {x : Int32} {st : List Value} : ev d 41 80 (o0 :: o1 :: some (.int x) :: T) st h = ev d 41 81 (o0 :: o1 :: some (.int x) :: T) (.int x :: st) h := ev_of d_41_80 rfl
theorem d_41_81 : decode (cd 41) 81 = .ok (.putfield 112, 3) := by rw [cd_41]; decide +kernel
theorem e_41_81 {d : Nat} {h : mM} {L : mLs} {st : List Value} {a : Nat} {v : Int32} : ev d 41 81 L (.int v :: .ref a :: st) h = if mK h a = 3 then ev d 41 84 L st (wI h a 1 v) else none := ev_pI d_41_81 (by decide +kernel) (by decide +kernel) (by decide +kernel)
theorem d_41_84 : decode (cd 41) 84 = .ok (.aload 5, 2) := by rw [cd_41]; decide +kernel
theorem e_41_84 {d : Nat} {h : mM} {o0 o1 o2 o3 o4 : Option Value} {T : mLs} {x : Nat} {st : List Value} : ev d 41 84 (o0 :: o1 :: o2 :: o3 :: o4 :: some (.ref x) :: T) st h = ev d 41 86 (o0 :: o1 :: o2 :: o3 :: o4 :: some (.ref x) :: T) (.ref x :: st) h := ev_of d_41_84 rfl
theorem d_41_86 : decode (cd 41) 86 = .ok (.iload_n 3, 1) := by rw [cd_41]; decide +kernel
theorem e_41_86 {d : Nat} {h : mM} {o0 o1 o2 : Option Value} {T : mLs} {x : Int32} {st : List Value} : ev d 41 86 (o0 :: o1 :: o2 :: some (.int x) :: T) st h = ev d 41 87 (o0 :: o1 :: o2 :: some (.int x) :: T) (.int x :: st) h := ev_of d_41_86 rfl
theorem d_41_87 : decode (cd 41) 87 = .ok (.putfield 115, 3) := by rw [cd_41]; decide +kernel
theorem e_41_87 {d : Nat} {h : mM} {L : mLs} {st : List Value} {a : Nat} {v : Int32} : ev d 41 87 L (.int v :: .ref a :: st) h = if mK h a = 3 then ev d 41 90 L st (wI h a 2 v) else none := ev_pI d_41_87 (by decide +kernel) (by decide +kernel) (by decide +kernel)
theorem d_41_90 : decode (cd 41) 90 = .ok (.aload_n 0, 1) := by rw [cd_41]; decide +kernel
theorem e_41_90 {d : Nat} {h : mM} {T : mLs} {x : Nat} {st : List Value} : ev d 41 90 ( some (.ref x) :: T) st h = ev d 41 91 ( some (.ref x) :: T) (.ref x :: st) h := ev_of d_41_90 rfl
theorem d_41_91 : decode (cd 41) 91 = .ok (.getfield 19, 3) := by rw [cd_41]; decide +kernel
theorem e_41_91 {d : Nat} {h : mM} {L : mLs} {st : List Value} {a : Nat} : ev d 41 91 L (.ref a :: st) h = if mK h a = 9 then oB (mR h a 1) (fun b => ev d 41 94 L (.ref b :: st) h) else none := ev_gR d_41_91 (by decide +kernel) (by decide +kernel)
theorem d_41_94 : decode (cd 41) 94 = .ok (.iload 4, 2) := by rw [cd_41]; decide +kernel
theorem e_41_94 {d : Nat} {h : mM} {o0 o1 o2 o3 : Option Value} {T : mLs} {x : Int32} {st : List Value} : ev d 41 94 (o0 :: o1 :: o2 :: o3 :: some (.int x) :: T) st h = ev d 41 96 (o0 :: o1 :: o2 :: o3 :: some (.int x) :: T) (.int x :: st) h := ev_of d_41_94 rfl
theorem d_41_96 : decode (cd 41) 96 = .ok (.iconst 1, 1) := by rw [cd_41]; decide +kernel
theorem e_41_96 {d : Nat} {h : mM} {L : mLs} {st : List Value} : ev d 41 96 L st h = ev d 41 97 L (.int 1 :: st) h := ev_of d_41_96 rfl
theorem d_41_97 : decode (cd 41) 97 = .ok (.iadd, 1) := by rw [cd_41]; decide +kernel
theorem e_41_97 {d : Nat} {h : mM} {L : mLs} {st : List Value} {x y : Int32} : ev d 41 97 L (.int y :: .int x :: st) h = ev d 41 98 L (.int (x + y) :: st) h := ev_of d_41_97 rfl
theorem d_41_98 : decode (cd 41) 98 = .ok (.putfield 100, 3) := by rw [cd_41]; decide +kernel
theorem e_41_98 {d : Nat} {h : mM} {L : mLs} {st : List Value} {a : Nat} {v : Int32} : ev d 41 98 L (.int v :: .ref a :: st) h = if mK h a = 8 then ev d 41 101 L st (wI h a 4 v) else none := ev_pI d_41_98 (by decide +kernel) (by decide +kernel) (by decide +kernel)
theorem d_41_101 : decode (cd 41) 101 = .ok (.iload 4, 2) := by rw [cd_41]; decide +kernel
theorem e_41_101 {d : Nat} {h : mM} {o0 o1 o2 o3 : Option Value} {T : mLs} {x : Int32} {st : List Value} : ev d 41 101 (o0 :: o1 :: o2 :: o3 :: some (.int x) :: T) st h = ev d 41 103 (o0 :: o1 :: o2 :: o3 :: some (.int x) :: T) (.int x :: st) h := ev_of d_41_101 rfl
theorem d_41_103 : decode (cd 41) 103 = .ok (.ireturn, 1) := by rw [cd_41]; decide +kernel
theorem e_41_103 {d : Nat} {h : mM} {L : mLs} {v : Int32} : ev d 41 103 L [.int v] h = some (some (.int v), h) := ev_ri d_41_103 (by decide +kernel)
-- 42: TideMill.gate
theorem cd_42 : cd 42 = prog_1_method_6_code := rfl
theorem d_42_0 : decode (cd 42) 0 = .ok (.aload_n 0, 1) := by rw [cd_42]; decide +kernel
theorem e_42_0 {d : Nat} {h : mM} {T : mLs} {x : Nat} {st : List Value} : ev d 42 0 ( some (.ref x) :: T) st h = ev d 42 1 ( some (.ref x) :: T) (.ref x :: st) h := ev_of d_42_0 rfl
theorem d_42_1 : decode (cd 42) 1 = .ok (.iload_n 1, 1) := by rw [cd_42]; decide +kernel
theorem e_42_1 {d : Nat} {h : mM} {o0 : Option Value} {T : mLs} {x : Int32} {st : List Value} : ev d 42 1 (o0 :: some (.int x) :: T) st h = ev d 42 2 (o0 :: some (.int x) :: T) (.int x :: st) h := ev_of d_42_1 rfl
theorem d_42_2 : decode (cd 42) 2 = .ok (.invokevirtual 118, 3) := by rw [cd_42]; decide +kernel
theorem e_42_2 {d : Nat} {h : mM} {L : mLs} {st : List Value} {a : Nat} {x0 : Int32} (hc : mCat st ≤ 8) : ev (d + 1) 42 2 L (.int x0 :: .ref a :: st) h = if mK h a = 9 then cV (ev d 70 0 [some (.ref a), some (.int x0)] [] h) (fun v h1 => ev (d + 1) 42 5 L (v ++ st) h1) else none := ev_cv (mj := 70) (as := [.int x0]) (rest := st) d_42_2 (by decide +kernel) rfl rfl (by show _ ≤ List.length _; simp only [List.length_cons]; have : na 70 = 1 := rfl; omega) rfl (Nat.le_of_ble_eq_true rfl) hc
theorem d_42_5 : decode (cd 42) 5 = .ok (.ifCond .eq 12, 3) := by rw [cd_42]; decide +kernel
theorem e_42_5 {d : Nat} {h : mM} {L : mLs} {st : List Value} {x : Int32} : ev d 42 5 L (.int x :: st) h = if x = 0 then ev d 42 17 L st h else ev d 42 8 L st h := ev_if (x = 0) inferInstance rfl d_42_5 (by decide)
theorem d_42_8 : decode (cd 42) 8 = .ok (.iload_n 2, 1) := by rw [cd_42]; decide +kernel
theorem e_42_8 {d : Nat} {h : mM} {o0 o1 : Option Value} {T : mLs} {x : Int32} {st : List Value} : ev d 42 8 (o0 :: o1 :: some (.int x) :: T) st h = ev d 42 9 (o0 :: o1 :: some (.int x) :: T) (.int x :: st) h := ev_of d_42_8 rfl
theorem d_42_9 : decode (cd 42) 9 = .ok (.iconst 0, 1) := by rw [cd_42]; decide +kernel
theorem e_42_9 {d : Nat} {h : mM} {L : mLs} {st : List Value} : ev d 42 9 L st h = ev d 42 10 L (.int 0 :: st) h := ev_of d_42_9 rfl
theorem d_42_10 : decode (cd 42) 10 = .ok (.iconst 2, 1) := by rw [cd_42]; decide +kernel
theorem e_42_10 {d : Nat} {h : mM} {L : mLs} {st : List Value} : ev d 42 10 L st h = ev d 42 11 L (.int 2 :: st) h := ev_of d_42_10 rfl
theorem d_42_11 : decode (cd 42) 11 = .ok (.invokestatic 79, 3) := by rw [cd_42]; decide +kernel
theorem e_42_11 {d : Nat} {h : mM} {L : mLs} {st : List Value} {x0 : Int32} {x1 : Int32} {x2 : Int32} (hc : mCat st ≤ 8) : ev (d + 1) 42 11 L (.int x2 :: .int x1 :: .int x0 :: st) h = cV (ev d 65 0 [some (.int x0), some (.int x1), some (.int x2)] [] h) (fun v h1 => ev (d + 1) 42 14 L (v ++ st) h1) := ev_cs (kd := 1) (mj := 65) (as := [.int x0, .int x1, .int x2]) (rest := st) d_42_11 (by decide +kernel) (by decide) rfl rfl (by show _ ≤ List.length _; simp only [List.length_cons]; have : na 65 = 3 := rfl; omega) rfl (Nat.le_of_ble_eq_true rfl) hc
theorem d_42_14 : decode (cd 42) 14 = .ok (.ifCond .ne 9, 3) := by rw [cd_42]; decide +kernel
theorem e_42_14 {d : Nat} {h : mM} {L : mLs} {st : List Value} {x : Int32} : ev d 42 14 L (.int x :: st) h = if ¬ x = 0 then ev d 42 23 L st h else ev d 42 17 L st h := ev_if (¬ x = 0) inferInstance rfl d_42_14 (by decide)
theorem d_42_17 : decode (cd 42) 17 = .ok (.aload_n 0, 1) := by rw [cd_42]; decide +kernel
theorem e_42_17 {d : Nat} {h : mM} {T : mLs} {x : Nat} {st : List Value} : ev d 42 17 ( some (.ref x) :: T) st h = ev d 42 18 ( some (.ref x) :: T) (.ref x :: st) h := ev_of d_42_17 rfl
theorem d_42_18 : decode (cd 42) 18 = .ok (.iconst 1, 1) := by rw [cd_42]; decide +kernel
theorem e_42_18 {d : Nat} {h : mM} {L : mLs} {st : List Value} : ev d 42 18 L st h = ev d 42 19 L (.int 1 :: st) h := ev_of d_42_18 rfl
theorem d_42_19 : decode (cd 42) 19 = .ok (.invokevirtual 83, 3) := by rw [cd_42]; decide +kernel
theorem e_42_19 {d : Nat} {h : mM} {L : mLs} {st : List Value} {a : Nat} {x0 : Int32} (hc : mCat st ≤ 8) : ev (d + 1) 42 19 L (.int x0 :: .ref a :: st) h = if mK h a = 9 then cV (ev d 64 0 [some (.ref a), some (.int x0)] [] h) (fun v h1 => ev (d + 1) 42 22 L (v ++ st) h1) else none := ev_cv (mj := 64) (as := [.int x0]) (rest := st) d_42_19 (by decide +kernel) rfl rfl (by show _ ≤ List.length _; simp only [List.length_cons]; have : na 64 = 1 := rfl; omega) rfl (Nat.le_of_ble_eq_true rfl) hc
theorem d_42_22 : decode (cd 42) 22 = .ok (.ireturn, 1) := by rw [cd_42]; decide +kernel
theorem e_42_22 {d : Nat} {h : mM} {L : mLs} {v : Int32} : ev d 42 22 L [.int v] h = some (some (.int v), h) := ev_ri d_42_22 (by decide +kernel)
theorem d_42_23 : decode (cd 42) 23 = .ok (.aload_n 0, 1) := by rw [cd_42]; decide +kernel
theorem e_42_23 {d : Nat} {h : mM} {T : mLs} {x : Nat} {st : List Value} : ev d 42 23 ( some (.ref x) :: T) st h = ev d 42 24 ( some (.ref x) :: T) (.ref x :: st) h := ev_of d_42_23 rfl
theorem d_42_24 : decode (cd 42) 24 = .ok (.getfield 19, 3) := by rw [cd_42]; decide +kernel
theorem e_42_24 {d : Nat} {h : mM} {L : mLs} {st : List Value} {a : Nat} : ev d 42 24 L (.ref a :: st) h = if mK h a = 9 then oB (mR h a 1) (fun b => ev d 42 27 L (.ref b :: st) h) else none := ev_gR d_42_24 (by decide +kernel) (by decide +kernel)
theorem d_42_27 : decode (cd 42) 27 = .ok (.getfield 103, 3) := by rw [cd_42]; decide +kernel
theorem e_42_27 {d : Nat} {h : mM} {L : mLs} {st : List Value} {a : Nat} : ev d 42 27 L (.ref a :: st) h = if mK h a = 8 then oB (mR h a 0) (fun b => ev d 42 30 L (.ref b :: st) h) else none := ev_gR d_42_27 (by decide +kernel) (by decide +kernel)
theorem d_42_30 : decode (cd 42) 30 = .ok (.iload_n 1, 1) := by rw [cd_42]; decide +kernel
theorem e_42_30 {d : Nat} {h : mM} {o0 : Option Value} {T : mLs} {x : Int32} {st : List Value} : ev d 42 30 (o0 :: some (.int x) :: T) st h = ev d 42 31 (o0 :: some (.int x) :: T) (.int x :: st) h := ev_of d_42_30 rfl
theorem d_42_31 : decode (cd 42) 31 = .ok (.aaload, 1) := by rw [cd_42]; decide +kernel
theorem e_42_31 {d : Nat} {h : mM} {L : mLs} {st : List Value} {a : Nat} {i : Int32} : ev d 42 31 L (.int i :: .ref a :: st) h = if (12 < mK h a ∧ mK h a < 19) ∧ ixOK i (mL h a) = true then oB (mR h a i.toNatClampNeg) (fun b => ev d 42 32 L (.ref b :: st) h) else none := ev_aa d_42_31
theorem d_42_32 : decode (cd 42) 32 = .ok (.getfield 121, 3) := by rw [cd_42]; decide +kernel
theorem e_42_32 {d : Nat} {h : mM} {L : mLs} {st : List Value} {a : Nat} : ev d 42 32 L (.ref a :: st) h = if mK h a = 3 then ev d 42 35 L (.int (mI h a 3) :: st) h else none := ev_gI d_42_32 (by decide +kernel) (by decide +kernel)
theorem d_42_35 : decode (cd 42) 35 = .ok (.istore_n 3, 1) := by rw [cd_42]; decide +kernel
theorem e_42_35 {d : Nat} {h : mM} {o0 o1 o2 o3 : Option Value} {T : mLs} {x : Int32} {st : List Value} (hl : mLong o2 = false) : ev d 42 35 (o0 :: o1 :: o2 :: o3 :: T) (.int x :: st) h = ev d 42 36 (o0 :: o1 :: o2 :: some (.int x) :: T) st h := ev_st_in d_42_35 (by decide +kernel) (mS1_s (j := 2) hl)
theorem d_42_36 : decode (cd 42) 36 = .ok (.aload_n 0, 1) := by rw [cd_42]; decide +kernel
theorem e_42_36 {d : Nat} {h : mM} {T : mLs} {x : Nat} {st : List Value} : ev d 42 36 ( some (.ref x) :: T) st h = ev d 42 37 ( some (.ref x) :: T) (.ref x :: st) h := ev_of d_42_36 rfl
theorem d_42_37 : decode (cd 42) 37 = .ok (.getfield 19, 3) := by rw [cd_42]; decide +kernel
theorem e_42_37 {d : Nat} {h : mM} {L : mLs} {st : List Value} {a : Nat} : ev d 42 37 L (.ref a :: st) h = if mK h a = 9 then oB (mR h a 1) (fun b => ev d 42 40 L (.ref b :: st) h) else none := ev_gR d_42_37 (by decide +kernel) (by decide +kernel)
theorem d_42_40 : decode (cd 42) 40 = .ok (.getfield 103, 3) := by rw [cd_42]; decide +kernel
theorem e_42_40 {d : Nat} {h : mM} {L : mLs} {st : List Value} {a : Nat} : ev d 42 40 L (.ref a :: st) h = if mK h a = 8 then oB (mR h a 0) (fun b => ev d 42 43 L (.ref b :: st) h) else none := ev_gR d_42_40 (by decide +kernel) (by decide +kernel)
theorem d_42_43 : decode (cd 42) 43 = .ok (.iload_n 1, 1) := by rw [cd_42]; decide +kernel
theorem e_42_43 {d : Nat} {h : mM} {o0 : Option Value} {T : mLs} {x : Int32} {st : List Value} : ev d 42 43 (o0 :: some (.int x) :: T) st h = ev d 42 44 (o0 :: some (.int x) :: T) (.int x :: st) h := ev_of d_42_43 rfl
theorem d_42_44 : decode (cd 42) 44 = .ok (.aaload, 1) := by rw [cd_42]; decide +kernel
theorem e_42_44 {d : Nat} {h : mM} {L : mLs} {st : List Value} {a : Nat} {i : Int32} : ev d 42 44 L (.int i :: .ref a :: st) h = if (12 < mK h a ∧ mK h a < 19) ∧ ixOK i (mL h a) = true then oB (mR h a i.toNatClampNeg) (fun b => ev d 42 45 L (.ref b :: st) h) else none := ev_aa d_42_44
theorem d_42_45 : decode (cd 42) 45 = .ok (.iload_n 2, 1) := by rw [cd_42]; decide +kernel
theorem e_42_45 {d : Nat} {h : mM} {o0 o1 : Option Value} {T : mLs} {x : Int32} {st : List Value} : ev d 42 45 (o0 :: o1 :: some (.int x) :: T) st h = ev d 42 46 (o0 :: o1 :: some (.int x) :: T) (.int x :: st) h := ev_of d_42_45 rfl
theorem d_42_46 : decode (cd 42) 46 = .ok (.putfield 121, 3) := by rw [cd_42]; decide +kernel
theorem e_42_46 {d : Nat} {h : mM} {L : mLs} {st : List Value} {a : Nat} {v : Int32} : ev d 42 46 L (.int v :: .ref a :: st) h = if mK h a = 3 then ev d 42 49 L st (wI h a 3 v) else none := ev_pI d_42_46 (by decide +kernel) (by decide +kernel) (by decide +kernel)
theorem d_42_49 : decode (cd 42) 49 = .ok (.iload_n 3, 1) := by rw [cd_42]; decide +kernel
theorem e_42_49 {d : Nat} {h : mM} {o0 o1 o2 : Option Value} {T : mLs} {x : Int32} {st : List Value} : ev d 42 49 (o0 :: o1 :: o2 :: some (.int x) :: T) st h = ev d 42 50 (o0 :: o1 :: o2 :: some (.int x) :: T) (.int x :: st) h := ev_of d_42_49 rfl
theorem d_42_50 : decode (cd 42) 50 = .ok (.ireturn, 1) := by rw [cd_42]; decide +kernel
theorem e_42_50 {d : Nat} {h : mM} {L : mLs} {v : Int32} : ev d 42 50 L [.int v] h = some (some (.int v), h) := ev_ri d_42_50 (by decide +kernel)
-- 43: TideMill.water
theorem cd_43 : cd 43 = prog_1_method_7_code := rfl
theorem d_43_0 : decode (cd 43) 0 = .ok (.aload_n 0, 1) := by rw [cd_43]; decide +kernel
theorem e_43_0 {d : Nat} {h : mM} {T : mLs} {x : Nat} {st : List Value} : ev d 43 0 ( some (.ref x) :: T) st h = ev d 43 1 ( some (.ref x) :: T) (.ref x :: st) h := ev_of d_43_0 rfl
theorem d_43_1 : decode (cd 43) 1 = .ok (.iload_n 1, 1) := by rw [cd_43]; decide +kernel
theorem e_43_1 {d : Nat} {h : mM} {o0 : Option Value} {T : mLs} {x : Int32} {st : List Value} : ev d 43 1 (o0 :: some (.int x) :: T) st h = ev d 43 2 (o0 :: some (.int x) :: T) (.int x :: st) h := ev_of d_43_1 rfl
theorem d_43_2 : decode (cd 43) 2 = .ok (.invokevirtual 118, 3) := by rw [cd_43]; decide +kernel
theorem e_43_2 {d : Nat} {h : mM} {L : mLs} {st : List Value} {a : Nat} {x0 : Int32} (hc : mCat st ≤ 8) : ev (d + 1) 43 2 L (.int x0 :: .ref a :: st) h = if mK h a = 9 then cV (ev d 70 0 [some (.ref a), some (.int x0)] [] h) (fun v h1 => ev (d + 1) 43 5 L (v ++ st) h1) else none := ev_cv (mj := 70) (as := [.int x0]) (rest := st) d_43_2 (by decide +kernel) rfl rfl (by show _ ≤ List.length _; simp only [List.length_cons]; have : na 70 = 1 := rfl; omega) rfl (Nat.le_of_ble_eq_true rfl) hc
theorem d_43_5 : decode (cd 43) 5 = .ok (.ifCond .eq 23, 3) := by rw [cd_43]; decide +kernel
theorem e_43_5 {d : Nat} {h : mM} {L : mLs} {st : List Value} {x : Int32} : ev d 43 5 L (.int x :: st) h = if x = 0 then ev d 43 28 L st h else ev d 43 8 L st h := ev_if (x = 0) inferInstance rfl d_43_5 (by decide)
theorem d_43_8 : decode (cd 43) 8 = .ok (.iload_n 2, 1) := by rw [cd_43]; decide +kernel
theorem e_43_8 {d : Nat} {h : mM} {o0 o1 : Option Value} {T : mLs} {x : Int32} {st : List Value} : ev d 43 8 (o0 :: o1 :: some (.int x) :: T) st h = ev d 43 9 (o0 :: o1 :: some (.int x) :: T) (.int x :: st) h := ev_of d_43_8 rfl
theorem d_43_9 : decode (cd 43) 9 = .ok (.iconst 0, 1) := by rw [cd_43]; decide +kernel
theorem e_43_9 {d : Nat} {h : mM} {L : mLs} {st : List Value} : ev d 43 9 L st h = ev d 43 10 L (.int 0 :: st) h := ev_of d_43_9 rfl
theorem d_43_10 : decode (cd 43) 10 = .ok (.aload_n 0, 1) := by rw [cd_43]; decide +kernel
theorem e_43_10 {d : Nat} {h : mM} {T : mLs} {x : Nat} {st : List Value} : ev d 43 10 ( some (.ref x) :: T) st h = ev d 43 11 ( some (.ref x) :: T) (.ref x :: st) h := ev_of d_43_10 rfl
theorem d_43_11 : decode (cd 43) 11 = .ok (.getfield 19, 3) := by rw [cd_43]; decide +kernel
theorem e_43_11 {d : Nat} {h : mM} {L : mLs} {st : List Value} {a : Nat} : ev d 43 11 L (.ref a :: st) h = if mK h a = 9 then oB (mR h a 1) (fun b => ev d 43 14 L (.ref b :: st) h) else none := ev_gR d_43_11 (by decide +kernel) (by decide +kernel)
theorem d_43_14 : decode (cd 43) 14 = .ok (.getfield 103, 3) := by rw [cd_43]; decide +kernel
theorem e_43_14 {d : Nat} {h : mM} {L : mLs} {st : List Value} {a : Nat} : ev d 43 14 L (.ref a :: st) h = if mK h a = 8 then oB (mR h a 0) (fun b => ev d 43 17 L (.ref b :: st) h) else none := ev_gR d_43_14 (by decide +kernel) (by decide +kernel)
theorem d_43_17 : decode (cd 43) 17 = .ok (.iload_n 1, 1) := by rw [cd_43]; decide +kernel
theorem e_43_17 {d : Nat} {h : mM} {o0 : Option Value} {T : mLs} {x : Int32} {st : List Value} : ev d 43 17 (o0 :: some (.int x) :: T) st h = ev d 43 18 (o0 :: some (.int x) :: T) (.int x :: st) h := ev_of d_43_17 rfl
theorem d_43_18 : decode (cd 43) 18 = .ok (.aaload, 1) := by rw [cd_43]; decide +kernel
theorem e_43_18 {d : Nat} {h : mM} {L : mLs} {st : List Value} {a : Nat} {i : Int32} : ev d 43 18 L (.int i :: .ref a :: st) h = if (12 < mK h a ∧ mK h a < 19) ∧ ixOK i (mL h a) = true then oB (mR h a i.toNatClampNeg) (fun b => ev d 43 19 L (.ref b :: st) h) else none := ev_aa d_43_18
theorem d_43_19 : decode (cd 43) 19 = .ok (.invokevirtual 124, 3) := by rw [cd_43]; decide +kernel
theorem e_43_19 {d : Nat} {h : mM} {L : mLs} {st : List Value} {a : Nat} (hc : mCat st ≤ 8) : ev (d + 1) 43 19 L (.ref a :: st) h = if mK h a = 3 then cV (ev d 17 0 [some (.ref a)] [] h) (fun v h1 => ev (d + 1) 43 22 L (v ++ st) h1) else none := ev_cv (mj := 17) (as := []) (rest := st) d_43_19 (by decide +kernel) rfl rfl (by show _ ≤ List.length _; simp only [List.length_cons]; have : na 17 = 0 := rfl; omega) rfl (Nat.le_of_ble_eq_true rfl) hc
theorem d_43_22 : decode (cd 43) 22 = .ok (.invokestatic 79, 3) := by rw [cd_43]; decide +kernel
theorem e_43_22 {d : Nat} {h : mM} {L : mLs} {st : List Value} {x0 : Int32} {x1 : Int32} {x2 : Int32} (hc : mCat st ≤ 8) : ev (d + 1) 43 22 L (.int x2 :: .int x1 :: .int x0 :: st) h = cV (ev d 65 0 [some (.int x0), some (.int x1), some (.int x2)] [] h) (fun v h1 => ev (d + 1) 43 25 L (v ++ st) h1) := ev_cs (kd := 1) (mj := 65) (as := [.int x0, .int x1, .int x2]) (rest := st) d_43_22 (by decide +kernel) (by decide) rfl rfl (by show _ ≤ List.length _; simp only [List.length_cons]; have : na 65 = 3 := rfl; omega) rfl (Nat.le_of_ble_eq_true rfl) hc
theorem d_43_25 : decode (cd 43) 25 = .ok (.ifCond .ne 9, 3) := by rw [cd_43]; decide +kernel
theorem e_43_25 {d : Nat} {h : mM} {L : mLs} {st : List Value} {x : Int32} : ev d 43 25 L (.int x :: st) h = if ¬ x = 0 then ev d 43 34 L st h else ev d 43 28 L st h := ev_if (¬ x = 0) inferInstance rfl d_43_25 (by decide)
theorem d_43_28 : decode (cd 43) 28 = .ok (.aload_n 0, 1) := by rw [cd_43]; decide +kernel
theorem e_43_28 {d : Nat} {h : mM} {T : mLs} {x : Nat} {st : List Value} : ev d 43 28 ( some (.ref x) :: T) st h = ev d 43 29 ( some (.ref x) :: T) (.ref x :: st) h := ev_of d_43_28 rfl
theorem d_43_29 : decode (cd 43) 29 = .ok (.iconst 1, 1) := by rw [cd_43]; decide +kernel
theorem e_43_29 {d : Nat} {h : mM} {L : mLs} {st : List Value} : ev d 43 29 L st h = ev d 43 30 L (.int 1 :: st) h := ev_of d_43_29 rfl
theorem d_43_30 : decode (cd 43) 30 = .ok (.invokevirtual 83, 3) := by rw [cd_43]; decide +kernel
theorem e_43_30 {d : Nat} {h : mM} {L : mLs} {st : List Value} {a : Nat} {x0 : Int32} (hc : mCat st ≤ 8) : ev (d + 1) 43 30 L (.int x0 :: .ref a :: st) h = if mK h a = 9 then cV (ev d 64 0 [some (.ref a), some (.int x0)] [] h) (fun v h1 => ev (d + 1) 43 33 L (v ++ st) h1) else none := ev_cv (mj := 64) (as := [.int x0]) (rest := st) d_43_30 (by decide +kernel) rfl rfl (by show _ ≤ List.length _; simp only [List.length_cons]; have : na 64 = 1 := rfl; omega) rfl (Nat.le_of_ble_eq_true rfl) hc
theorem d_43_33 : decode (cd 43) 33 = .ok (.ireturn, 1) := by rw [cd_43]; decide +kernel
theorem e_43_33 {d : Nat} {h : mM} {L : mLs} {v : Int32} : ev d 43 33 L [.int v] h = some (some (.int v), h) := ev_ri d_43_33 (by decide +kernel)
theorem d_43_34 : decode (cd 43) 34 = .ok (.aload_n 0, 1) := by rw [cd_43]; decide +kernel
theorem e_43_34 {d : Nat} {h : mM} {T : mLs} {x : Nat} {st : List Value} : ev d 43 34 ( some (.ref x) :: T) st h = ev d 43 35 ( some (.ref x) :: T) (.ref x :: st) h := ev_of d_43_34 rfl
theorem d_43_35 : decode (cd 43) 35 = .ok (.getfield 41, 3) := by rw [cd_43]; decide +kernel
theorem e_43_35 {d : Nat} {h : mM} {L : mLs} {st : List Value} {a : Nat} : ev d 43 35 L (.ref a :: st) h = if mK h a = 9 then oB (mR h a 4) (fun b => ev d 43 38 L (.ref b :: st) h) else none := ev_gR d_43_35 (by decide +kernel) (by decide +kernel)
theorem d_43_38 : decode (cd 43) 38 = .ok (.iload_n 1, 1) := by rw [cd_43]; decide +kernel
theorem e_43_38 {d : Nat} {h : mM} {o0 : Option Value} {T : mLs} {x : Int32} {st : List Value} : ev d 43 38 (o0 :: some (.int x) :: T) st h = ev d 43 39 (o0 :: some (.int x) :: T) (.int x :: st) h := ev_of d_43_38 rfl
theorem d_43_39 : decode (cd 43) 39 = .ok (.iaload, 1) := by rw [cd_43]; decide +kernel
theorem e_43_39 {d : Nat} {h : mM} {L : mLs} {st : List Value} {a : Nat} {i : Int32} : ev d 43 39 L (.int i :: .ref a :: st) h = if (mK h a = 11 ∨ mK h a = 19) ∧ ixOK i (mL h a) = true then ev d 43 40 L (.int (mI h a i.toNatClampNeg) :: st) h else none := ev_ia d_43_39
theorem d_43_40 : decode (cd 43) 40 = .ok (.istore_n 3, 1) := by rw [cd_43]; decide +kernel
theorem e_43_40 {d : Nat} {h : mM} {o0 o1 o2 o3 : Option Value} {T : mLs} {x : Int32} {st : List Value} (hl : mLong o2 = false) : ev d 43 40 (o0 :: o1 :: o2 :: o3 :: T) (.int x :: st) h = ev d 43 41 (o0 :: o1 :: o2 :: some (.int x) :: T) st h := ev_st_in d_43_40 (by decide +kernel) (mS1_s (j := 2) hl)
theorem d_43_41 : decode (cd 43) 41 = .ok (.aload_n 0, 1) := by rw [cd_43]; decide +kernel
theorem e_43_41 {d : Nat} {h : mM} {T : mLs} {x : Nat} {st : List Value} : ev d 43 41 ( some (.ref x) :: T) st h = ev d 43 42 ( some (.ref x) :: T) (.ref x :: st) h := ev_of d_43_41 rfl
theorem d_43_42 : decode (cd 43) 42 = .ok (.getfield 41, 3) := by rw [cd_43]; decide +kernel
theorem e_43_42 {d : Nat} {h : mM} {L : mLs} {st : List Value} {a : Nat} : ev d 43 42 L (.ref a :: st) h = if mK h a = 9 then oB (mR h a 4) (fun b => ev d 43 45 L (.ref b :: st) h) else none := ev_gR d_43_42 (by decide +kernel) (by decide +kernel)
theorem d_43_45 : decode (cd 43) 45 = .ok (.iload_n 1, 1) := by rw [cd_43]; decide +kernel
theorem e_43_45 {d : Nat} {h : mM} {o0 : Option Value} {T : mLs} {x : Int32} {st : List Value} : ev d 43 45 (o0 :: some (.int x) :: T) st h = ev d 43 46 (o0 :: some (.int x) :: T) (.int x :: st) h := ev_of d_43_45 rfl
theorem d_43_46 : decode (cd 43) 46 = .ok (.iload_n 2, 1) := by rw [cd_43]; decide +kernel
theorem e_43_46 {d : Nat} {h : mM} {o0 o1 : Option Value} {T : mLs} {x : Int32} {st : List Value} : ev d 43 46 (o0 :: o1 :: some (.int x) :: T) st h = ev d 43 47 (o0 :: o1 :: some (.int x) :: T) (.int x :: st) h := ev_of d_43_46 rfl
theorem d_43_47 : decode (cd 43) 47 = .ok (.iastore, 1) := by rw [cd_43]; decide +kernel
theorem e_43_47 {d : Nat} {h : mM} {L : mLs} {st : List Value} {a : Nat} {i v : Int32} : ev d 43 47 L (.int v :: .int i :: .ref a :: st) h = if mK h a = 11 ∧ ixOK i (mL h a) = true then ev d 43 48 L st (wI h a i.toNatClampNeg v) else none := ev_is d_43_47
theorem d_43_48 : decode (cd 43) 48 = .ok (.aload_n 0, 1) := by rw [cd_43]; decide +kernel
theorem e_43_48 {d : Nat} {h : mM} {T : mLs} {x : Nat} {st : List Value} : ev d 43 48 ( some (.ref x) :: T) st h = ev d 43 49 ( some (.ref x) :: T) (.ref x :: st) h := ev_of d_43_48 rfl
theorem d_43_49 : decode (cd 43) 49 = .ok (.dup, 1) := by rw [cd_43]; decide +kernel
theorem e_43_49r {d : Nat} {h : mM} {L : mLs} {st : List Value} {a : Nat} : ev d 43 49 L (.ref a :: st) h = ev d 43 50 L (.ref a :: .ref a :: st) h := ev_of d_43_49 rfl
theorem e_43_49i {d : Nat} {h : mM} {L : mLs} {st : List Value} {x : Int32} : ev d 43 49 L (.int x :: st) h = ev d 43 50 L (.int x :: .int x :: st) h := ev_of d_43_49 rfl
theorem d_43_50 : decode (cd 43) 50 = .ok (.getfield 76, 3) := by rw [cd_43]; decide +kernel
theorem e_43_50 {d : Nat} {h : mM} {L : mLs} {st : List Value} {a : Nat} : ev d 43 50 L (.ref a :: st) h = if mK h a = 9 then ev d 43 53 L (.int (mI h a 15) :: st) h else none := ev_gI d_43_50 (by decide +kernel) (by decide +kernel)
theorem d_43_53 : decode (cd 43) 53 = .ok (.iload_n 2, 1) := by rw [cd_43]; decide +kernel
theorem e_43_53 {d : Nat} {h : mM} {o0 o1 : Option Value} {T : mLs} {x : Int32} {st : List Value} : ev d 43 53 (o0 :: o1 :: some (.int x) :: T) st h = ev d 43 54 (o0 :: o1 :: some (.int x) :: T) (.int x :: st) h := ev_of d_43_53 rfl
theorem d_43_54 : decode (cd 43) 54 = .ok (.iload_n 3, 1) := by rw [cd_43]; decide +kernel
theorem e_43_54 {d : Nat} {h : mM} {o0 o1 o2 : Option Value} {T : mLs} {x : Int32} {st : List Value} : ev d 43 54 (o0 :: o1 :: o2 :: some (.int x) :: T) st h = ev d 43 55 (o0 :: o1 :: o2 :: some (.int x) :: T) (.int x :: st) h := ev_of d_43_54 rfl
theorem d_43_55 : decode (cd 43) 55 = .ok (.isub, 1) := by rw [cd_43]; decide +kernel
theorem e_43_55 {d : Nat} {h : mM} {L : mLs} {st : List Value} {x y : Int32} : ev d 43 55 L (.int y :: .int x :: st) h = ev d 43 56 L (.int (x - y) :: st) h := ev_of d_43_55 rfl
theorem d_43_56 : decode (cd 43) 56 = .ok (.iadd, 1) := by rw [cd_43]; decide +kernel
theorem e_43_56 {d : Nat} {h : mM} {L : mLs} {st : List Value} {x y : Int32} : ev d 43 56 L (.int y :: .int x :: st) h = ev d 43 57 L (.int (x + y) :: st) h := ev_of d_43_56 rfl
theorem d_43_57 : decode (cd 43) 57 = .ok (.putfield 76, 3) := by rw [cd_43]; decide +kernel
theorem e_43_57 {d : Nat} {h : mM} {L : mLs} {st : List Value} {a : Nat} {v : Int32} : ev d 43 57 L (.int v :: .ref a :: st) h = if mK h a = 9 then ev d 43 60 L st (wI h a 15 v) else none := ev_pI d_43_57 (by decide +kernel) (by decide +kernel) (by decide +kernel)
theorem d_43_60 : decode (cd 43) 60 = .ok (.iload_n 3, 1) := by rw [cd_43]; decide +kernel
theorem e_43_60 {d : Nat} {h : mM} {o0 o1 o2 : Option Value} {T : mLs} {x : Int32} {st : List Value} : ev d 43 60 (o0 :: o1 :: o2 :: some (.int x) :: T) st h = ev d 43 61 (o0 :: o1 :: o2 :: some (.int x) :: T) (.int x :: st) h := ev_of d_43_60 rfl
theorem d_43_61 : decode (cd 43) 61 = .ok (.ireturn, 1) := by rw [cd_43]; decide +kernel
theorem e_43_61 {d : Nat} {h : mM} {L : mLs} {v : Int32} : ev d 43 61 L [.int v] h = some (some (.int v), h) := ev_ri d_43_61 (by decide +kernel)
-- 44: TideMill.channel
theorem cd_44 : cd 44 = prog_1_method_8_code := rfl
theorem d_44_0 : decode (cd 44) 0 = .ok (.aload_n 0, 1) := by rw [cd_44]; decide +kernel
theorem e_44_0 {d : Nat} {h : mM} {T : mLs} {x : Nat} {st : List Value} : ev d 44 0 ( some (.ref x) :: T) st h = ev d 44 1 ( some (.ref x) :: T) (.ref x :: st) h := ev_of d_44_0 rfl
theorem d_44_1 : decode (cd 44) 1 = .ok (.iload_n 1, 1) := by rw [cd_44]; decide +kernel
theorem e_44_1 {d : Nat} {h : mM} {o0 : Option Value} {T : mLs} {x : Int32} {st : List Value} : ev d 44 1 (o0 :: some (.int x) :: T) st h = ev d 44 2 (o0 :: some (.int x) :: T) (.int x :: st) h := ev_of d_44_1 rfl
theorem d_44_2 : decode (cd 44) 2 = .ok (.invokevirtual 118, 3) := by rw [cd_44]; decide +kernel
theorem e_44_2 {d : Nat} {h : mM} {L : mLs} {st : List Value} {a : Nat} {x0 : Int32} (hc : mCat st ≤ 8) : ev (d + 1) 44 2 L (.int x0 :: .ref a :: st) h = if mK h a = 9 then cV (ev d 70 0 [some (.ref a), some (.int x0)] [] h) (fun v h1 => ev (d + 1) 44 5 L (v ++ st) h1) else none := ev_cv (mj := 70) (as := [.int x0]) (rest := st) d_44_2 (by decide +kernel) rfl rfl (by show _ ≤ List.length _; simp only [List.length_cons]; have : na 70 = 1 := rfl; omega) rfl (Nat.le_of_ble_eq_true rfl) hc
theorem d_44_5 : decode (cd 44) 5 = .ok (.ifCond .eq 23, 3) := by rw [cd_44]; decide +kernel
theorem e_44_5 {d : Nat} {h : mM} {L : mLs} {st : List Value} {x : Int32} : ev d 44 5 L (.int x :: st) h = if x = 0 then ev d 44 28 L st h else ev d 44 8 L st h := ev_if (x = 0) inferInstance rfl d_44_5 (by decide)
theorem d_44_8 : decode (cd 44) 8 = .ok (.aload_n 0, 1) := by rw [cd_44]; decide +kernel
theorem e_44_8 {d : Nat} {h : mM} {T : mLs} {x : Nat} {st : List Value} : ev d 44 8 ( some (.ref x) :: T) st h = ev d 44 9 ( some (.ref x) :: T) (.ref x :: st) h := ev_of d_44_8 rfl
theorem d_44_9 : decode (cd 44) 9 = .ok (.iload_n 2, 1) := by rw [cd_44]; decide +kernel
theorem e_44_9 {d : Nat} {h : mM} {o0 o1 : Option Value} {T : mLs} {x : Int32} {st : List Value} : ev d 44 9 (o0 :: o1 :: some (.int x) :: T) st h = ev d 44 10 (o0 :: o1 :: some (.int x) :: T) (.int x :: st) h := ev_of d_44_9 rfl
theorem d_44_10 : decode (cd 44) 10 = .ok (.invokevirtual 118, 3) := by rw [cd_44]; decide +kernel
theorem e_44_10 {d : Nat} {h : mM} {L : mLs} {st : List Value} {a : Nat} {x0 : Int32} (hc : mCat st ≤ 8) : ev (d + 1) 44 10 L (.int x0 :: .ref a :: st) h = if mK h a = 9 then cV (ev d 70 0 [some (.ref a), some (.int x0)] [] h) (fun v h1 => ev (d + 1) 44 13 L (v ++ st) h1) else none := ev_cv (mj := 70) (as := [.int x0]) (rest := st) d_44_10 (by decide +kernel) rfl rfl (by show _ ≤ List.length _; simp only [List.length_cons]; have : na 70 = 1 := rfl; omega) rfl (Nat.le_of_ble_eq_true rfl) hc
theorem d_44_13 : decode (cd 44) 13 = .ok (.ifCond .eq 15, 3) := by rw [cd_44]; decide +kernel
theorem e_44_13 {d : Nat} {h : mM} {L : mLs} {st : List Value} {x : Int32} : ev d 44 13 L (.int x :: st) h = if x = 0 then ev d 44 28 L st h else ev d 44 16 L st h := ev_if (x = 0) inferInstance rfl d_44_13 (by decide)
theorem d_44_16 : decode (cd 44) 16 = .ok (.iload_n 1, 1) := by rw [cd_44]; decide +kernel
theorem e_44_16 {d : Nat} {h : mM} {o0 : Option Value} {T : mLs} {x : Int32} {st : List Value} : ev d 44 16 (o0 :: some (.int x) :: T) st h = ev d 44 17 (o0 :: some (.int x) :: T) (.int x :: st) h := ev_of d_44_16 rfl
theorem d_44_17 : decode (cd 44) 17 = .ok (.iload_n 2, 1) := by rw [cd_44]; decide +kernel
theorem e_44_17 {d : Nat} {h : mM} {o0 o1 : Option Value} {T : mLs} {x : Int32} {st : List Value} : ev d 44 17 (o0 :: o1 :: some (.int x) :: T) st h = ev d 44 18 (o0 :: o1 :: some (.int x) :: T) (.int x :: st) h := ev_of d_44_17 rfl
theorem d_44_18 : decode (cd 44) 18 = .ok (.if_icmp .eq 10, 3) := by rw [cd_44]; decide +kernel
theorem e_44_18 {d : Nat} {h : mM} {L : mLs} {st : List Value} {x y : Int32} : ev d 44 18 L (.int y :: .int x :: st) h = if x = y then ev d 44 28 L st h else ev d 44 21 L st h := ev_ic (x = y) inferInstance rfl d_44_18 (by decide)
theorem d_44_21 : decode (cd 44) 21 = .ok (.iload_n 3, 1) := by rw [cd_44]; decide +kernel
theorem e_44_21 {d : Nat} {h : mM} {o0 o1 o2 : Option Value} {T : mLs} {x : Int32} {st : List Value} : ev d 44 21 (o0 :: o1 :: o2 :: some (.int x) :: T) st h = ev d 44 22 (o0 :: o1 :: o2 :: some (.int x) :: T) (.int x :: st) h := ev_of d_44_21 rfl
theorem d_44_22 : decode (cd 44) 22 = .ok (.invokestatic 96, 3) := by rw [cd_44]; decide +kernel
theorem e_44_22 {d : Nat} {h : mM} {L : mLs} {st : List Value} {x0 : Int32} (hc : mCat st ≤ 8) : ev (d + 1) 44 22 L (.int x0 :: st) h = cV (ev d 66 0 [some (.int x0)] [] h) (fun v h1 => ev (d + 1) 44 25 L (v ++ st) h1) := ev_cs (kd := 1) (mj := 66) (as := [.int x0]) (rest := st) d_44_22 (by decide +kernel) (by decide) rfl rfl (by show _ ≤ List.length _; simp only [List.length_cons]; have : na 66 = 1 := rfl; omega) rfl (Nat.le_of_ble_eq_true rfl) hc
theorem d_44_25 : decode (cd 44) 25 = .ok (.ifCond .ne 9, 3) := by rw [cd_44]; decide +kernel
theorem e_44_25 {d : Nat} {h : mM} {L : mLs} {st : List Value} {x : Int32} : ev d 44 25 L (.int x :: st) h = if ¬ x = 0 then ev d 44 34 L st h else ev d 44 28 L st h := ev_if (¬ x = 0) inferInstance rfl d_44_25 (by decide)
theorem d_44_28 : decode (cd 44) 28 = .ok (.aload_n 0, 1) := by rw [cd_44]; decide +kernel
theorem e_44_28 {d : Nat} {h : mM} {T : mLs} {x : Nat} {st : List Value} : ev d 44 28 ( some (.ref x) :: T) st h = ev d 44 29 ( some (.ref x) :: T) (.ref x :: st) h := ev_of d_44_28 rfl
theorem d_44_29 : decode (cd 44) 29 = .ok (.iconst 1, 1) := by rw [cd_44]; decide +kernel
theorem e_44_29 {d : Nat} {h : mM} {L : mLs} {st : List Value} : ev d 44 29 L st h = ev d 44 30 L (.int 1 :: st) h := ev_of d_44_29 rfl
theorem d_44_30 : decode (cd 44) 30 = .ok (.invokevirtual 83, 3) := by rw [cd_44]; decide +kernel
theorem e_44_30 {d : Nat} {h : mM} {L : mLs} {st : List Value} {a : Nat} {x0 : Int32} (hc : mCat st ≤ 8) : ev (d + 1) 44 30 L (.int x0 :: .ref a :: st) h = if mK h a = 9 then cV (ev d 64 0 [some (.ref a), some (.int x0)] [] h) (fun v h1 => ev (d + 1) 44 33 L (v ++ st) h1) else none := ev_cv (mj := 64) (as := [.int x0]) (rest := st) d_44_30 (by decide +kernel) rfl rfl (by show _ ≤ List.length _; simp only [List.length_cons]; have : na 64 = 1 := rfl; omega) rfl (Nat.le_of_ble_eq_true rfl) hc
theorem d_44_33 : decode (cd 44) 33 = .ok (.ireturn, 1) := by rw [cd_44]; decide +kernel
theorem e_44_33 {d : Nat} {h : mM} {L : mLs} {v : Int32} : ev d 44 33 L [.int v] h = some (some (.int v), h) := ev_ri d_44_33 (by decide +kernel)
theorem d_44_34 : decode (cd 44) 34 = .ok (.aload_n 0, 1) := by rw [cd_44]; decide +kernel
theorem e_44_34 {d : Nat} {h : mM} {T : mLs} {x : Nat} {st : List Value} : ev d 44 34 ( some (.ref x) :: T) st h = ev d 44 35 ( some (.ref x) :: T) (.ref x :: st) h := ev_of d_44_34 rfl
theorem d_44_35 : decode (cd 44) 35 = .ok (.getfield 19, 3) := by rw [cd_44]; decide +kernel
theorem e_44_35 {d : Nat} {h : mM} {L : mLs} {st : List Value} {a : Nat} : ev d 44 35 L (.ref a :: st) h = if mK h a = 9 then oB (mR h a 1) (fun b => ev d 44 38 L (.ref b :: st) h) else none := ev_gR d_44_35 (by decide +kernel) (by decide +kernel)
theorem d_44_38 : decode (cd 44) 38 = .ok (.getfield 128, 3) := by rw [cd_44]; decide +kernel
theorem e_44_38 {d : Nat} {h : mM} {L : mLs} {st : List Value} {a : Nat} : ev d 44 38 L (.ref a :: st) h = if mK h a = 8 then ev d 44 41 L (.int (mI h a 5) :: st) h else none := ev_gI d_44_38 (by decide +kernel) (by decide +kernel)
theorem d_44_41 : decode (cd 44) 41 = .ok (.iconst 4, 1) := by rw [cd_44]; decide +kernel
theorem e_44_41 {d : Nat} {h : mM} {L : mLs} {st : List Value} : ev d 44 41 L st h = ev d 44 42 L (.int 4 :: st) h := ev_of d_44_41 rfl
theorem d_44_42 : decode (cd 44) 42 = .ok (.if_icmp .lt 9, 3) := by rw [cd_44]; decide +kernel
theorem e_44_42 {d : Nat} {h : mM} {L : mLs} {st : List Value} {x y : Int32} : ev d 44 42 L (.int y :: .int x :: st) h = if x < y then ev d 44 51 L st h else ev d 44 45 L st h := ev_ic (x < y) inferInstance rfl d_44_42 (by decide)
theorem d_44_45 : decode (cd 44) 45 = .ok (.aload_n 0, 1) := by rw [cd_44]; decide +kernel
theorem e_44_45 {d : Nat} {h : mM} {T : mLs} {x : Nat} {st : List Value} : ev d 44 45 ( some (.ref x) :: T) st h = ev d 44 46 ( some (.ref x) :: T) (.ref x :: st) h := ev_of d_44_45 rfl
theorem d_44_46 : decode (cd 44) 46 = .ok (.iconst 4, 1) := by rw [cd_44]; decide +kernel
theorem e_44_46 {d : Nat} {h : mM} {L : mLs} {st : List Value} : ev d 44 46 L st h = ev d 44 47 L (.int 4 :: st) h := ev_of d_44_46 rfl
theorem d_44_47 : decode (cd 44) 47 = .ok (.invokevirtual 83, 3) := by rw [cd_44]; decide +kernel
theorem e_44_47 {d : Nat} {h : mM} {L : mLs} {st : List Value} {a : Nat} {x0 : Int32} (hc : mCat st ≤ 8) : ev (d + 1) 44 47 L (.int x0 :: .ref a :: st) h = if mK h a = 9 then cV (ev d 64 0 [some (.ref a), some (.int x0)] [] h) (fun v h1 => ev (d + 1) 44 50 L (v ++ st) h1) else none := ev_cv (mj := 64) (as := [.int x0]) (rest := st) d_44_47 (by decide +kernel) rfl rfl (by show _ ≤ List.length _; simp only [List.length_cons]; have : na 64 = 1 := rfl; omega) rfl (Nat.le_of_ble_eq_true rfl) hc
theorem d_44_50 : decode (cd 44) 50 = .ok (.ireturn, 1) := by rw [cd_44]; decide +kernel
theorem e_44_50 {d : Nat} {h : mM} {L : mLs} {v : Int32} : ev d 44 50 L [.int v] h = some (some (.int v), h) := ev_ri d_44_50 (by decide +kernel)
theorem d_44_51 : decode (cd 44) 51 = .ok (.aload_n 0, 1) := by rw [cd_44]; decide +kernel
theorem e_44_51 {d : Nat} {h : mM} {T : mLs} {x : Nat} {st : List Value} : ev d 44 51 ( some (.ref x) :: T) st h = ev d 44 52 ( some (.ref x) :: T) (.ref x :: st) h := ev_of d_44_51 rfl
theorem d_44_52 : decode (cd 44) 52 = .ok (.getfield 19, 3) := by rw [cd_44]; decide +kernel
theorem e_44_52 {d : Nat} {h : mM} {L : mLs} {st : List Value} {a : Nat} : ev d 44 52 L (.ref a :: st) h = if mK h a = 9 then oB (mR h a 1) (fun b => ev d 44 55 L (.ref b :: st) h) else none := ev_gR d_44_52 (by decide +kernel) (by decide +kernel)
theorem d_44_55 : decode (cd 44) 55 = .ok (.getfield 128, 3) := by rw [cd_44]; decide +kernel
theorem e_44_55 {d : Nat} {h : mM} {L : mLs} {st : List Value} {a : Nat} : ev d 44 55 L (.ref a :: st) h = if mK h a = 8 then ev d 44 58 L (.int (mI h a 5) :: st) h else none := ev_gI d_44_55 (by decide +kernel) (by decide +kernel)
theorem d_44_58 : decode (cd 44) 58 = .ok (.istore 4, 2) := by rw [cd_44]; decide +kernel
theorem e_44_58 {d : Nat} {h : mM} {o0 o1 o2 o3 o4 : Option Value} {T : mLs} {x : Int32} {st : List Value} (hl : mLong o3 = false) : ev d 44 58 (o0 :: o1 :: o2 :: o3 :: o4 :: T) (.int x :: st) h = ev d 44 60 (o0 :: o1 :: o2 :: o3 :: some (.int x) :: T) st h := ev_st_i d_44_58 (by decide +kernel) (mS1_s (j := 3) hl)
theorem d_44_60 : decode (cd 44) 60 = .ok (.aload_n 0, 1) := by rw [cd_44]; decide +kernel
theorem e_44_60 {d : Nat} {h : mM} {T : mLs} {x : Nat} {st : List Value} : ev d 44 60 ( some (.ref x) :: T) st h = ev d 44 61 ( some (.ref x) :: T) (.ref x :: st) h := ev_of d_44_60 rfl
theorem d_44_61 : decode (cd 44) 61 = .ok (.getfield 19, 3) := by rw [cd_44]; decide +kernel
theorem e_44_61 {d : Nat} {h : mM} {L : mLs} {st : List Value} {a : Nat} : ev d 44 61 L (.ref a :: st) h = if mK h a = 9 then oB (mR h a 1) (fun b => ev d 44 64 L (.ref b :: st) h) else none := ev_gR d_44_61 (by decide +kernel) (by decide +kernel)
theorem d_44_64 : decode (cd 44) 64 = .ok (.getfield 131, 3) := by rw [cd_44]; decide +kernel
theorem e_44_64 {d : Nat} {h : mM} {L : mLs} {st : List Value} {a : Nat} : ev d 44 64 L (.ref a :: st) h = if mK h a = 8 then oB (mR h a 1) (fun b => ev d 44 67 L (.ref b :: st) h) else none := ev_gR d_44_64 (by decide +kernel) (by decide +kernel)
theorem d_44_67 : decode (cd 44) 67 = .ok (.iload 4, 2) := by rw [cd_44]; decide +kernel
theorem e_44_67 {d : Nat} {h : mM} {o0 o1 o2 o3 : Option Value} {T : mLs} {x : Int32} {st : List Value} : ev d 44 67 (o0 :: o1 :: o2 :: o3 :: some (.int x) :: T) st h = ev d 44 69 (o0 :: o1 :: o2 :: o3 :: some (.int x) :: T) (.int x :: st) h := ev_of d_44_67 rfl
theorem d_44_69 : decode (cd 44) 69 = .ok (.aaload, 1) := by rw [cd_44]; decide +kernel
theorem e_44_69 {d : Nat} {h : mM} {L : mLs} {st : List Value} {a : Nat} {i : Int32} : ev d 44 69 L (.int i :: .ref a :: st) h = if (12 < mK h a ∧ mK h a < 19) ∧ ixOK i (mL h a) = true then oB (mR h a i.toNatClampNeg) (fun b => ev d 44 70 L (.ref b :: st) h) else none := ev_aa d_44_69
theorem d_44_70 : decode (cd 44) 70 = .ok (.astore 5, 2) := by rw [cd_44]; decide +kernel
theorem e_44_70 {d : Nat} {h : mM} {o0 o1 o2 o3 o4 o5 : Option Value} {T : mLs} {x : Nat} {st : List Value} (hl : mLong o4 = false) : ev d 44 70 (o0 :: o1 :: o2 :: o3 :: o4 :: o5 :: T) (.ref x :: st) h = ev d 44 72 (o0 :: o1 :: o2 :: o3 :: o4 :: some (.ref x) :: T) st h := ev_st_r d_44_70 (by decide +kernel) (mS1_s (j := 4) hl)
theorem d_44_72 : decode (cd 44) 72 = .ok (.aload 5, 2) := by rw [cd_44]; decide +kernel
theorem e_44_72 {d : Nat} {h : mM} {o0 o1 o2 o3 o4 : Option Value} {T : mLs} {x : Nat} {st : List Value} : ev d 44 72 (o0 :: o1 :: o2 :: o3 :: o4 :: some (.ref x) :: T) st h = ev d 44 74 (o0 :: o1 :: o2 :: o3 :: o4 :: some (.ref x) :: T) (.ref x :: st) h := ev_of d_44_72 rfl
theorem d_44_74 : decode (cd 44) 74 = .ok (.iload_n 1, 1) := by rw [cd_44]; decide +kernel
theorem e_44_74 {d : Nat} {h : mM} {o0 : Option Value} {T : mLs} {x : Int32} {st : List Value} : ev d 44 74 (o0 :: some (.int x) :: T) st h = ev d 44 75 (o0 :: some (.int x) :: T) (.int x :: st) h := ev_of d_44_74 rfl
theorem d_44_75 : decode (cd 44) 75 = .ok (.putfield 135, 3) := by rw [cd_44]; decide +kernel
theorem e_44_75 {d : Nat} {h : mM} {L : mLs} {st : List Value} {a : Nat} {v : Int32} : ev d 44 75 L (.int v :: .ref a :: st) h = if mK h a = 0 then ev d 44 78 L st (wI h a 0 v) else none := ev_pI d_44_75 (by decide +kernel) (by decide +kernel) (by decide +kernel)
theorem d_44_78 : decode (cd 44) 78 = .ok (.aload 5, 2) := by rw [cd_44]; decide +kernel
theorem e_44_78 {d : Nat} {h : mM} {o0 o1 o2 o3 o4 : Option Value} {T : mLs} {x : Nat} {st : List Value} : ev d 44 78 (o0 :: o1 :: o2 :: o3 :: o4 :: some (.ref x) :: T) st h = ev d 44 80 (o0 :: o1 :: o2 :: o3 :: o4 :: some (.ref x) :: T) (.ref x :: st) h := ev_of d_44_78 rfl
theorem d_44_80 : decode (cd 44) 80 = .ok (.iload_n 2, 1) := by rw [cd_44]; decide +kernel
theorem e_44_80 {d : Nat} {h : mM} {o0 o1 : Option Value} {T : mLs} {x : Int32} {st : List Value} : ev d 44 80 (o0 :: o1 :: some (.int x) :: T) st h = ev d 44 81 (o0 :: o1 :: some (.int x) :: T) (.int x :: st) h := ev_of d_44_80 rfl
theorem d_44_81 : decode (cd 44) 81 = .ok (.putfield 140, 3) := by rw [cd_44]; decide +kernel
theorem e_44_81 {d : Nat} {h : mM} {L : mLs} {st : List Value} {a : Nat} {v : Int32} : ev d 44 81 L (.int v :: .ref a :: st) h = if mK h a = 0 then ev d 44 84 L st (wI h a 1 v) else none := ev_pI d_44_81 (by decide +kernel) (by decide +kernel) (by decide +kernel)
theorem d_44_84 : decode (cd 44) 84 = .ok (.aload 5, 2) := by rw [cd_44]; decide +kernel
theorem e_44_84 {d : Nat} {h : mM} {o0 o1 o2 o3 o4 : Option Value} {T : mLs} {x : Nat} {st : List Value} : ev d 44 84 (o0 :: o1 :: o2 :: o3 :: o4 :: some (.ref x) :: T) st h = ev d 44 86 (o0 :: o1 :: o2 :: o3 :: o4 :: some (.ref x) :: T) (.ref x :: st) h := ev_of d_44_84 rfl
theorem d_44_86 : decode (cd 44) 86 = .ok (.iload_n 3, 1) := by rw [cd_44]; decide +kernel
theorem e_44_86 {d : Nat} {h : mM} {o0 o1 o2 : Option Value} {T : mLs} {x : Int32} {st : List Value} : ev d 44 86 (o0 :: o1 :: o2 :: some (.int x) :: T) st h = ev d 44 87 (o0 :: o1 :: o2 :: some (.int x) :: T) (.int x :: st) h := ev_of d_44_86 rfl
theorem d_44_87 : decode (cd 44) 87 = .ok (.putfield 143, 3) := by rw [cd_44]; decide +kernel
theorem e_44_87 {d : Nat} {h : mM} {L : mLs} {st : List Value} {a : Nat} {v : Int32} : ev d 44 87 L (.int v :: .ref a :: st) h = if mK h a = 0 then ev d 44 90 L st (wI h a 2 v) else none := ev_pI d_44_87 (by decide +kernel) (by decide +kernel) (by decide +kernel)
theorem d_44_90 : decode (cd 44) 90 = .ok (.aload_n 0, 1) := by rw [cd_44]; decide +kernel
theorem e_44_90 {d : Nat} {h : mM} {T : mLs} {x : Nat} {st : List Value} : ev d 44 90 ( some (.ref x) :: T) st h = ev d 44 91 ( some (.ref x) :: T) (.ref x :: st) h := ev_of d_44_90 rfl
theorem d_44_91 : decode (cd 44) 91 = .ok (.getfield 19, 3) := by rw [cd_44]; decide +kernel
theorem e_44_91 {d : Nat} {h : mM} {L : mLs} {st : List Value} {a : Nat} : ev d 44 91 L (.ref a :: st) h = if mK h a = 9 then oB (mR h a 1) (fun b => ev d 44 94 L (.ref b :: st) h) else none := ev_gR d_44_91 (by decide +kernel) (by decide +kernel)
theorem d_44_94 : decode (cd 44) 94 = .ok (.iload 4, 2) := by rw [cd_44]; decide +kernel
theorem e_44_94 {d : Nat} {h : mM} {o0 o1 o2 o3 : Option Value} {T : mLs} {x : Int32} {st : List Value} : ev d 44 94 (o0 :: o1 :: o2 :: o3 :: some (.int x) :: T) st h = ev d 44 96 (o0 :: o1 :: o2 :: o3 :: some (.int x) :: T) (.int x :: st) h := ev_of d_44_94 rfl
theorem d_44_96 : decode (cd 44) 96 = .ok (.iconst 1, 1) := by rw [cd_44]; decide +kernel
theorem e_44_96 {d : Nat} {h : mM} {L : mLs} {st : List Value} : ev d 44 96 L st h = ev d 44 97 L (.int 1 :: st) h := ev_of d_44_96 rfl
theorem d_44_97 : decode (cd 44) 97 = .ok (.iadd, 1) := by rw [cd_44]; decide +kernel
theorem e_44_97 {d : Nat} {h : mM} {L : mLs} {st : List Value} {x y : Int32} : ev d 44 97 L (.int y :: .int x :: st) h = ev d 44 98 L (.int (x + y) :: st) h := ev_of d_44_97 rfl
theorem d_44_98 : decode (cd 44) 98 = .ok (.putfield 128, 3) := by rw [cd_44]; decide +kernel
theorem e_44_98 {d : Nat} {h : mM} {L : mLs} {st : List Value} {a : Nat} {v : Int32} : ev d 44 98 L (.int v :: .ref a :: st) h = if mK h a = 8 then ev d 44 101 L st (wI h a 5 v) else none := ev_pI d_44_98 (by decide +kernel) (by decide +kernel) (by decide +kernel)
theorem d_44_101 : decode (cd 44) 101 = .ok (.iload 4, 2) := by rw [cd_44]; decide +kernel
theorem e_44_101 {d : Nat} {h : mM} {o0 o1 o2 o3 : Option Value} {T : mLs} {x : Int32} {st : List Value} : ev d 44 101 (o0 :: o1 :: o2 :: o3 :: some (.int x) :: T) st h = ev d 44 103 (o0 :: o1 :: o2 :: o3 :: some (.int x) :: T) (.int x :: st) h := ev_of d_44_101 rfl
theorem d_44_103 : decode (cd 44) 103 = .ok (.ireturn, 1) := by rw [cd_44]; decide +kernel
theorem e_44_103 {d : Nat} {h : mM} {L : mLs} {v : Int32} : ev d 44 103 L [.int v] h = some (some (.int v), h) := ev_ri d_44_103 (by decide +kernel)
-- 45: TideMill.widen
theorem cd_45 : cd 45 = prog_1_method_9_code := rfl
theorem d_45_0 : decode (cd 45) 0 = .ok (.iload_n 1, 1) := by rw [cd_45]; decide +kernel
theorem e_45_0 {d : Nat} {h : mM} {o0 : Option Value} {T : mLs} {x : Int32} {st : List Value} : ev d 45 0 (o0 :: some (.int x) :: T) st h = ev d 45 1 (o0 :: some (.int x) :: T) (.int x :: st) h := ev_of d_45_0 rfl
theorem d_45_1 : decode (cd 45) 1 = .ok (.iconst 0, 1) := by rw [cd_45]; decide +kernel
theorem e_45_1 {d : Nat} {h : mM} {L : mLs} {st : List Value} : ev d 45 1 L st h = ev d 45 2 L (.int 0 :: st) h := ev_of d_45_1 rfl
theorem d_45_2 : decode (cd 45) 2 = .ok (.aload_n 0, 1) := by rw [cd_45]; decide +kernel
theorem e_45_2 {d : Nat} {h : mM} {T : mLs} {x : Nat} {st : List Value} : ev d 45 2 ( some (.ref x) :: T) st h = ev d 45 3 ( some (.ref x) :: T) (.ref x :: st) h := ev_of d_45_2 rfl
theorem d_45_3 : decode (cd 45) 3 = .ok (.getfield 19, 3) := by rw [cd_45]; decide +kernel
theorem e_45_3 {d : Nat} {h : mM} {L : mLs} {st : List Value} {a : Nat} : ev d 45 3 L (.ref a :: st) h = if mK h a = 9 then oB (mR h a 1) (fun b => ev d 45 6 L (.ref b :: st) h) else none := ev_gR d_45_3 (by decide +kernel) (by decide +kernel)
theorem d_45_6 : decode (cd 45) 6 = .ok (.getfield 128, 3) := by rw [cd_45]; decide +kernel
theorem e_45_6 {d : Nat} {h : mM} {L : mLs} {st : List Value} {a : Nat} : ev d 45 6 L (.ref a :: st) h = if mK h a = 8 then ev d 45 9 L (.int (mI h a 5) :: st) h else none := ev_gI d_45_6 (by decide +kernel) (by decide +kernel)
theorem d_45_9 : decode (cd 45) 9 = .ok (.iconst 1, 1) := by rw [cd_45]; decide +kernel
theorem e_45_9 {d : Nat} {h : mM} {L : mLs} {st : List Value} : ev d 45 9 L st h = ev d 45 10 L (.int 1 :: st) h := ev_of d_45_9 rfl
theorem d_45_10 : decode (cd 45) 10 = .ok (.isub, 1) := by rw [cd_45]; decide +kernel
theorem e_45_10 {d : Nat} {h : mM} {L : mLs} {st : List Value} {x y : Int32} : ev d 45 10 L (.int y :: .int x :: st) h = ev d 45 11 L (.int (x - y) :: st) h := ev_of d_45_10 rfl
theorem d_45_11 : decode (cd 45) 11 = .ok (.invokestatic 79, 3) := by rw [cd_45]; decide +kernel
theorem e_45_11 {d : Nat} {h : mM} {L : mLs} {st : List Value} {x0 : Int32} {x1 : Int32} {x2 : Int32} (hc : mCat st ≤ 8) : ev (d + 1) 45 11 L (.int x2 :: .int x1 :: .int x0 :: st) h = cV (ev d 65 0 [some (.int x0), some (.int x1), some (.int x2)] [] h) (fun v h1 => ev (d + 1) 45 14 L (v ++ st) h1) := ev_cs (kd := 1) (mj := 65) (as := [.int x0, .int x1, .int x2]) (rest := st) d_45_11 (by decide +kernel) (by decide) rfl rfl (by show _ ≤ List.length _; simp only [List.length_cons]; have : na 65 = 3 := rfl; omega) rfl (Nat.le_of_ble_eq_true rfl) hc
theorem d_45_14 : decode (cd 45) 14 = .ok (.ifCond .eq 10, 3) := by rw [cd_45]; decide +kernel
theorem e_45_14 {d : Nat} {h : mM} {L : mLs} {st : List Value} {x : Int32} : ev d 45 14 L (.int x :: st) h = if x = 0 then ev d 45 24 L st h else ev d 45 17 L st h := ev_if (x = 0) inferInstance rfl d_45_14 (by decide)
theorem d_45_17 : decode (cd 45) 17 = .ok (.iload_n 2, 1) := by rw [cd_45]; decide +kernel
theorem e_45_17 {d : Nat} {h : mM} {o0 o1 : Option Value} {T : mLs} {x : Int32} {st : List Value} : ev d 45 17 (o0 :: o1 :: some (.int x) :: T) st h = ev d 45 18 (o0 :: o1 :: some (.int x) :: T) (.int x :: st) h := ev_of d_45_17 rfl
theorem d_45_18 : decode (cd 45) 18 = .ok (.invokestatic 96, 3) := by rw [cd_45]; decide +kernel
theorem e_45_18 {d : Nat} {h : mM} {L : mLs} {st : List Value} {x0 : Int32} (hc : mCat st ≤ 8) : ev (d + 1) 45 18 L (.int x0 :: st) h = cV (ev d 66 0 [some (.int x0)] [] h) (fun v h1 => ev (d + 1) 45 21 L (v ++ st) h1) := ev_cs (kd := 1) (mj := 66) (as := [.int x0]) (rest := st) d_45_18 (by decide +kernel) (by decide) rfl rfl (by show _ ≤ List.length _; simp only [List.length_cons]; have : na 66 = 1 := rfl; omega) rfl (Nat.le_of_ble_eq_true rfl) hc
theorem d_45_21 : decode (cd 45) 21 = .ok (.ifCond .ne 9, 3) := by rw [cd_45]; decide +kernel
theorem e_45_21 {d : Nat} {h : mM} {L : mLs} {st : List Value} {x : Int32} : ev d 45 21 L (.int x :: st) h = if ¬ x = 0 then ev d 45 30 L st h else ev d 45 24 L st h := ev_if (¬ x = 0) inferInstance rfl d_45_21 (by decide)
theorem d_45_24 : decode (cd 45) 24 = .ok (.aload_n 0, 1) := by rw [cd_45]; decide +kernel
theorem e_45_24 {d : Nat} {h : mM} {T : mLs} {x : Nat} {st : List Value} : ev d 45 24 ( some (.ref x) :: T) st h = ev d 45 25 ( some (.ref x) :: T) (.ref x :: st) h := ev_of d_45_24 rfl
theorem d_45_25 : decode (cd 45) 25 = .ok (.iconst 1, 1) := by rw [cd_45]; decide +kernel
theorem e_45_25 {d : Nat} {h : mM} {L : mLs} {st : List Value} : ev d 45 25 L st h = ev d 45 26 L (.int 1 :: st) h := ev_of d_45_25 rfl
theorem d_45_26 : decode (cd 45) 26 = .ok (.invokevirtual 83, 3) := by rw [cd_45]; decide +kernel
theorem e_45_26 {d : Nat} {h : mM} {L : mLs} {st : List Value} {a : Nat} {x0 : Int32} (hc : mCat st ≤ 8) : ev (d + 1) 45 26 L (.int x0 :: .ref a :: st) h = if mK h a = 9 then cV (ev d 64 0 [some (.ref a), some (.int x0)] [] h) (fun v h1 => ev (d + 1) 45 29 L (v ++ st) h1) else none := ev_cv (mj := 64) (as := [.int x0]) (rest := st) d_45_26 (by decide +kernel) rfl rfl (by show _ ≤ List.length _; simp only [List.length_cons]; have : na 64 = 1 := rfl; omega) rfl (Nat.le_of_ble_eq_true rfl) hc
theorem d_45_29 : decode (cd 45) 29 = .ok (.ireturn, 1) := by rw [cd_45]; decide +kernel
theorem e_45_29 {d : Nat} {h : mM} {L : mLs} {v : Int32} : ev d 45 29 L [.int v] h = some (some (.int v), h) := ev_ri d_45_29 (by decide +kernel)
theorem d_45_30 : decode (cd 45) 30 = .ok (.aload_n 0, 1) := by rw [cd_45]; decide +kernel
theorem e_45_30 {d : Nat} {h : mM} {T : mLs} {x : Nat} {st : List Value} : ev d 45 30 ( some (.ref x) :: T) st h = ev d 45 31 ( some (.ref x) :: T) (.ref x :: st) h := ev_of d_45_30 rfl
theorem d_45_31 : decode (cd 45) 31 = .ok (.getfield 19, 3) := by rw [cd_45]; decide +kernel
theorem e_45_31 {d : Nat} {h : mM} {L : mLs} {st : List Value} {a : Nat} : ev d 45 31 L (.ref a :: st) h = if mK h a = 9 then oB (mR h a 1) (fun b => ev d 45 34 L (.ref b :: st) h) else none := ev_gR d_45_31 (by decide +kernel) (by decide +kernel)
theorem d_45_34 : decode (cd 45) 34 = .ok (.getfield 131, 3) := by rw [cd_45]; decide +kernel
theorem e_45_34 {d : Nat} {h : mM} {L : mLs} {st : List Value} {a : Nat} : ev d 45 34 L (.ref a :: st) h = if mK h a = 8 then oB (mR h a 1) (fun b => ev d 45 37 L (.ref b :: st) h) else none := ev_gR d_45_34 (by decide +kernel) (by decide +kernel)
theorem d_45_37 : decode (cd 45) 37 = .ok (.iload_n 1, 1) := by rw [cd_45]; decide +kernel
theorem e_45_37 {d : Nat} {h : mM} {o0 : Option Value} {T : mLs} {x : Int32} {st : List Value} : ev d 45 37 (o0 :: some (.int x) :: T) st h = ev d 45 38 (o0 :: some (.int x) :: T) (.int x :: st) h := ev_of d_45_37 rfl
theorem d_45_38 : decode (cd 45) 38 = .ok (.aaload, 1) := by rw [cd_45]; decide +kernel
theorem e_45_38 {d : Nat} {h : mM} {L : mLs} {st : List Value} {a : Nat} {i : Int32} : ev d 45 38 L (.int i :: .ref a :: st) h = if (12 < mK h a ∧ mK h a < 19) ∧ ixOK i (mL h a) = true then oB (mR h a i.toNatClampNeg) (fun b => ev d 45 39 L (.ref b :: st) h) else none := ev_aa d_45_38
theorem d_45_39 : decode (cd 45) 39 = .ok (.getfield 143, 3) := by rw [cd_45]; decide +kernel
theorem e_45_39 {d : Nat} {h : mM} {L : mLs} {st : List Value} {a : Nat} : ev d 45 39 L (.ref a :: st) h = if mK h a = 0 then ev d 45 42 L (.int (mI h a 2) :: st) h else none := ev_gI d_45_39 (by decide +kernel) (by decide +kernel)
theorem d_45_42 : decode (cd 45) 42 = .ok (.istore_n 3, 1) := by rw [cd_45]; decide +kernel
theorem e_45_42 {d : Nat} {h : mM} {o0 o1 o2 o3 : Option Value} {T : mLs} {x : Int32} {st : List Value} (hl : mLong o2 = false) : ev d 45 42 (o0 :: o1 :: o2 :: o3 :: T) (.int x :: st) h = ev d 45 43 (o0 :: o1 :: o2 :: some (.int x) :: T) st h := ev_st_in d_45_42 (by decide +kernel) (mS1_s (j := 2) hl)
theorem d_45_43 : decode (cd 45) 43 = .ok (.aload_n 0, 1) := by rw [cd_45]; decide +kernel
theorem e_45_43 {d : Nat} {h : mM} {T : mLs} {x : Nat} {st : List Value} : ev d 45 43 ( some (.ref x) :: T) st h = ev d 45 44 ( some (.ref x) :: T) (.ref x :: st) h := ev_of d_45_43 rfl
theorem d_45_44 : decode (cd 45) 44 = .ok (.getfield 19, 3) := by rw [cd_45]; decide +kernel
theorem e_45_44 {d : Nat} {h : mM} {L : mLs} {st : List Value} {a : Nat} : ev d 45 44 L (.ref a :: st) h = if mK h a = 9 then oB (mR h a 1) (fun b => ev d 45 47 L (.ref b :: st) h) else none := ev_gR d_45_44 (by decide +kernel) (by decide +kernel)
theorem d_45_47 : decode (cd 45) 47 = .ok (.getfield 131, 3) := by rw [cd_45]; decide +kernel
theorem e_45_47 {d : Nat} {h : mM} {L : mLs} {st : List Value} {a : Nat} : ev d 45 47 L (.ref a :: st) h = if mK h a = 8 then oB (mR h a 1) (fun b => ev d 45 50 L (.ref b :: st) h) else none := ev_gR d_45_47 (by decide +kernel) (by decide +kernel)
theorem d_45_50 : decode (cd 45) 50 = .ok (.iload_n 1, 1) := by rw [cd_45]; decide +kernel
theorem e_45_50 {d : Nat} {h : mM} {o0 : Option Value} {T : mLs} {x : Int32} {st : List Value} : ev d 45 50 (o0 :: some (.int x) :: T) st h = ev d 45 51 (o0 :: some (.int x) :: T) (.int x :: st) h := ev_of d_45_50 rfl
theorem d_45_51 : decode (cd 45) 51 = .ok (.aaload, 1) := by rw [cd_45]; decide +kernel
theorem e_45_51 {d : Nat} {h : mM} {L : mLs} {st : List Value} {a : Nat} {i : Int32} : ev d 45 51 L (.int i :: .ref a :: st) h = if (12 < mK h a ∧ mK h a < 19) ∧ ixOK i (mL h a) = true then oB (mR h a i.toNatClampNeg) (fun b => ev d 45 52 L (.ref b :: st) h) else none := ev_aa d_45_51
theorem d_45_52 : decode (cd 45) 52 = .ok (.iload_n 2, 1) := by rw [cd_45]; decide +kernel
theorem e_45_52 {d : Nat} {h : mM} {o0 o1 : Option Value} {T : mLs} {x : Int32} {st : List Value} : ev d 45 52 (o0 :: o1 :: some (.int x) :: T) st h = ev d 45 53 (o0 :: o1 :: some (.int x) :: T) (.int x :: st) h := ev_of d_45_52 rfl
theorem d_45_53 : decode (cd 45) 53 = .ok (.putfield 143, 3) := by rw [cd_45]; decide +kernel
theorem e_45_53 {d : Nat} {h : mM} {L : mLs} {st : List Value} {a : Nat} {v : Int32} : ev d 45 53 L (.int v :: .ref a :: st) h = if mK h a = 0 then ev d 45 56 L st (wI h a 2 v) else none := ev_pI d_45_53 (by decide +kernel) (by decide +kernel) (by decide +kernel)
theorem d_45_56 : decode (cd 45) 56 = .ok (.iload_n 3, 1) := by rw [cd_45]; decide +kernel
theorem e_45_56 {d : Nat} {h : mM} {o0 o1 o2 : Option Value} {T : mLs} {x : Int32} {st : List Value} : ev d 45 56 (o0 :: o1 :: o2 :: some (.int x) :: T) st h = ev d 45 57 (o0 :: o1 :: o2 :: some (.int x) :: T) (.int x :: st) h := ev_of d_45_56 rfl
theorem d_45_57 : decode (cd 45) 57 = .ok (.ireturn, 1) := by rw [cd_45]; decide +kernel
theorem e_45_57 {d : Nat} {h : mM} {L : mLs} {v : Int32} : ev d 45 57 L [.int v] h = some (some (.int v), h) := ev_ri d_45_57 (by decide +kernel)
-- 46: TideMill.about
theorem cd_46 : cd 46 = prog_1_method_10_code := rfl
theorem d_46_0 : decode (cd 46) 0 = .ok (.aload_n 0, 1) := by rw [cd_46]; decide +kernel
theorem e_46_0 {d : Nat} {h : mM} {T : mLs} {x : Nat} {st : List Value} : ev d 46 0 ( some (.ref x) :: T) st h = ev d 46 1 ( some (.ref x) :: T) (.ref x :: st) h := ev_of d_46_0 rfl
theorem d_46_1 : decode (cd 46) 1 = .ok (.iload_n 1, 1) := by rw [cd_46]; decide +kernel
theorem e_46_1 {d : Nat} {h : mM} {o0 : Option Value} {T : mLs} {x : Int32} {st : List Value} : ev d 46 1 (o0 :: some (.int x) :: T) st h = ev d 46 2 (o0 :: some (.int x) :: T) (.int x :: st) h := ev_of d_46_1 rfl
theorem d_46_2 : decode (cd 46) 2 = .ok (.invokevirtual 118, 3) := by rw [cd_46]; decide +kernel
theorem e_46_2 {d : Nat} {h : mM} {L : mLs} {st : List Value} {a : Nat} {x0 : Int32} (hc : mCat st ≤ 8) : ev (d + 1) 46 2 L (.int x0 :: .ref a :: st) h = if mK h a = 9 then cV (ev d 70 0 [some (.ref a), some (.int x0)] [] h) (fun v h1 => ev (d + 1) 46 5 L (v ++ st) h1) else none := ev_cv (mj := 70) (as := [.int x0]) (rest := st) d_46_2 (by decide +kernel) rfl rfl (by show _ ≤ List.length _; simp only [List.length_cons]; have : na 70 = 1 := rfl; omega) rfl (Nat.le_of_ble_eq_true rfl) hc
theorem d_46_5 : decode (cd 46) 5 = .ok (.ifCond .ne 9, 3) := by rw [cd_46]; decide +kernel
theorem e_46_5 {d : Nat} {h : mM} {L : mLs} {st : List Value} {x : Int32} : ev d 46 5 L (.int x :: st) h = if ¬ x = 0 then ev d 46 14 L st h else ev d 46 8 L st h := ev_if (¬ x = 0) inferInstance rfl d_46_5 (by decide)
theorem d_46_8 : decode (cd 46) 8 = .ok (.aload_n 0, 1) := by rw [cd_46]; decide +kernel
theorem e_46_8 {d : Nat} {h : mM} {T : mLs} {x : Nat} {st : List Value} : ev d 46 8 ( some (.ref x) :: T) st h = ev d 46 9 ( some (.ref x) :: T) (.ref x :: st) h := ev_of d_46_8 rfl
theorem d_46_9 : decode (cd 46) 9 = .ok (.iconst 1, 1) := by rw [cd_46]; decide +kernel
theorem e_46_9 {d : Nat} {h : mM} {L : mLs} {st : List Value} : ev d 46 9 L st h = ev d 46 10 L (.int 1 :: st) h := ev_of d_46_9 rfl
theorem d_46_10 : decode (cd 46) 10 = .ok (.invokevirtual 83, 3) := by rw [cd_46]; decide +kernel
theorem e_46_10 {d : Nat} {h : mM} {L : mLs} {st : List Value} {a : Nat} {x0 : Int32} (hc : mCat st ≤ 8) : ev (d + 1) 46 10 L (.int x0 :: .ref a :: st) h = if mK h a = 9 then cV (ev d 64 0 [some (.ref a), some (.int x0)] [] h) (fun v h1 => ev (d + 1) 46 13 L (v ++ st) h1) else none := ev_cv (mj := 64) (as := [.int x0]) (rest := st) d_46_10 (by decide +kernel) rfl rfl (by show _ ≤ List.length _; simp only [List.length_cons]; have : na 64 = 1 := rfl; omega) rfl (Nat.le_of_ble_eq_true rfl) hc
theorem d_46_13 : decode (cd 46) 13 = .ok (.ireturn, 1) := by rw [cd_46]; decide +kernel
theorem e_46_13 {d : Nat} {h : mM} {L : mLs} {v : Int32} : ev d 46 13 L [.int v] h = some (some (.int v), h) := ev_ri d_46_13 (by decide +kernel)
theorem d_46_14 : decode (cd 46) 14 = .ok (.aload_n 0, 1) := by rw [cd_46]; decide +kernel
theorem e_46_14 {d : Nat} {h : mM} {T : mLs} {x : Nat} {st : List Value} : ev d 46 14 ( some (.ref x) :: T) st h = ev d 46 15 ( some (.ref x) :: T) (.ref x :: st) h := ev_of d_46_14 rfl
theorem d_46_15 : decode (cd 46) 15 = .ok (.getfield 19, 3) := by rw [cd_46]; decide +kernel
theorem e_46_15 {d : Nat} {h : mM} {L : mLs} {st : List Value} {a : Nat} : ev d 46 15 L (.ref a :: st) h = if mK h a = 9 then oB (mR h a 1) (fun b => ev d 46 18 L (.ref b :: st) h) else none := ev_gR d_46_15 (by decide +kernel) (by decide +kernel)
theorem d_46_18 : decode (cd 46) 18 = .ok (.getfield 103, 3) := by rw [cd_46]; decide +kernel
theorem e_46_18 {d : Nat} {h : mM} {L : mLs} {st : List Value} {a : Nat} : ev d 46 18 L (.ref a :: st) h = if mK h a = 8 then oB (mR h a 0) (fun b => ev d 46 21 L (.ref b :: st) h) else none := ev_gR d_46_18 (by decide +kernel) (by decide +kernel)
theorem d_46_21 : decode (cd 46) 21 = .ok (.iload_n 1, 1) := by rw [cd_46]; decide +kernel
theorem e_46_21 {d : Nat} {h : mM} {o0 : Option Value} {T : mLs} {x : Int32} {st : List Value} : ev d 46 21 (o0 :: some (.int x) :: T) st h = ev d 46 22 (o0 :: some (.int x) :: T) (.int x :: st) h := ev_of d_46_21 rfl
theorem d_46_22 : decode (cd 46) 22 = .ok (.aaload, 1) := by rw [cd_46]; decide +kernel
theorem e_46_22 {d : Nat} {h : mM} {L : mLs} {st : List Value} {a : Nat} {i : Int32} : ev d 46 22 L (.int i :: .ref a :: st) h = if (12 < mK h a ∧ mK h a < 19) ∧ ixOK i (mL h a) = true then oB (mR h a i.toNatClampNeg) (fun b => ev d 46 23 L (.ref b :: st) h) else none := ev_aa d_46_22
theorem d_46_23 : decode (cd 46) 23 = .ok (.astore_n 3, 1) := by rw [cd_46]; decide +kernel
theorem e_46_23 {d : Nat} {h : mM} {o0 o1 o2 o3 : Option Value} {T : mLs} {x : Nat} {st : List Value} (hl : mLong o2 = false) : ev d 46 23 (o0 :: o1 :: o2 :: o3 :: T) (.ref x :: st) h = ev d 46 24 (o0 :: o1 :: o2 :: some (.ref x) :: T) st h := ev_st_rn d_46_23 (by decide +kernel) (mS1_s (j := 2) hl)
theorem d_46_24 : decode (cd 46) 24 = .ok (.iload_n 2, 1) := by rw [cd_46]; decide +kernel
theorem e_46_24 {d : Nat} {h : mM} {o0 o1 : Option Value} {T : mLs} {x : Int32} {st : List Value} : ev d 46 24 (o0 :: o1 :: some (.int x) :: T) st h = ev d 46 25 (o0 :: o1 :: some (.int x) :: T) (.int x :: st) h := ev_of d_46_24 rfl
theorem d_46_25 : decode (cd 46) 25 = .ok (.tableswitch 81 0 5 #[39, 50, 57, 62, 67, 72], 39) := by rw [cd_46]; decide +kernel
theorem e_46_25 {d : Nat} {h : mM} {L : mLs} {st : List Value} {x : Int32} : ev d 46 25 L (.int x :: st) h = tsF (fun t => ev d 46 t L st h) x [64, 75, 82, 87, 92, 97] 0 (ev d 46 106 L st h) := ev_ts _ d_46_25 (by decide) (by decide) (by decide)
theorem d_46_64 : decode (cd 46) 64 = .ok (.aload_n 3, 1) := by rw [cd_46]; decide +kernel
theorem e_46_64 {d : Nat} {h : mM} {o0 o1 o2 : Option Value} {T : mLs} {x : Nat} {st : List Value} : ev d 46 64 (o0 :: o1 :: o2 :: some (.ref x) :: T) st h = ev d 46 65 (o0 :: o1 :: o2 :: some (.ref x) :: T) (.ref x :: st) h := ev_of d_46_64 rfl
theorem d_46_65 : decode (cd 46) 65 = .ok (.aload_n 0, 1) := by rw [cd_46]; decide +kernel
theorem e_46_65 {d : Nat} {h : mM} {T : mLs} {x : Nat} {st : List Value} : ev d 46 65 ( some (.ref x) :: T) st h = ev d 46 66 ( some (.ref x) :: T) (.ref x :: st) h := ev_of d_46_65 rfl
theorem d_46_66 : decode (cd 46) 66 = .ok (.getfield 41, 3) := by rw [cd_46]; decide +kernel
theorem e_46_66 {d : Nat} {h : mM} {L : mLs} {st : List Value} {a : Nat} : ev d 46 66 L (.ref a :: st) h = if mK h a = 9 then oB (mR h a 4) (fun b => ev d 46 69 L (.ref b :: st) h) else none := ev_gR d_46_66 (by decide +kernel) (by decide +kernel)
theorem d_46_69 : decode (cd 46) 69 = .ok (.iload_n 1, 1) := by rw [cd_46]; decide +kernel
theorem e_46_69 {d : Nat} {h : mM} {o0 : Option Value} {T : mLs} {x : Int32} {st : List Value} : ev d 46 69 (o0 :: some (.int x) :: T) st h = ev d 46 70 (o0 :: some (.int x) :: T) (.int x :: st) h := ev_of d_46_69 rfl
theorem d_46_70 : decode (cd 46) 70 = .ok (.iaload, 1) := by rw [cd_46]; decide +kernel
theorem e_46_70 {d : Nat} {h : mM} {L : mLs} {st : List Value} {a : Nat} {i : Int32} : ev d 46 70 L (.int i :: .ref a :: st) h = if (mK h a = 11 ∨ mK h a = 19) ∧ ixOK i (mL h a) = true then ev d 46 71 L (.int (mI h a i.toNatClampNeg) :: st) h else none := ev_ia d_46_70
theorem d_46_71 : decode (cd 46) 71 = .ok (.invokevirtual 144, 3) := by rw [cd_46]; decide +kernel
theorem e_46_71 {d : Nat} {h : mM} {L : mLs} {st : List Value} {a : Nat} {x0 : Int32} (hc : mCat st ≤ 8) : ev (d + 1) 46 71 L (.int x0 :: .ref a :: st) h = if mK h a = 3 then cV (ev d 16 0 [some (.ref a), some (.int x0)] [] h) (fun v h1 => ev (d + 1) 46 74 L (v ++ st) h1) else none := ev_cv (mj := 16) (as := [.int x0]) (rest := st) d_46_71 (by decide +kernel) rfl rfl (by show _ ≤ List.length _; simp only [List.length_cons]; have : na 16 = 1 := rfl; omega) rfl (Nat.le_of_ble_eq_true rfl) hc
theorem d_46_74 : decode (cd 46) 74 = .ok (.ireturn, 1) := by rw [cd_46]; decide +kernel
theorem e_46_74 {d : Nat} {h : mM} {L : mLs} {v : Int32} : ev d 46 74 L [.int v] h = some (some (.int v), h) := ev_ri d_46_74 (by decide +kernel)
theorem d_46_75 : decode (cd 46) 75 = .ok (.aload_n 0, 1) := by rw [cd_46]; decide +kernel
theorem e_46_75 {d : Nat} {h : mM} {T : mLs} {x : Nat} {st : List Value} : ev d 46 75 ( some (.ref x) :: T) st h = ev d 46 76 ( some (.ref x) :: T) (.ref x :: st) h := ev_of d_46_75 rfl
theorem d_46_76 : decode (cd 46) 76 = .ok (.getfield 41, 3) := by rw [cd_46]; decide +kernel
theorem e_46_76 {d : Nat} {h : mM} {L : mLs} {st : List Value} {a : Nat} : ev d 46 76 L (.ref a :: st) h = if mK h a = 9 then oB (mR h a 4) (fun b => ev d 46 79 L (.ref b :: st) h) else none := ev_gR d_46_76 (by decide +kernel) (by decide +kernel)
theorem d_46_79 : decode (cd 46) 79 = .ok (.iload_n 1, 1) := by rw [cd_46]; decide +kernel
theorem e_46_79 {d : Nat} {h : mM} {o0 : Option Value} {T : mLs} {x : Int32} {st : List Value} : ev d 46 79 (o0 :: some (.int x) :: T) st h = ev d 46 80 (o0 :: some (.int x) :: T) (.int x :: st) h := ev_of d_46_79 rfl
theorem d_46_80 : decode (cd 46) 80 = .ok (.iaload, 1) := by rw [cd_46]; decide +kernel
theorem e_46_80 {d : Nat} {h : mM} {L : mLs} {st : List Value} {a : Nat} {i : Int32} : ev d 46 80 L (.int i :: .ref a :: st) h = if (mK h a = 11 ∨ mK h a = 19) ∧ ixOK i (mL h a) = true then ev d 46 81 L (.int (mI h a i.toNatClampNeg) :: st) h else none := ev_ia d_46_80
theorem d_46_81 : decode (cd 46) 81 = .ok (.ireturn, 1) := by rw [cd_46]; decide +kernel
theorem e_46_81 {d : Nat} {h : mM} {L : mLs} {v : Int32} : ev d 46 81 L [.int v] h = some (some (.int v), h) := ev_ri d_46_81 (by decide +kernel)
theorem d_46_82 : decode (cd 46) 82 = .ok (.aload_n 3, 1) := by rw [cd_46]; decide +kernel
theorem e_46_82 {d : Nat} {h : mM} {o0 o1 o2 : Option Value} {T : mLs} {x : Nat} {st : List Value} : ev d 46 82 (o0 :: o1 :: o2 :: some (.ref x) :: T) st h = ev d 46 83 (o0 :: o1 :: o2 :: some (.ref x) :: T) (.ref x :: st) h := ev_of d_46_82 rfl
theorem d_46_83 : decode (cd 46) 83 = .ok (.getfield 121, 3) := by rw [cd_46]; decide +kernel
theorem e_46_83 {d : Nat} {h : mM} {L : mLs} {st : List Value} {a : Nat} : ev d 46 83 L (.ref a :: st) h = if mK h a = 3 then ev d 46 86 L (.int (mI h a 3) :: st) h else none := ev_gI d_46_83 (by decide +kernel) (by decide +kernel)
theorem d_46_86 : decode (cd 46) 86 = .ok (.ireturn, 1) := by rw [cd_46]; decide +kernel
theorem e_46_86 {d : Nat} {h : mM} {L : mLs} {v : Int32} : ev d 46 86 L [.int v] h = some (some (.int v), h) := ev_ri d_46_86 (by decide +kernel)
theorem d_46_87 : decode (cd 46) 87 = .ok (.aload_n 3, 1) := by rw [cd_46]; decide +kernel
theorem e_46_87 {d : Nat} {h : mM} {o0 o1 o2 : Option Value} {T : mLs} {x : Nat} {st : List Value} : ev d 46 87 (o0 :: o1 :: o2 :: some (.ref x) :: T) st h = ev d 46 88 (o0 :: o1 :: o2 :: some (.ref x) :: T) (.ref x :: st) h := ev_of d_46_87 rfl
theorem d_46_88 : decode (cd 46) 88 = .ok (.getfield 107, 3) := by rw [cd_46]; decide +kernel
theorem e_46_88 {d : Nat} {h : mM} {L : mLs} {st : List Value} {a : Nat} : ev d 46 88 L (.ref a :: st) h = if mK h a = 3 then ev d 46 91 L (.int (mI h a 0) :: st) h else none := ev_gI d_46_88 (by decide +kernel) (by decide +kernel)
theorem d_46_91 : decode (cd 46) 91 = .ok (.ireturn, 1) := by rw [cd_46]; decide +kernel
theorem e_46_91 {d : Nat} {h : mM} {L : mLs} {v : Int32} : ev d 46 91 L [.int v] h = some (some (.int v), h) := ev_ri d_46_91 (by decide +kernel)
theorem d_46_92 : decode (cd 46) 92 = .ok (.aload_n 3, 1) := by rw [cd_46]; decide +kernel
theorem e_46_92 {d : Nat} {h : mM} {o0 o1 o2 : Option Value} {T : mLs} {x : Nat} {st : List Value} : ev d 46 92 (o0 :: o1 :: o2 :: some (.ref x) :: T) st h = ev d 46 93 (o0 :: o1 :: o2 :: some (.ref x) :: T) (.ref x :: st) h := ev_of d_46_92 rfl
theorem d_46_93 : decode (cd 46) 93 = .ok (.getfield 112, 3) := by rw [cd_46]; decide +kernel
theorem e_46_93 {d : Nat} {h : mM} {L : mLs} {st : List Value} {a : Nat} : ev d 46 93 L (.ref a :: st) h = if mK h a = 3 then ev d 46 96 L (.int (mI h a 1) :: st) h else none := ev_gI d_46_93 (by decide +kernel) (by decide +kernel)
theorem d_46_96 : decode (cd 46) 96 = .ok (.ireturn, 1) := by rw [cd_46]; decide +kernel
theorem e_46_96 {d : Nat} {h : mM} {L : mLs} {v : Int32} : ev d 46 96 L [.int v] h = some (some (.int v), h) := ev_ri d_46_96 (by decide +kernel)
theorem d_46_97 : decode (cd 46) 97 = .ok (.aload_n 0, 1) := by rw [cd_46]; decide +kernel
theorem e_46_97 {d : Nat} {h : mM} {T : mLs} {x : Nat} {st : List Value} : ev d 46 97 ( some (.ref x) :: T) st h = ev d 46 98 ( some (.ref x) :: T) (.ref x :: st) h := ev_of d_46_97 rfl
theorem d_46_98 : decode (cd 46) 98 = .ok (.getfield 19, 3) := by rw [cd_46]; decide +kernel
theorem e_46_98 {d : Nat} {h : mM} {L : mLs} {st : List Value} {a : Nat} : ev d 46 98 L (.ref a :: st) h = if mK h a = 9 then oB (mR h a 1) (fun b => ev d 46 101 L (.ref b :: st) h) else none := ev_gR d_46_98 (by decide +kernel) (by decide +kernel)
theorem d_46_101 : decode (cd 46) 101 = .ok (.iload_n 1, 1) := by rw [cd_46]; decide +kernel
theorem e_46_101 {d : Nat} {h : mM} {o0 : Option Value} {T : mLs} {x : Int32} {st : List Value} : ev d 46 101 (o0 :: some (.int x) :: T) st h = ev d 46 102 (o0 :: some (.int x) :: T) (.int x :: st) h := ev_of d_46_101 rfl
theorem d_46_102 : decode (cd 46) 102 = .ok (.invokevirtual 147, 3) := by rw [cd_46]; decide +kernel
theorem e_46_102 {d : Nat} {h : mM} {L : mLs} {st : List Value} {a : Nat} {x0 : Int32} (hc : mCat st ≤ 8) : ev (d + 1) 46 102 L (.int x0 :: .ref a :: st) h = if mK h a = 8 then cV (ev d 34 0 [some (.ref a), some (.int x0), none, none] [] h) (fun v h1 => ev (d + 1) 46 105 L (v ++ st) h1) else none := ev_cv (mj := 34) (as := [.int x0]) (rest := st) d_46_102 (by decide +kernel) rfl rfl (by show _ ≤ List.length _; simp only [List.length_cons]; have : na 34 = 1 := rfl; omega) rfl (Nat.le_of_ble_eq_true rfl) hc
theorem d_46_105 : decode (cd 46) 105 = .ok (.ireturn, 1) := by rw [cd_46]; decide +kernel
theorem e_46_105 {d : Nat} {h : mM} {L : mLs} {v : Int32} : ev d 46 105 L [.int v] h = some (some (.int v), h) := ev_ri d_46_105 (by decide +kernel)
theorem d_46_106 : decode (cd 46) 106 = .ok (.aload_n 0, 1) := by rw [cd_46]; decide +kernel
theorem e_46_106 {d : Nat} {h : mM} {T : mLs} {x : Nat} {st : List Value} : ev d 46 106 ( some (.ref x) :: T) st h = ev d 46 107 ( some (.ref x) :: T) (.ref x :: st) h := ev_of d_46_106 rfl
theorem d_46_107 : decode (cd 46) 107 = .ok (.iconst 1, 1) := by rw [cd_46]; decide +kernel
theorem e_46_107 {d : Nat} {h : mM} {L : mLs} {st : List Value} : ev d 46 107 L st h = ev d 46 108 L (.int 1 :: st) h := ev_of d_46_107 rfl
theorem d_46_108 : decode (cd 46) 108 = .ok (.invokevirtual 83, 3) := by rw [cd_46]; decide +kernel
theorem e_46_108 {d : Nat} {h : mM} {L : mLs} {st : List Value} {a : Nat} {x0 : Int32} (hc : mCat st ≤ 8) : ev (d + 1) 46 108 L (.int x0 :: .ref a :: st) h = if mK h a = 9 then cV (ev d 64 0 [some (.ref a), some (.int x0)] [] h) (fun v h1 => ev (d + 1) 46 111 L (v ++ st) h1) else none := ev_cv (mj := 64) (as := [.int x0]) (rest := st) d_46_108 (by decide +kernel) rfl rfl (by show _ ≤ List.length _; simp only [List.length_cons]; have : na 64 = 1 := rfl; omega) rfl (Nat.le_of_ble_eq_true rfl) hc
theorem d_46_111 : decode (cd 46) 111 = .ok (.ireturn, 1) := by rw [cd_46]; decide +kernel
theorem e_46_111 {d : Nat} {h : mM} {L : mLs} {v : Int32} : ev d 46 111 L [.int v] h = some (some (.int v), h) := ev_ri d_46_111 (by decide +kernel)
-- 47: TideMill.mill
theorem cd_47 : cd 47 = prog_1_method_11_code := rfl
theorem d_47_0 : decode (cd 47) 0 = .ok (.iload_n 1, 1) := by rw [cd_47]; decide +kernel
theorem e_47_0 {d : Nat} {h : mM} {o0 : Option Value} {T : mLs} {x : Int32} {st : List Value} : ev d 47 0 (o0 :: some (.int x) :: T) st h = ev d 47 1 (o0 :: some (.int x) :: T) (.int x :: st) h := ev_of d_47_0 rfl
theorem d_47_1 : decode (cd 47) 1 = .ok (.invokestatic 150, 3) := by rw [cd_47]; decide +kernel
theorem e_47_1 {d : Nat} {h : mM} {L : mLs} {st : List Value} {x0 : Int32} (hc : mCat st ≤ 8) : ev (d + 1) 47 1 L (.int x0 :: st) h = cV (ev d 67 0 [some (.int x0)] [] h) (fun v h1 => ev (d + 1) 47 4 L (v ++ st) h1) := ev_cs (kd := 1) (mj := 67) (as := [.int x0]) (rest := st) d_47_1 (by decide +kernel) (by decide) rfl rfl (by show _ ≤ List.length _; simp only [List.length_cons]; have : na 67 = 1 := rfl; omega) rfl (Nat.le_of_ble_eq_true rfl) hc
theorem d_47_4 : decode (cd 47) 4 = .ok (.ifCond .eq 42, 3) := by rw [cd_47]; decide +kernel
theorem e_47_4 {d : Nat} {h : mM} {L : mLs} {st : List Value} {x : Int32} : ev d 47 4 L (.int x :: st) h = if x = 0 then ev d 47 46 L st h else ev d 47 7 L st h := ev_if (x = 0) inferInstance rfl d_47_4 (by decide)
theorem d_47_7 : decode (cd 47) 7 = .ok (.aload_n 0, 1) := by rw [cd_47]; decide +kernel
theorem e_47_7 {d : Nat} {h : mM} {T : mLs} {x : Nat} {st : List Value} : ev d 47 7 ( some (.ref x) :: T) st h = ev d 47 8 ( some (.ref x) :: T) (.ref x :: st) h := ev_of d_47_7 rfl
theorem d_47_8 : decode (cd 47) 8 = .ok (.iload_n 2, 1) := by rw [cd_47]; decide +kernel
theorem e_47_8 {d : Nat} {h : mM} {o0 o1 : Option Value} {T : mLs} {x : Int32} {st : List Value} : ev d 47 8 (o0 :: o1 :: some (.int x) :: T) st h = ev d 47 9 (o0 :: o1 :: some (.int x) :: T) (.int x :: st) h := ev_of d_47_8 rfl
theorem d_47_9 : decode (cd 47) 9 = .ok (.invokevirtual 118, 3) := by rw [cd_47]; decide +kernel
theorem e_47_9 {d : Nat} {h : mM} {L : mLs} {st : List Value} {a : Nat} {x0 : Int32} (hc : mCat st ≤ 8) : ev (d + 1) 47 9 L (.int x0 :: .ref a :: st) h = if mK h a = 9 then cV (ev d 70 0 [some (.ref a), some (.int x0)] [] h) (fun v h1 => ev (d + 1) 47 12 L (v ++ st) h1) else none := ev_cv (mj := 70) (as := [.int x0]) (rest := st) d_47_9 (by decide +kernel) rfl rfl (by show _ ≤ List.length _; simp only [List.length_cons]; have : na 70 = 1 := rfl; omega) rfl (Nat.le_of_ble_eq_true rfl) hc
theorem d_47_12 : decode (cd 47) 12 = .ok (.ifCond .eq 34, 3) := by rw [cd_47]; decide +kernel
theorem e_47_12 {d : Nat} {h : mM} {L : mLs} {st : List Value} {x : Int32} : ev d 47 12 L (.int x :: st) h = if x = 0 then ev d 47 46 L st h else ev d 47 15 L st h := ev_if (x = 0) inferInstance rfl d_47_12 (by decide)
theorem d_47_15 : decode (cd 47) 15 = .ok (.iload_n 3, 1) := by rw [cd_47]; decide +kernel
theorem e_47_15 {d : Nat} {h : mM} {o0 o1 o2 : Option Value} {T : mLs} {x : Int32} {st : List Value} : ev d 47 15 (o0 :: o1 :: o2 :: some (.int x) :: T) st h = ev d 47 16 (o0 :: o1 :: o2 :: some (.int x) :: T) (.int x :: st) h := ev_of d_47_15 rfl
theorem d_47_16 : decode (cd 47) 16 = .ok (.iconst 0, 1) := by rw [cd_47]; decide +kernel
theorem e_47_16 {d : Nat} {h : mM} {L : mLs} {st : List Value} : ev d 47 16 L st h = ev d 47 17 L (.int 0 :: st) h := ev_of d_47_16 rfl
theorem d_47_17 : decode (cd 47) 17 = .ok (.bipush 9, 2) := by rw [cd_47]; decide +kernel
theorem e_47_17 {d : Nat} {h : mM} {L : mLs} {st : List Value} : ev d 47 17 L st h = ev d 47 19 L (.int 9 :: st) h := ev_of d_47_17 rfl
theorem d_47_19 : decode (cd 47) 19 = .ok (.invokestatic 79, 3) := by rw [cd_47]; decide +kernel
theorem e_47_19 {d : Nat} {h : mM} {L : mLs} {st : List Value} {x0 : Int32} {x1 : Int32} {x2 : Int32} (hc : mCat st ≤ 8) : ev (d + 1) 47 19 L (.int x2 :: .int x1 :: .int x0 :: st) h = cV (ev d 65 0 [some (.int x0), some (.int x1), some (.int x2)] [] h) (fun v h1 => ev (d + 1) 47 22 L (v ++ st) h1) := ev_cs (kd := 1) (mj := 65) (as := [.int x0, .int x1, .int x2]) (rest := st) d_47_19 (by decide +kernel) (by decide) rfl rfl (by show _ ≤ List.length _; simp only [List.length_cons]; have : na 65 = 3 := rfl; omega) rfl (Nat.le_of_ble_eq_true rfl) hc
theorem d_47_22 : decode (cd 47) 22 = .ok (.ifCond .eq 24, 3) := by rw [cd_47]; decide +kernel
theorem e_47_22 {d : Nat} {h : mM} {L : mLs} {st : List Value} {x : Int32} : ev d 47 22 L (.int x :: st) h = if x = 0 then ev d 47 46 L st h else ev d 47 25 L st h := ev_if (x = 0) inferInstance rfl d_47_22 (by decide)
theorem d_47_25 : decode (cd 47) 25 = .ok (.iload 4, 2) := by rw [cd_47]; decide +kernel
theorem e_47_25 {d : Nat} {h : mM} {o0 o1 o2 o3 : Option Value} {T : mLs} {x : Int32} {st : List Value} : ev d 47 25 (o0 :: o1 :: o2 :: o3 :: some (.int x) :: T) st h = ev d 47 27 (o0 :: o1 :: o2 :: o3 :: some (.int x) :: T) (.int x :: st) h := ev_of d_47_25 rfl
theorem d_47_27 : decode (cd 47) 27 = .ok (.iconst 0, 1) := by rw [cd_47]; decide +kernel
theorem e_47_27 {d : Nat} {h : mM} {L : mLs} {st : List Value} : ev d 47 27 L st h = ev d 47 28 L (.int 0 :: st) h := ev_of d_47_27 rfl
theorem d_47_28 : decode (cd 47) 28 = .ok (.sipush 250, 3) := by rw [cd_47]; decide +kernel
theorem e_47_28 {d : Nat} {h : mM} {L : mLs} {st : List Value} : ev d 47 28 L st h = ev d 47 31 L (.int 250 :: st) h := ev_of d_47_28 rfl
theorem d_47_31 : decode (cd 47) 31 = .ok (.invokestatic 79, 3) := by rw [cd_47]; decide +kernel
theorem e_47_31 {d : Nat} {h : mM} {L : mLs} {st : List Value} {x0 : Int32} {x1 : Int32} {x2 : Int32} (hc : mCat st ≤ 8) : ev (d + 1) 47 31 L (.int x2 :: .int x1 :: .int x0 :: st) h = cV (ev d 65 0 [some (.int x0), some (.int x1), some (.int x2)] [] h) (fun v h1 => ev (d + 1) 47 34 L (v ++ st) h1) := ev_cs (kd := 1) (mj := 65) (as := [.int x0, .int x1, .int x2]) (rest := st) d_47_31 (by decide +kernel) (by decide) rfl rfl (by show _ ≤ List.length _; simp only [List.length_cons]; have : na 65 = 3 := rfl; omega) rfl (Nat.le_of_ble_eq_true rfl) hc
theorem d_47_34 : decode (cd 47) 34 = .ok (.ifCond .eq 12, 3) := by rw [cd_47]; decide +kernel
theorem e_47_34 {d : Nat} {h : mM} {L : mLs} {st : List Value} {x : Int32} : ev d 47 34 L (.int x :: st) h = if x = 0 then ev d 47 46 L st h else ev d 47 37 L st h := ev_if (x = 0) inferInstance rfl d_47_34 (by decide)
theorem d_47_37 : decode (cd 47) 37 = .ok (.iload 5, 2) := by rw [cd_47]; decide +kernel
theorem e_47_37 {d : Nat} {h : mM} {o0 o1 o2 o3 o4 : Option Value} {T : mLs} {x : Int32} {st : List Value} : ev d 47 37 (o0 :: o1 :: o2 :: o3 :: o4 :: some (.int x) :: T) st h = ev d 47 39 (o0 :: o1 :: o2 :: o3 :: o4 :: some (.int x) :: T) (.int x :: st) h := ev_of d_47_37 rfl
theorem d_47_39 : decode (cd 47) 39 = .ok (.iload_n 1, 1) := by rw [cd_47]; decide +kernel
theorem e_47_39 {d : Nat} {h : mM} {o0 : Option Value} {T : mLs} {x : Int32} {st : List Value} : ev d 47 39 (o0 :: some (.int x) :: T) st h = ev d 47 40 (o0 :: some (.int x) :: T) (.int x :: st) h := ev_of d_47_39 rfl
theorem d_47_40 : decode (cd 47) 40 = .ok (.invokestatic 153, 3) := by rw [cd_47]; decide +kernel
theorem e_47_40 {d : Nat} {h : mM} {L : mLs} {st : List Value} {x0 : Int32} {x1 : Int32} (hc : mCat st ≤ 8) : ev (d + 1) 47 40 L (.int x1 :: .int x0 :: st) h = cV (ev d 69 0 [some (.int x0), some (.int x1)] [] h) (fun v h1 => ev (d + 1) 47 43 L (v ++ st) h1) := ev_cs (kd := 1) (mj := 69) (as := [.int x0, .int x1]) (rest := st) d_47_40 (by decide +kernel) (by decide) rfl rfl (by show _ ≤ List.length _; simp only [List.length_cons]; have : na 69 = 2 := rfl; omega) rfl (Nat.le_of_ble_eq_true rfl) hc
theorem d_47_43 : decode (cd 47) 43 = .ok (.ifCond .ne 9, 3) := by rw [cd_47]; decide +kernel
theorem e_47_43 {d : Nat} {h : mM} {L : mLs} {st : List Value} {x : Int32} : ev d 47 43 L (.int x :: st) h = if ¬ x = 0 then ev d 47 52 L st h else ev d 47 46 L st h := ev_if (¬ x = 0) inferInstance rfl d_47_43 (by decide)
theorem d_47_46 : decode (cd 47) 46 = .ok (.aload_n 0, 1) := by rw [cd_47]; decide +kernel
theorem e_47_46 {d : Nat} {h : mM} {T : mLs} {x : Nat} {st : List Value} : ev d 47 46 ( some (.ref x) :: T) st h = ev d 47 47 ( some (.ref x) :: T) (.ref x :: st) h := ev_of d_47_46 rfl
theorem d_47_47 : decode (cd 47) 47 = .ok (.iconst 1, 1) := by rw [cd_47]; decide +kernel
theorem e_47_47 {d : Nat} {h : mM} {L : mLs} {st : List Value} : ev d 47 47 L st h = ev d 47 48 L (.int 1 :: st) h := ev_of d_47_47 rfl
theorem d_47_48 : decode (cd 47) 48 = .ok (.invokevirtual 83, 3) := by rw [cd_47]; decide +kernel
theorem e_47_48 {d : Nat} {h : mM} {L : mLs} {st : List Value} {a : Nat} {x0 : Int32} (hc : mCat st ≤ 8) : ev (d + 1) 47 48 L (.int x0 :: .ref a :: st) h = if mK h a = 9 then cV (ev d 64 0 [some (.ref a), some (.int x0)] [] h) (fun v h1 => ev (d + 1) 47 51 L (v ++ st) h1) else none := ev_cv (mj := 64) (as := [.int x0]) (rest := st) d_47_48 (by decide +kernel) rfl rfl (by show _ ≤ List.length _; simp only [List.length_cons]; have : na 64 = 1 := rfl; omega) rfl (Nat.le_of_ble_eq_true rfl) hc
theorem d_47_51 : decode (cd 47) 51 = .ok (.ireturn, 1) := by rw [cd_47]; decide +kernel
theorem e_47_51 {d : Nat} {h : mM} {L : mLs} {v : Int32} : ev d 47 51 L [.int v] h = some (some (.int v), h) := ev_ri d_47_51 (by decide +kernel)
theorem d_47_52 : decode (cd 47) 52 = .ok (.aload_n 0, 1) := by rw [cd_47]; decide +kernel
theorem e_47_52 {d : Nat} {h : mM} {T : mLs} {x : Nat} {st : List Value} : ev d 47 52 ( some (.ref x) :: T) st h = ev d 47 53 ( some (.ref x) :: T) (.ref x :: st) h := ev_of d_47_52 rfl
theorem d_47_53 : decode (cd 47) 53 = .ok (.getfield 19, 3) := by rw [cd_47]; decide +kernel
theorem e_47_53 {d : Nat} {h : mM} {L : mLs} {st : List Value} {a : Nat} : ev d 47 53 L (.ref a :: st) h = if mK h a = 9 then oB (mR h a 1) (fun b => ev d 47 56 L (.ref b :: st) h) else none := ev_gR d_47_53 (by decide +kernel) (by decide +kernel)
theorem d_47_56 : decode (cd 47) 56 = .ok (.getfield 157, 3) := by rw [cd_47]; decide +kernel
theorem e_47_56 {d : Nat} {h : mM} {L : mLs} {st : List Value} {a : Nat} : ev d 47 56 L (.ref a :: st) h = if mK h a = 8 then ev d 47 59 L (.int (mI h a 6) :: st) h else none := ev_gI d_47_56 (by decide +kernel) (by decide +kernel)
theorem d_47_59 : decode (cd 47) 59 = .ok (.iconst 4, 1) := by rw [cd_47]; decide +kernel
theorem e_47_59 {d : Nat} {h : mM} {L : mLs} {st : List Value} : ev d 47 59 L st h = ev d 47 60 L (.int 4 :: st) h := ev_of d_47_59 rfl
theorem d_47_60 : decode (cd 47) 60 = .ok (.if_icmp .lt 9, 3) := by rw [cd_47]; decide +kernel
theorem e_47_60 {d : Nat} {h : mM} {L : mLs} {st : List Value} {x y : Int32} : ev d 47 60 L (.int y :: .int x :: st) h = if x < y then ev d 47 69 L st h else ev d 47 63 L st h := ev_ic (x < y) inferInstance rfl d_47_60 (by decide)
theorem d_47_63 : decode (cd 47) 63 = .ok (.aload_n 0, 1) := by rw [cd_47]; decide +kernel
theorem e_47_63 {d : Nat} {h : mM} {T : mLs} {x : Nat} {st : List Value} : ev d 47 63 ( some (.ref x) :: T) st h = ev d 47 64 ( some (.ref x) :: T) (.ref x :: st) h := ev_of d_47_63 rfl
theorem d_47_64 : decode (cd 47) 64 = .ok (.iconst 4, 1) := by rw [cd_47]; decide +kernel
theorem e_47_64 {d : Nat} {h : mM} {L : mLs} {st : List Value} : ev d 47 64 L st h = ev d 47 65 L (.int 4 :: st) h := ev_of d_47_64 rfl
theorem d_47_65 : decode (cd 47) 65 = .ok (.invokevirtual 83, 3) := by rw [cd_47]; decide +kernel
theorem e_47_65 {d : Nat} {h : mM} {L : mLs} {st : List Value} {a : Nat} {x0 : Int32} (hc : mCat st ≤ 8) : ev (d + 1) 47 65 L (.int x0 :: .ref a :: st) h = if mK h a = 9 then cV (ev d 64 0 [some (.ref a), some (.int x0)] [] h) (fun v h1 => ev (d + 1) 47 68 L (v ++ st) h1) else none := ev_cv (mj := 64) (as := [.int x0]) (rest := st) d_47_65 (by decide +kernel) rfl rfl (by show _ ≤ List.length _; simp only [List.length_cons]; have : na 64 = 1 := rfl; omega) rfl (Nat.le_of_ble_eq_true rfl) hc
theorem d_47_68 : decode (cd 47) 68 = .ok (.ireturn, 1) := by rw [cd_47]; decide +kernel
theorem e_47_68 {d : Nat} {h : mM} {L : mLs} {v : Int32} : ev d 47 68 L [.int v] h = some (some (.int v), h) := ev_ri d_47_68 (by decide +kernel)
theorem d_47_69 : decode (cd 47) 69 = .ok (.aload_n 0, 1) := by rw [cd_47]; decide +kernel
theorem e_47_69 {d : Nat} {h : mM} {T : mLs} {x : Nat} {st : List Value} : ev d 47 69 ( some (.ref x) :: T) st h = ev d 47 70 ( some (.ref x) :: T) (.ref x :: st) h := ev_of d_47_69 rfl
theorem d_47_70 : decode (cd 47) 70 = .ok (.getfield 19, 3) := by rw [cd_47]; decide +kernel
theorem e_47_70 {d : Nat} {h : mM} {L : mLs} {st : List Value} {a : Nat} : ev d 47 70 L (.ref a :: st) h = if mK h a = 9 then oB (mR h a 1) (fun b => ev d 47 73 L (.ref b :: st) h) else none := ev_gR d_47_70 (by decide +kernel) (by decide +kernel)
theorem d_47_73 : decode (cd 47) 73 = .ok (.getfield 157, 3) := by rw [cd_47]; decide +kernel
theorem e_47_73 {d : Nat} {h : mM} {L : mLs} {st : List Value} {a : Nat} : ev d 47 73 L (.ref a :: st) h = if mK h a = 8 then ev d 47 76 L (.int (mI h a 6) :: st) h else none := ev_gI d_47_73 (by decide +kernel) (by decide +kernel)
theorem d_47_76 : decode (cd 47) 76 = .ok (.istore 6, 2) := by rw [cd_47]; decide +kernel
theorem e_47_76 {d : Nat} {h : mM} {o0 o1 o2 o3 o4 o5 o6 : Option Value} {T : mLs} {x : Int32} {st : List Value} (hl : mLong o5 = false) : ev d 47 76 (o0 :: o1 :: o2 :: o3 :: o4 :: o5 :: o6 :: T) (.int x :: st) h = ev d 47 78 (o0 :: o1 :: o2 :: o3 :: o4 :: o5 :: some (.int x) :: T) st h := ev_st_i d_47_76 (by decide +kernel) (mS1_s (j := 5) hl)
theorem d_47_78 : decode (cd 47) 78 = .ok (.aload_n 0, 1) := by rw [cd_47]; decide +kernel
theorem e_47_78 {d : Nat} {h : mM} {T : mLs} {x : Nat} {st : List Value} : ev d 47 78 ( some (.ref x) :: T) st h = ev d 47 79 ( some (.ref x) :: T) (.ref x :: st) h := ev_of d_47_78 rfl
theorem d_47_79 : decode (cd 47) 79 = .ok (.getfield 19, 3) := by rw [cd_47]; decide +kernel
theorem e_47_79 {d : Nat} {h : mM} {L : mLs} {st : List Value} {a : Nat} : ev d 47 79 L (.ref a :: st) h = if mK h a = 9 then oB (mR h a 1) (fun b => ev d 47 82 L (.ref b :: st) h) else none := ev_gR d_47_79 (by decide +kernel) (by decide +kernel)
theorem d_47_82 : decode (cd 47) 82 = .ok (.getfield 160, 3) := by rw [cd_47]; decide +kernel
theorem e_47_82 {d : Nat} {h : mM} {L : mLs} {st : List Value} {a : Nat} : ev d 47 82 L (.ref a :: st) h = if mK h a = 8 then oB (mR h a 2) (fun b => ev d 47 85 L (.ref b :: st) h) else none := ev_gR d_47_82 (by decide +kernel) (by decide +kernel)
theorem d_47_85 : decode (cd 47) 85 = .ok (.iload 6, 2) := by rw [cd_47]; decide +kernel
theorem e_47_85 {d : Nat} {h : mM} {o0 o1 o2 o3 o4 o5 : Option Value} {T : mLs} {x : Int32} {st : List Value} : ev d 47 85 (o0 :: o1 :: o2 :: o3 :: o4 :: o5 :: some (.int x) :: T) st h = ev d 47 87 (o0 :: o1 :: o2 :: o3 :: o4 :: o5 :: some (.int x) :: T) (.int x :: st) h := ev_of d_47_85 rfl
theorem d_47_87 : decode (cd 47) 87 = .ok (.aaload, 1) := by rw [cd_47]; decide +kernel
theorem e_47_87 {d : Nat} {h : mM} {L : mLs} {st : List Value} {a : Nat} {i : Int32} : ev d 47 87 L (.int i :: .ref a :: st) h = if (12 < mK h a ∧ mK h a < 19) ∧ ixOK i (mL h a) = true then oB (mR h a i.toNatClampNeg) (fun b => ev d 47 88 L (.ref b :: st) h) else none := ev_aa d_47_87
theorem d_47_88 : decode (cd 47) 88 = .ok (.astore 7, 2) := by rw [cd_47]; decide +kernel
theorem e_47_88 {d : Nat} {h : mM} {o0 o1 o2 o3 o4 o5 o6 o7 : Option Value} {T : mLs} {x : Nat} {st : List Value} (hl : mLong o6 = false) : ev d 47 88 (o0 :: o1 :: o2 :: o3 :: o4 :: o5 :: o6 :: o7 :: T) (.ref x :: st) h = ev d 47 90 (o0 :: o1 :: o2 :: o3 :: o4 :: o5 :: o6 :: some (.ref x) :: T) st h := ev_st_r d_47_88 (by decide +kernel) (mS1_s (j := 6) hl)
theorem d_47_90 : decode (cd 47) 90 = .ok (.aload 7, 2) := by rw [cd_47]; decide +kernel
theorem e_47_90 {d : Nat} {h : mM} {o0 o1 o2 o3 o4 o5 o6 : Option Value} {T : mLs} {x : Nat} {st : List Value} : ev d 47 90 (o0 :: o1 :: o2 :: o3 :: o4 :: o5 :: o6 :: some (.ref x) :: T) st h = ev d 47 92 (o0 :: o1 :: o2 :: o3 :: o4 :: o5 :: o6 :: some (.ref x) :: T) (.ref x :: st) h := ev_of d_47_90 rfl
theorem d_47_92 : decode (cd 47) 92 = .ok (.iload_n 1, 1) := by rw [cd_47]; decide +kernel
theorem e_47_92 {d : Nat} {h : mM} {o0 : Option Value} {T : mLs} {x : Int32} {st : List Value} : ev d 47 92 (o0 :: some (.int x) :: T) st h = ev d 47 93 (o0 :: some (.int x) :: T) (.int x :: st) h := ev_of d_47_92 rfl
theorem d_47_93 : decode (cd 47) 93 = .ok (.putfield 164, 3) := by rw [cd_47]; decide +kernel
theorem e_47_93 {d : Nat} {h : mM} {L : mLs} {st : List Value} {a : Nat} {v : Int32} : ev d 47 93 L (.int v :: .ref a :: st) h = if mK h a = 2 then ev d 47 96 L st (wI h a 2 v) else none := ev_pI d_47_93 (by decide +kernel) (by decide +kernel) (by decide +kernel)
theorem d_47_96 : decode (cd 47) 96 = .ok (.aload 7, 2) := by rw [cd_47]; decide +kernel
theorem e_47_96 {d : Nat} {h : mM} {o0 o1 o2 o3 o4 o5 o6 : Option Value} {T : mLs} {x : Nat} {st : List Value} : ev d 47 96 (o0 :: o1 :: o2 :: o3 :: o4 :: o5 :: o6 :: some (.ref x) :: T) st h = ev d 47 98 (o0 :: o1 :: o2 :: o3 :: o4 :: o5 :: o6 :: some (.ref x) :: T) (.ref x :: st) h := ev_of d_47_96 rfl
theorem d_47_98 : decode (cd 47) 98 = .ok (.iload_n 2, 1) := by rw [cd_47]; decide +kernel
theorem e_47_98 {d : Nat} {h : mM} {o0 o1 : Option Value} {T : mLs} {x : Int32} {st : List Value} : ev d 47 98 (o0 :: o1 :: some (.int x) :: T) st h = ev d 47 99 (o0 :: o1 :: some (.int x) :: T) (.int x :: st) h := ev_of d_47_98 rfl
theorem d_47_99 : decode (cd 47) 99 = .ok (.putfield 169, 3) := by rw [cd_47]; decide +kernel
theorem e_47_99 {d : Nat} {h : mM} {L : mLs} {st : List Value} {a : Nat} {v : Int32} : ev d 47 99 L (.int v :: .ref a :: st) h = if mK h a = 2 then ev d 47 102 L st (wI h a 3 v) else none := ev_pI d_47_99 (by decide +kernel) (by decide +kernel) (by decide +kernel)
theorem d_47_102 : decode (cd 47) 102 = .ok (.aload 7, 2) := by rw [cd_47]; decide +kernel
theorem e_47_102 {d : Nat} {h : mM} {o0 o1 o2 o3 o4 o5 o6 : Option Value} {T : mLs} {x : Nat} {st : List Value} : ev d 47 102 (o0 :: o1 :: o2 :: o3 :: o4 :: o5 :: o6 :: some (.ref x) :: T) st h = ev d 47 104 (o0 :: o1 :: o2 :: o3 :: o4 :: o5 :: o6 :: some (.ref x) :: T) (.ref x :: st) h := ev_of d_47_102 rfl
theorem d_47_104 : decode (cd 47) 104 = .ok (.iload_n 3, 1) := by rw [cd_47]; decide +kernel
theorem e_47_104 {d : Nat} {h : mM} {o0 o1 o2 : Option Value} {T : mLs} {x : Int32} {st : List Value} : ev d 47 104 (o0 :: o1 :: o2 :: some (.int x) :: T) st h = ev d 47 105 (o0 :: o1 :: o2 :: some (.int x) :: T) (.int x :: st) h := ev_of d_47_104 rfl
theorem d_47_105 : decode (cd 47) 105 = .ok (.putfield 172, 3) := by rw [cd_47]; decide +kernel
theorem e_47_105 {d : Nat} {h : mM} {L : mLs} {st : List Value} {a : Nat} {v : Int32} : ev d 47 105 L (.int v :: .ref a :: st) h = if mK h a = 2 then ev d 47 108 L st (wI h a 4 v) else none := ev_pI d_47_105 (by decide +kernel) (by decide +kernel) (by decide +kernel)
theorem d_47_108 : decode (cd 47) 108 = .ok (.aload 7, 2) := by rw [cd_47]; decide +kernel
theorem e_47_108 {d : Nat} {h : mM} {o0 o1 o2 o3 o4 o5 o6 : Option Value} {T : mLs} {x : Nat} {st : List Value} : ev d 47 108 (o0 :: o1 :: o2 :: o3 :: o4 :: o5 :: o6 :: some (.ref x) :: T) st h = ev d 47 110 (o0 :: o1 :: o2 :: o3 :: o4 :: o5 :: o6 :: some (.ref x) :: T) (.ref x :: st) h := ev_of d_47_108 rfl
theorem d_47_110 : decode (cd 47) 110 = .ok (.iload 4, 2) := by rw [cd_47]; decide +kernel
theorem e_47_110 {d : Nat} {h : mM} {o0 o1 o2 o3 : Option Value} {T : mLs} {x : Int32} {st : List Value} : ev d 47 110 (o0 :: o1 :: o2 :: o3 :: some (.int x) :: T) st h = ev d 47 112 (o0 :: o1 :: o2 :: o3 :: some (.int x) :: T) (.int x :: st) h := ev_of d_47_110 rfl
theorem d_47_112 : decode (cd 47) 112 = .ok (.putfield 175, 3) := by rw [cd_47]; decide +kernel
theorem e_47_112 {d : Nat} {h : mM} {L : mLs} {st : List Value} {a : Nat} {v : Int32} : ev d 47 112 L (.int v :: .ref a :: st) h = if mK h a = 2 then ev d 47 115 L st (wI h a 5 v) else none := ev_pI d_47_112 (by decide +kernel) (by decide +kernel) (by decide +kernel)
theorem d_47_115 : decode (cd 47) 115 = .ok (.aload 7, 2) := by rw [cd_47]; decide +kernel
theorem e_47_115 {d : Nat} {h : mM} {o0 o1 o2 o3 o4 o5 o6 : Option Value} {T : mLs} {x : Nat} {st : List Value} : ev d 47 115 (o0 :: o1 :: o2 :: o3 :: o4 :: o5 :: o6 :: some (.ref x) :: T) st h = ev d 47 117 (o0 :: o1 :: o2 :: o3 :: o4 :: o5 :: o6 :: some (.ref x) :: T) (.ref x :: st) h := ev_of d_47_115 rfl
theorem d_47_117 : decode (cd 47) 117 = .ok (.iload 5, 2) := by rw [cd_47]; decide +kernel
theorem e_47_117 {d : Nat} {h : mM} {o0 o1 o2 o3 o4 : Option Value} {T : mLs} {x : Int32} {st : List Value} : ev d 47 117 (o0 :: o1 :: o2 :: o3 :: o4 :: some (.int x) :: T) st h = ev d 47 119 (o0 :: o1 :: o2 :: o3 :: o4 :: some (.int x) :: T) (.int x :: st) h := ev_of d_47_117 rfl
theorem d_47_119 : decode (cd 47) 119 = .ok (.putfield 178, 3) := by rw [cd_47]; decide +kernel
theorem e_47_119 {d : Nat} {h : mM} {L : mLs} {st : List Value} {a : Nat} {v : Int32} : ev d 47 119 L (.int v :: .ref a :: st) h = if mK h a = 2 then ev d 47 122 L st (wI h a 6 v) else none := ev_pI d_47_119 (by decide +kernel) (by decide +kernel) (by decide +kernel)
theorem d_47_122 : decode (cd 47) 122 = .ok (.aload_n 0, 1) := by rw [cd_47]; decide +kernel
theorem e_47_122 {d : Nat} {h : mM} {T : mLs} {x : Nat} {st : List Value} : ev d 47 122 ( some (.ref x) :: T) st h = ev d 47 123 ( some (.ref x) :: T) (.ref x :: st) h := ev_of d_47_122 rfl
theorem d_47_123 : decode (cd 47) 123 = .ok (.getfield 19, 3) := by rw [cd_47]; decide +kernel
theorem e_47_123 {d : Nat} {h : mM} {L : mLs} {st : List Value} {a : Nat} : ev d 47 123 L (.ref a :: st) h = if mK h a = 9 then oB (mR h a 1) (fun b => ev d 47 126 L (.ref b :: st) h) else none := ev_gR d_47_123 (by decide +kernel) (by decide +kernel)
theorem d_47_126 : decode (cd 47) 126 = .ok (.iload 6, 2) := by rw [cd_47]; decide +kernel
theorem e_47_126 {d : Nat} {h : mM} {o0 o1 o2 o3 o4 o5 : Option Value} {T : mLs} {x : Int32} {st : List Value} : ev d 47 126 (o0 :: o1 :: o2 :: o3 :: o4 :: o5 :: some (.int x) :: T) st h = ev d 47 128 (o0 :: o1 :: o2 :: o3 :: o4 :: o5 :: some (.int x) :: T) (.int x :: st) h := ev_of d_47_126 rfl
theorem d_47_128 : decode (cd 47) 128 = .ok (.iconst 1, 1) := by rw [cd_47]; decide +kernel
theorem e_47_128 {d : Nat} {h : mM} {L : mLs} {st : List Value} : ev d 47 128 L st h = ev d 47 129 L (.int 1 :: st) h := ev_of d_47_128 rfl
theorem d_47_129 : decode (cd 47) 129 = .ok (.iadd, 1) := by rw [cd_47]; decide +kernel
theorem e_47_129 {d : Nat} {h : mM} {L : mLs} {st : List Value} {x y : Int32} : ev d 47 129 L (.int y :: .int x :: st) h = ev d 47 130 L (.int (x + y) :: st) h := ev_of d_47_129 rfl
theorem d_47_130 : decode (cd 47) 130 = .ok (.putfield 157, 3) := by rw [cd_47]; decide +kernel
theorem e_47_130 {d : Nat} {h : mM} {L : mLs} {st : List Value} {a : Nat} {v : Int32} : ev d 47 130 L (.int v :: .ref a :: st) h = if mK h a = 8 then ev d 47 133 L st (wI h a 6 v) else none := ev_pI d_47_130 (by decide +kernel) (by decide +kernel) (by decide +kernel)
theorem d_47_133 : decode (cd 47) 133 = .ok (.aload_n 0, 1) := by rw [cd_47]; decide +kernel
theorem e_47_133 {d : Nat} {h : mM} {T : mLs} {x : Nat} {st : List Value} : ev d 47 133 ( some (.ref x) :: T) st h = ev d 47 134 ( some (.ref x) :: T) (.ref x :: st) h := ev_of d_47_133 rfl
theorem d_47_134 : decode (cd 47) 134 = .ok (.getfield 19, 3) := by rw [cd_47]; decide +kernel
theorem e_47_134 {d : Nat} {h : mM} {L : mLs} {st : List Value} {a : Nat} : ev d 47 134 L (.ref a :: st) h = if mK h a = 9 then oB (mR h a 1) (fun b => ev d 47 137 L (.ref b :: st) h) else none := ev_gR d_47_134 (by decide +kernel) (by decide +kernel)
theorem d_47_137 : decode (cd 47) 137 = .ok (.iload 6, 2) := by rw [cd_47]; decide +kernel
theorem e_47_137 {d : Nat} {h : mM} {o0 o1 o2 o3 o4 o5 : Option Value} {T : mLs} {x : Int32} {st : List Value} : ev d 47 137 (o0 :: o1 :: o2 :: o3 :: o4 :: o5 :: some (.int x) :: T) st h = ev d 47 139 (o0 :: o1 :: o2 :: o3 :: o4 :: o5 :: some (.int x) :: T) (.int x :: st) h := ev_of d_47_137 rfl
theorem d_47_139 : decode (cd 47) 139 = .ok (.invokevirtual 181, 3) := by rw [cd_47]; decide +kernel
theorem e_47_139 {d : Nat} {h : mM} {L : mLs} {st : List Value} {a : Nat} {x0 : Int32} (hc : mCat st ≤ 8) : ev (d + 1) 47 139 L (.int x0 :: .ref a :: st) h = if mK h a = 8 then cV (ev d 33 0 [some (.ref a), some (.int x0), none] [] h) (fun v h1 => ev (d + 1) 47 142 L (v ++ st) h1) else none := ev_cv (mj := 33) (as := [.int x0]) (rest := st) d_47_139 (by decide +kernel) rfl rfl (by show _ ≤ List.length _; simp only [List.length_cons]; have : na 33 = 1 := rfl; omega) rfl (Nat.le_of_ble_eq_true rfl) hc
theorem d_47_142 : decode (cd 47) 142 = .ok (.iload 6, 2) := by rw [cd_47]; decide +kernel
theorem e_47_142 {d : Nat} {h : mM} {o0 o1 o2 o3 o4 o5 : Option Value} {T : mLs} {x : Int32} {st : List Value} : ev d 47 142 (o0 :: o1 :: o2 :: o3 :: o4 :: o5 :: some (.int x) :: T) st h = ev d 47 144 (o0 :: o1 :: o2 :: o3 :: o4 :: o5 :: some (.int x) :: T) (.int x :: st) h := ev_of d_47_142 rfl
theorem d_47_144 : decode (cd 47) 144 = .ok (.ireturn, 1) := by rw [cd_47]; decide +kernel
theorem e_47_144 {d : Nat} {h : mM} {L : mLs} {v : Int32} : ev d 47 144 L [.int v] h = some (some (.int v), h) := ev_ri d_47_144 (by decide +kernel)
-- 48: TideMill.as
theorem cd_48 : cd 48 = prog_1_method_12_code := rfl
theorem d_48_0 : decode (cd 48) 0 = .ok (.aload_n 0, 1) := by rw [cd_48]; decide +kernel
theorem e_48_0 {d : Nat} {h : mM} {T : mLs} {x : Nat} {st : List Value} : ev d 48 0 ( some (.ref x) :: T) st h = ev d 48 1 ( some (.ref x) :: T) (.ref x :: st) h := ev_of d_48_0 rfl
theorem d_48_1 : decode (cd 48) 1 = .ok (.iload_n 1, 1) := by rw [cd_48]; decide +kernel
theorem e_48_1 {d : Nat} {h : mM} {o0 : Option Value} {T : mLs} {x : Int32} {st : List Value} : ev d 48 1 (o0 :: some (.int x) :: T) st h = ev d 48 2 (o0 :: some (.int x) :: T) (.int x :: st) h := ev_of d_48_1 rfl
theorem d_48_2 : decode (cd 48) 2 = .ok (.invokevirtual 185, 3) := by rw [cd_48]; decide +kernel
theorem e_48_2 {d : Nat} {h : mM} {L : mLs} {st : List Value} {a : Nat} {x0 : Int32} (hc : mCat st ≤ 8) : ev (d + 1) 48 2 L (.int x0 :: .ref a :: st) h = if mK h a = 9 then cV (ev d 71 0 [some (.ref a), some (.int x0)] [] h) (fun v h1 => ev (d + 1) 48 5 L (v ++ st) h1) else none := ev_cv (mj := 71) (as := [.int x0]) (rest := st) d_48_2 (by decide +kernel) rfl rfl (by show _ ≤ List.length _; simp only [List.length_cons]; have : na 71 = 1 := rfl; omega) rfl (Nat.le_of_ble_eq_true rfl) hc
theorem d_48_5 : decode (cd 48) 5 = .ok (.ifCond .eq 10, 3) := by rw [cd_48]; decide +kernel
theorem e_48_5 {d : Nat} {h : mM} {L : mLs} {st : List Value} {x : Int32} : ev d 48 5 L (.int x :: st) h = if x = 0 then ev d 48 15 L st h else ev d 48 8 L st h := ev_if (x = 0) inferInstance rfl d_48_5 (by decide)
theorem d_48_8 : decode (cd 48) 8 = .ok (.iload_n 2, 1) := by rw [cd_48]; decide +kernel
theorem e_48_8 {d : Nat} {h : mM} {o0 o1 : Option Value} {T : mLs} {x : Int32} {st : List Value} : ev d 48 8 (o0 :: o1 :: some (.int x) :: T) st h = ev d 48 9 (o0 :: o1 :: some (.int x) :: T) (.int x :: st) h := ev_of d_48_8 rfl
theorem d_48_9 : decode (cd 48) 9 = .ok (.invokestatic 150, 3) := by rw [cd_48]; decide +kernel
theorem e_48_9 {d : Nat} {h : mM} {L : mLs} {st : List Value} {x0 : Int32} (hc : mCat st ≤ 8) : ev (d + 1) 48 9 L (.int x0 :: st) h = cV (ev d 67 0 [some (.int x0)] [] h) (fun v h1 => ev (d + 1) 48 12 L (v ++ st) h1) := ev_cs (kd := 1) (mj := 67) (as := [.int x0]) (rest := st) d_48_9 (by decide +kernel) (by decide) rfl rfl (by show _ ≤ List.length _; simp only [List.length_cons]; have : na 67 = 1 := rfl; omega) rfl (Nat.le_of_ble_eq_true rfl) hc
theorem d_48_12 : decode (cd 48) 12 = .ok (.ifCond .ne 9, 3) := by rw [cd_48]; decide +kernel
theorem e_48_12 {d : Nat} {h : mM} {L : mLs} {st : List Value} {x : Int32} : ev d 48 12 L (.int x :: st) h = if ¬ x = 0 then ev d 48 21 L st h else ev d 48 15 L st h := ev_if (¬ x = 0) inferInstance rfl d_48_12 (by decide)
theorem d_48_15 : decode (cd 48) 15 = .ok (.aload_n 0, 1) := by rw [cd_48]; decide +kernel
theorem e_48_15 {d : Nat} {h : mM} {T : mLs} {x : Nat} {st : List Value} : ev d 48 15 ( some (.ref x) :: T) st h = ev d 48 16 ( some (.ref x) :: T) (.ref x :: st) h := ev_of d_48_15 rfl
theorem d_48_16 : decode (cd 48) 16 = .ok (.iconst 1, 1) := by rw [cd_48]; decide +kernel
theorem e_48_16 {d : Nat} {h : mM} {L : mLs} {st : List Value} : ev d 48 16 L st h = ev d 48 17 L (.int 1 :: st) h := ev_of d_48_16 rfl
theorem d_48_17 : decode (cd 48) 17 = .ok (.invokevirtual 83, 3) := by rw [cd_48]; decide +kernel
theorem e_48_17 {d : Nat} {h : mM} {L : mLs} {st : List Value} {a : Nat} {x0 : Int32} (hc : mCat st ≤ 8) : ev (d + 1) 48 17 L (.int x0 :: .ref a :: st) h = if mK h a = 9 then cV (ev d 64 0 [some (.ref a), some (.int x0)] [] h) (fun v h1 => ev (d + 1) 48 20 L (v ++ st) h1) else none := ev_cv (mj := 64) (as := [.int x0]) (rest := st) d_48_17 (by decide +kernel) rfl rfl (by show _ ≤ List.length _; simp only [List.length_cons]; have : na 64 = 1 := rfl; omega) rfl (Nat.le_of_ble_eq_true rfl) hc
theorem d_48_20 : decode (cd 48) 20 = .ok (.ireturn, 1) := by rw [cd_48]; decide +kernel
theorem e_48_20 {d : Nat} {h : mM} {L : mLs} {v : Int32} : ev d 48 20 L [.int v] h = some (some (.int v), h) := ev_ri d_48_20 (by decide +kernel)
theorem d_48_21 : decode (cd 48) 21 = .ok (.aload_n 0, 1) := by rw [cd_48]; decide +kernel
theorem e_48_21 {d : Nat} {h : mM} {T : mLs} {x : Nat} {st : List Value} : ev d 48 21 ( some (.ref x) :: T) st h = ev d 48 22 ( some (.ref x) :: T) (.ref x :: st) h := ev_of d_48_21 rfl
theorem d_48_22 : decode (cd 48) 22 = .ok (.getfield 19, 3) := by rw [cd_48]; decide +kernel
theorem e_48_22 {d : Nat} {h : mM} {L : mLs} {st : List Value} {a : Nat} : ev d 48 22 L (.ref a :: st) h = if mK h a = 9 then oB (mR h a 1) (fun b => ev d 48 25 L (.ref b :: st) h) else none := ev_gR d_48_22 (by decide +kernel) (by decide +kernel)
theorem d_48_25 : decode (cd 48) 25 = .ok (.getfield 160, 3) := by rw [cd_48]; decide +kernel
theorem e_48_25 {d : Nat} {h : mM} {L : mLs} {st : List Value} {a : Nat} : ev d 48 25 L (.ref a :: st) h = if mK h a = 8 then oB (mR h a 2) (fun b => ev d 48 28 L (.ref b :: st) h) else none := ev_gR d_48_25 (by decide +kernel) (by decide +kernel)
theorem d_48_28 : decode (cd 48) 28 = .ok (.iload_n 1, 1) := by rw [cd_48]; decide +kernel
theorem e_48_28 {d : Nat} {h : mM} {o0 : Option Value} {T : mLs} {x : Int32} {st : List Value} : ev d 48 28 (o0 :: some (.int x) :: T) st h = ev d 48 29 (o0 :: some (.int x) :: T) (.int x :: st) h := ev_of d_48_28 rfl
theorem d_48_29 : decode (cd 48) 29 = .ok (.aaload, 1) := by rw [cd_48]; decide +kernel
theorem e_48_29 {d : Nat} {h : mM} {L : mLs} {st : List Value} {a : Nat} {i : Int32} : ev d 48 29 L (.int i :: .ref a :: st) h = if (12 < mK h a ∧ mK h a < 19) ∧ ixOK i (mL h a) = true then oB (mR h a i.toNatClampNeg) (fun b => ev d 48 30 L (.ref b :: st) h) else none := ev_aa d_48_29
theorem d_48_30 : decode (cd 48) 30 = .ok (.iload_n 2, 1) := by rw [cd_48]; decide +kernel
theorem e_48_30 {d : Nat} {h : mM} {o0 o1 : Option Value} {T : mLs} {x : Int32} {st : List Value} : ev d 48 30 (o0 :: o1 :: some (.int x) :: T) st h = ev d 48 31 (o0 :: o1 :: some (.int x) :: T) (.int x :: st) h := ev_of d_48_30 rfl
theorem d_48_31 : decode (cd 48) 31 = .ok (.invokevirtual 188, 3) := by rw [cd_48]; decide +kernel
theorem e_48_31 {d : Nat} {h : mM} {L : mLs} {st : List Value} {a : Nat} {x0 : Int32} (hc : mCat st ≤ 8) : ev (d + 1) 48 31 L (.int x0 :: .ref a :: st) h = if mK h a = 2 then cV (ev d 12 0 [some (.ref a), some (.int x0)] [] h) (fun v h1 => ev (d + 1) 48 34 L (v ++ st) h1) else none := ev_cv (mj := 12) (as := [.int x0]) (rest := st) d_48_31 (by decide +kernel) rfl rfl (by show _ ≤ List.length _; simp only [List.length_cons]; have : na 12 = 1 := rfl; omega) rfl (Nat.le_of_ble_eq_true rfl) hc
theorem d_48_34 : decode (cd 48) 34 = .ok (.ifCond .eq 18, 3) := by rw [cd_48]; decide +kernel
theorem e_48_34 {d : Nat} {h : mM} {L : mLs} {st : List Value} {x : Int32} : ev d 48 34 L (.int x :: st) h = if x = 0 then ev d 48 52 L st h else ev d 48 37 L st h := ev_if (x = 0) inferInstance rfl d_48_34 (by decide)
theorem d_48_37 : decode (cd 48) 37 = .ok (.aload_n 0, 1) := by rw [cd_48]; decide +kernel
theorem e_48_37 {d : Nat} {h : mM} {T : mLs} {x : Nat} {st : List Value} : ev d 48 37 ( some (.ref x) :: T) st h = ev d 48 38 ( some (.ref x) :: T) (.ref x :: st) h := ev_of d_48_37 rfl
theorem d_48_38 : decode (cd 48) 38 = .ok (.getfield 19, 3) := by rw [cd_48]; decide +kernel
theorem e_48_38 {d : Nat} {h : mM} {L : mLs} {st : List Value} {a : Nat} : ev d 48 38 L (.ref a :: st) h = if mK h a = 9 then oB (mR h a 1) (fun b => ev d 48 41 L (.ref b :: st) h) else none := ev_gR d_48_38 (by decide +kernel) (by decide +kernel)
theorem d_48_41 : decode (cd 48) 41 = .ok (.getfield 160, 3) := by rw [cd_48]; decide +kernel
theorem e_48_41 {d : Nat} {h : mM} {L : mLs} {st : List Value} {a : Nat} : ev d 48 41 L (.ref a :: st) h = if mK h a = 8 then oB (mR h a 2) (fun b => ev d 48 44 L (.ref b :: st) h) else none := ev_gR d_48_41 (by decide +kernel) (by decide +kernel)
theorem d_48_44 : decode (cd 48) 44 = .ok (.iload_n 1, 1) := by rw [cd_48]; decide +kernel
theorem e_48_44 {d : Nat} {h : mM} {o0 : Option Value} {T : mLs} {x : Int32} {st : List Value} : ev d 48 44 (o0 :: some (.int x) :: T) st h = ev d 48 45 (o0 :: some (.int x) :: T) (.int x :: st) h := ev_of d_48_44 rfl
theorem d_48_45 : decode (cd 48) 45 = .ok (.aaload, 1) := by rw [cd_48]; decide +kernel
theorem e_48_45 {d : Nat} {h : mM} {L : mLs} {st : List Value} {a : Nat} {i : Int32} : ev d 48 45 L (.int i :: .ref a :: st) h = if (12 < mK h a ∧ mK h a < 19) ∧ ixOK i (mL h a) = true then oB (mR h a i.toNatClampNeg) (fun b => ev d 48 46 L (.ref b :: st) h) else none := ev_aa d_48_45
theorem d_48_46 : decode (cd 48) 46 = .ok (.getfield 172, 3) := by rw [cd_48]; decide +kernel
theorem e_48_46 {d : Nat} {h : mM} {L : mLs} {st : List Value} {a : Nat} : ev d 48 46 L (.ref a :: st) h = if mK h a = 2 then ev d 48 49 L (.int (mI h a 4) :: st) h else none := ev_gI d_48_46 (by decide +kernel) (by decide +kernel)
theorem d_48_49 : decode (cd 48) 49 = .ok (.goto 8, 3) := by rw [cd_48]; decide +kernel
theorem e_48_49 {d : Nat} {h : mM} {L : mLs} {st : List Value} : ev d 48 49 L st h = ev d 48 57 L st h := ev_go d_48_49 (by decide)
theorem d_48_52 : decode (cd 48) 52 = .ok (.aload_n 0, 1) := by rw [cd_48]; decide +kernel
theorem e_48_52 {d : Nat} {h : mM} {T : mLs} {x : Nat} {st : List Value} : ev d 48 52 ( some (.ref x) :: T) st h = ev d 48 53 ( some (.ref x) :: T) (.ref x :: st) h := ev_of d_48_52 rfl
theorem d_48_53 : decode (cd 48) 53 = .ok (.iconst 5, 1) := by rw [cd_48]; decide +kernel
theorem e_48_53 {d : Nat} {h : mM} {L : mLs} {st : List Value} : ev d 48 53 L st h = ev d 48 54 L (.int 5 :: st) h := ev_of d_48_53 rfl
theorem d_48_54 : decode (cd 48) 54 = .ok (.invokevirtual 83, 3) := by rw [cd_48]; decide +kernel
theorem e_48_54 {d : Nat} {h : mM} {L : mLs} {st : List Value} {a : Nat} {x0 : Int32} (hc : mCat st ≤ 8) : ev (d + 1) 48 54 L (.int x0 :: .ref a :: st) h = if mK h a = 9 then cV (ev d 64 0 [some (.ref a), some (.int x0)] [] h) (fun v h1 => ev (d + 1) 48 57 L (v ++ st) h1) else none := ev_cv (mj := 64) (as := [.int x0]) (rest := st) d_48_54 (by decide +kernel) rfl rfl (by show _ ≤ List.length _; simp only [List.length_cons]; have : na 64 = 1 := rfl; omega) rfl (Nat.le_of_ble_eq_true rfl) hc
theorem d_48_57 : decode (cd 48) 57 = .ok (.ireturn, 1) := by rw [cd_48]; decide +kernel
theorem e_48_57 {d : Nat} {h : mM} {L : mLs} {v : Int32} : ev d 48 57 L [.int v] h = some (some (.int v), h) := ev_ri d_48_57 (by decide +kernel)
-- 49: TideMill.stone
theorem cd_49 : cd 49 = prog_1_method_13_code := rfl
theorem d_49_0 : decode (cd 49) 0 = .ok (.aload_n 0, 1) := by rw [cd_49]; decide +kernel
theorem e_49_0 {d : Nat} {h : mM} {T : mLs} {x : Nat} {st : List Value} : ev d 49 0 ( some (.ref x) :: T) st h = ev d 49 1 ( some (.ref x) :: T) (.ref x :: st) h := ev_of d_49_0 rfl
theorem d_49_1 : decode (cd 49) 1 = .ok (.iload_n 1, 1) := by rw [cd_49]; decide +kernel
theorem e_49_1 {d : Nat} {h : mM} {o0 : Option Value} {T : mLs} {x : Int32} {st : List Value} : ev d 49 1 (o0 :: some (.int x) :: T) st h = ev d 49 2 (o0 :: some (.int x) :: T) (.int x :: st) h := ev_of d_49_1 rfl
theorem d_49_2 : decode (cd 49) 2 = .ok (.invokevirtual 185, 3) := by rw [cd_49]; decide +kernel
theorem e_49_2 {d : Nat} {h : mM} {L : mLs} {st : List Value} {a : Nat} {x0 : Int32} (hc : mCat st ≤ 8) : ev (d + 1) 49 2 L (.int x0 :: .ref a :: st) h = if mK h a = 9 then cV (ev d 71 0 [some (.ref a), some (.int x0)] [] h) (fun v h1 => ev (d + 1) 49 5 L (v ++ st) h1) else none := ev_cv (mj := 71) (as := [.int x0]) (rest := st) d_49_2 (by decide +kernel) rfl rfl (by show _ ≤ List.length _; simp only [List.length_cons]; have : na 71 = 1 := rfl; omega) rfl (Nat.le_of_ble_eq_true rfl) hc
theorem d_49_5 : decode (cd 49) 5 = .ok (.ifCond .eq 48, 3) := by rw [cd_49]; decide +kernel
theorem e_49_5 {d : Nat} {h : mM} {L : mLs} {st : List Value} {x : Int32} : ev d 49 5 L (.int x :: st) h = if x = 0 then ev d 49 53 L st h else ev d 49 8 L st h := ev_if (x = 0) inferInstance rfl d_49_5 (by decide)
theorem d_49_8 : decode (cd 49) 8 = .ok (.iload_n 2, 1) := by rw [cd_49]; decide +kernel
theorem e_49_8 {d : Nat} {h : mM} {o0 o1 : Option Value} {T : mLs} {x : Int32} {st : List Value} : ev d 49 8 (o0 :: o1 :: some (.int x) :: T) st h = ev d 49 9 (o0 :: o1 :: some (.int x) :: T) (.int x :: st) h := ev_of d_49_8 rfl
theorem d_49_9 : decode (cd 49) 9 = .ok (.iconst 1, 1) := by rw [cd_49]; decide +kernel
theorem e_49_9 {d : Nat} {h : mM} {L : mLs} {st : List Value} : ev d 49 9 L st h = ev d 49 10 L (.int 1 :: st) h := ev_of d_49_9 rfl
theorem d_49_10 : decode (cd 49) 10 = .ok (.sipush 200, 3) := by rw [cd_49]; decide +kernel
theorem e_49_10 {d : Nat} {h : mM} {L : mLs} {st : List Value} : ev d 49 10 L st h = ev d 49 13 L (.int 200 :: st) h := ev_of d_49_10 rfl
theorem d_49_13 : decode (cd 49) 13 = .ok (.invokestatic 79, 3) := by rw [cd_49]; decide +kernel
theorem e_49_13 {d : Nat} {h : mM} {L : mLs} {st : List Value} {x0 : Int32} {x1 : Int32} {x2 : Int32} (hc : mCat st ≤ 8) : ev (d + 1) 49 13 L (.int x2 :: .int x1 :: .int x0 :: st) h = cV (ev d 65 0 [some (.int x0), some (.int x1), some (.int x2)] [] h) (fun v h1 => ev (d + 1) 49 16 L (v ++ st) h1) := ev_cs (kd := 1) (mj := 65) (as := [.int x0, .int x1, .int x2]) (rest := st) d_49_13 (by decide +kernel) (by decide) rfl rfl (by show _ ≤ List.length _; simp only [List.length_cons]; have : na 65 = 3 := rfl; omega) rfl (Nat.le_of_ble_eq_true rfl) hc
theorem d_49_16 : decode (cd 49) 16 = .ok (.ifCond .eq 37, 3) := by rw [cd_49]; decide +kernel
theorem e_49_16 {d : Nat} {h : mM} {L : mLs} {st : List Value} {x : Int32} : ev d 49 16 L (.int x :: st) h = if x = 0 then ev d 49 53 L st h else ev d 49 19 L st h := ev_if (x = 0) inferInstance rfl d_49_16 (by decide)
theorem d_49_19 : decode (cd 49) 19 = .ok (.iload_n 3, 1) := by rw [cd_49]; decide +kernel
theorem e_49_19 {d : Nat} {h : mM} {o0 o1 o2 : Option Value} {T : mLs} {x : Int32} {st : List Value} : ev d 49 19 (o0 :: o1 :: o2 :: some (.int x) :: T) st h = ev d 49 20 (o0 :: o1 :: o2 :: some (.int x) :: T) (.int x :: st) h := ev_of d_49_19 rfl
theorem d_49_20 : decode (cd 49) 20 = .ok (.iconst 1, 1) := by rw [cd_49]; decide +kernel
theorem e_49_20 {d : Nat} {h : mM} {L : mLs} {st : List Value} : ev d 49 20 L st h = ev d 49 21 L (.int 1 :: st) h := ev_of d_49_20 rfl
theorem d_49_21 : decode (cd 49) 21 = .ok (.sipush 1000, 3) := by rw [cd_49]; decide +kernel
theorem e_49_21 {d : Nat} {h : mM} {L : mLs} {st : List Value} : ev d 49 21 L st h = ev d 49 24 L (.int 1000 :: st) h := ev_of d_49_21 rfl
theorem d_49_24 : decode (cd 49) 24 = .ok (.invokestatic 79, 3) := by rw [cd_49]; decide +kernel
theorem e_49_24 {d : Nat} {h : mM} {L : mLs} {st : List Value} {x0 : Int32} {x1 : Int32} {x2 : Int32} (hc : mCat st ≤ 8) : ev (d + 1) 49 24 L (.int x2 :: .int x1 :: .int x0 :: st) h = cV (ev d 65 0 [some (.int x0), some (.int x1), some (.int x2)] [] h) (fun v h1 => ev (d + 1) 49 27 L (v ++ st) h1) := ev_cs (kd := 1) (mj := 65) (as := [.int x0, .int x1, .int x2]) (rest := st) d_49_24 (by decide +kernel) (by decide) rfl rfl (by show _ ≤ List.length _; simp only [List.length_cons]; have : na 65 = 3 := rfl; omega) rfl (Nat.le_of_ble_eq_true rfl) hc
theorem d_49_27 : decode (cd 49) 27 = .ok (.ifCond .eq 26, 3) := by rw [cd_49]; decide +kernel
theorem e_49_27 {d : Nat} {h : mM} {L : mLs} {st : List Value} {x : Int32} : ev d 49 27 L (.int x :: st) h = if x = 0 then ev d 49 53 L st h else ev d 49 30 L st h := ev_if (x = 0) inferInstance rfl d_49_27 (by decide)
theorem d_49_30 : decode (cd 49) 30 = .ok (.iload 4, 2) := by rw [cd_49]; decide +kernel
theorem e_49_30 {d : Nat} {h : mM} {o0 o1 o2 o3 : Option Value} {T : mLs} {x : Int32} {st : List Value} : ev d 49 30 (o0 :: o1 :: o2 :: o3 :: some (.int x) :: T) st h = ev d 49 32 (o0 :: o1 :: o2 :: o3 :: some (.int x) :: T) (.int x :: st) h := ev_of d_49_30 rfl
theorem d_49_32 : decode (cd 49) 32 = .ok (.iconst 1, 1) := by rw [cd_49]; decide +kernel
theorem e_49_32 {d : Nat} {h : mM} {L : mLs} {st : List Value} : ev d 49 32 L st h = ev d 49 33 L (.int 1 :: st) h := ev_of d_49_32 rfl
theorem d_49_33 : decode (cd 49) 33 = .ok (.bipush 20, 2) := by rw [cd_49]; decide +kernel
theorem e_49_33 {d : Nat} {h : mM} {L : mLs} {st : List Value} : ev d 49 33 L st h = ev d 49 35 L (.int 20 :: st) h := ev_of d_49_33 rfl
theorem d_49_35 : decode (cd 49) 35 = .ok (.invokestatic 79, 3) := by rw [cd_49]; decide +kernel
theorem e_49_35 {d : Nat} {h : mM} {L : mLs} {st : List Value} {x0 : Int32} {x1 : Int32} {x2 : Int32} (hc : mCat st ≤ 8) : ev (d + 1) 49 35 L (.int x2 :: .int x1 :: .int x0 :: st) h = cV (ev d 65 0 [some (.int x0), some (.int x1), some (.int x2)] [] h) (fun v h1 => ev (d + 1) 49 38 L (v ++ st) h1) := ev_cs (kd := 1) (mj := 65) (as := [.int x0, .int x1, .int x2]) (rest := st) d_49_35 (by decide +kernel) (by decide) rfl rfl (by show _ ≤ List.length _; simp only [List.length_cons]; have : na 65 = 3 := rfl; omega) rfl (Nat.le_of_ble_eq_true rfl) hc
theorem d_49_38 : decode (cd 49) 38 = .ok (.ifCond .eq 15, 3) := by rw [cd_49]; decide +kernel
theorem e_49_38 {d : Nat} {h : mM} {L : mLs} {st : List Value} {x : Int32} : ev d 49 38 L (.int x :: st) h = if x = 0 then ev d 49 53 L st h else ev d 49 41 L st h := ev_if (x = 0) inferInstance rfl d_49_38 (by decide)
theorem d_49_41 : decode (cd 49) 41 = .ok (.iload 5, 2) := by rw [cd_49]; decide +kernel
theorem e_49_41 {d : Nat} {h : mM} {o0 o1 o2 o3 o4 : Option Value} {T : mLs} {x : Int32} {st : List Value} : ev d 49 41 (o0 :: o1 :: o2 :: o3 :: o4 :: some (.int x) :: T) st h = ev d 49 43 (o0 :: o1 :: o2 :: o3 :: o4 :: some (.int x) :: T) (.int x :: st) h := ev_of d_49_41 rfl
theorem d_49_43 : decode (cd 49) 43 = .ok (.iconst 1, 1) := by rw [cd_49]; decide +kernel
theorem e_49_43 {d : Nat} {h : mM} {L : mLs} {st : List Value} : ev d 49 43 L st h = ev d 49 44 L (.int 1 :: st) h := ev_of d_49_43 rfl
theorem d_49_44 : decode (cd 49) 44 = .ok (.sipush 1000, 3) := by rw [cd_49]; decide +kernel
theorem e_49_44 {d : Nat} {h : mM} {L : mLs} {st : List Value} : ev d 49 44 L st h = ev d 49 47 L (.int 1000 :: st) h := ev_of d_49_44 rfl
theorem d_49_47 : decode (cd 49) 47 = .ok (.invokestatic 79, 3) := by rw [cd_49]; decide +kernel
theorem e_49_47 {d : Nat} {h : mM} {L : mLs} {st : List Value} {x0 : Int32} {x1 : Int32} {x2 : Int32} (hc : mCat st ≤ 8) : ev (d + 1) 49 47 L (.int x2 :: .int x1 :: .int x0 :: st) h = cV (ev d 65 0 [some (.int x0), some (.int x1), some (.int x2)] [] h) (fun v h1 => ev (d + 1) 49 50 L (v ++ st) h1) := ev_cs (kd := 1) (mj := 65) (as := [.int x0, .int x1, .int x2]) (rest := st) d_49_47 (by decide +kernel) (by decide) rfl rfl (by show _ ≤ List.length _; simp only [List.length_cons]; have : na 65 = 3 := rfl; omega) rfl (Nat.le_of_ble_eq_true rfl) hc
theorem d_49_50 : decode (cd 49) 50 = .ok (.ifCond .ne 9, 3) := by rw [cd_49]; decide +kernel
theorem e_49_50 {d : Nat} {h : mM} {L : mLs} {st : List Value} {x : Int32} : ev d 49 50 L (.int x :: st) h = if ¬ x = 0 then ev d 49 59 L st h else ev d 49 53 L st h := ev_if (¬ x = 0) inferInstance rfl d_49_50 (by decide)
theorem d_49_53 : decode (cd 49) 53 = .ok (.aload_n 0, 1) := by rw [cd_49]; decide +kernel
theorem e_49_53 {d : Nat} {h : mM} {T : mLs} {x : Nat} {st : List Value} : ev d 49 53 ( some (.ref x) :: T) st h = ev d 49 54 ( some (.ref x) :: T) (.ref x :: st) h := ev_of d_49_53 rfl
theorem d_49_54 : decode (cd 49) 54 = .ok (.iconst 1, 1) := by rw [cd_49]; decide +kernel
theorem e_49_54 {d : Nat} {h : mM} {L : mLs} {st : List Value} : ev d 49 54 L st h = ev d 49 55 L (.int 1 :: st) h := ev_of d_49_54 rfl
theorem d_49_55 : decode (cd 49) 55 = .ok (.invokevirtual 83, 3) := by rw [cd_49]; decide +kernel
theorem e_49_55 {d : Nat} {h : mM} {L : mLs} {st : List Value} {a : Nat} {x0 : Int32} (hc : mCat st ≤ 8) : ev (d + 1) 49 55 L (.int x0 :: .ref a :: st) h = if mK h a = 9 then cV (ev d 64 0 [some (.ref a), some (.int x0)] [] h) (fun v h1 => ev (d + 1) 49 58 L (v ++ st) h1) else none := ev_cv (mj := 64) (as := [.int x0]) (rest := st) d_49_55 (by decide +kernel) rfl rfl (by show _ ≤ List.length _; simp only [List.length_cons]; have : na 64 = 1 := rfl; omega) rfl (Nat.le_of_ble_eq_true rfl) hc
theorem d_49_58 : decode (cd 49) 58 = .ok (.ireturn, 1) := by rw [cd_49]; decide +kernel
theorem e_49_58 {d : Nat} {h : mM} {L : mLs} {v : Int32} : ev d 49 58 L [.int v] h = some (some (.int v), h) := ev_ri d_49_58 (by decide +kernel)
theorem d_49_59 : decode (cd 49) 59 = .ok (.aload_n 0, 1) := by rw [cd_49]; decide +kernel
theorem e_49_59 {d : Nat} {h : mM} {T : mLs} {x : Nat} {st : List Value} : ev d 49 59 ( some (.ref x) :: T) st h = ev d 49 60 ( some (.ref x) :: T) (.ref x :: st) h := ev_of d_49_59 rfl
theorem d_49_60 : decode (cd 49) 60 = .ok (.getfield 19, 3) := by rw [cd_49]; decide +kernel
theorem e_49_60 {d : Nat} {h : mM} {L : mLs} {st : List Value} {a : Nat} : ev d 49 60 L (.ref a :: st) h = if mK h a = 9 then oB (mR h a 1) (fun b => ev d 49 63 L (.ref b :: st) h) else none := ev_gR d_49_60 (by decide +kernel) (by decide +kernel)
theorem d_49_63 : decode (cd 49) 63 = .ok (.getfield 160, 3) := by rw [cd_49]; decide +kernel
theorem e_49_63 {d : Nat} {h : mM} {L : mLs} {st : List Value} {a : Nat} : ev d 49 63 L (.ref a :: st) h = if mK h a = 8 then oB (mR h a 2) (fun b => ev d 49 66 L (.ref b :: st) h) else none := ev_gR d_49_63 (by decide +kernel) (by decide +kernel)
theorem d_49_66 : decode (cd 49) 66 = .ok (.iload_n 1, 1) := by rw [cd_49]; decide +kernel
theorem e_49_66 {d : Nat} {h : mM} {o0 : Option Value} {T : mLs} {x : Int32} {st : List Value} : ev d 49 66 (o0 :: some (.int x) :: T) st h = ev d 49 67 (o0 :: some (.int x) :: T) (.int x :: st) h := ev_of d_49_66 rfl
theorem d_49_67 : decode (cd 49) 67 = .ok (.aaload, 1) := by rw [cd_49]; decide +kernel
theorem e_49_67 {d : Nat} {h : mM} {L : mLs} {st : List Value} {a : Nat} {i : Int32} : ev d 49 67 L (.int i :: .ref a :: st) h = if (12 < mK h a ∧ mK h a < 19) ∧ ixOK i (mL h a) = true then oB (mR h a i.toNatClampNeg) (fun b => ev d 49 68 L (.ref b :: st) h) else none := ev_aa d_49_67
theorem d_49_68 : decode (cd 49) 68 = .ok (.astore 6, 2) := by rw [cd_49]; decide +kernel
theorem e_49_68 {d : Nat} {h : mM} {o0 o1 o2 o3 o4 o5 o6 : Option Value} {T : mLs} {x : Nat} {st : List Value} (hl : mLong o5 = false) : ev d 49 68 (o0 :: o1 :: o2 :: o3 :: o4 :: o5 :: o6 :: T) (.ref x :: st) h = ev d 49 70 (o0 :: o1 :: o2 :: o3 :: o4 :: o5 :: some (.ref x) :: T) st h := ev_st_r d_49_68 (by decide +kernel) (mS1_s (j := 5) hl)
theorem d_49_70 : decode (cd 49) 70 = .ok (.aload 6, 2) := by rw [cd_49]; decide +kernel
theorem e_49_70 {d : Nat} {h : mM} {o0 o1 o2 o3 o4 o5 : Option Value} {T : mLs} {x : Nat} {st : List Value} : ev d 49 70 (o0 :: o1 :: o2 :: o3 :: o4 :: o5 :: some (.ref x) :: T) st h = ev d 49 72 (o0 :: o1 :: o2 :: o3 :: o4 :: o5 :: some (.ref x) :: T) (.ref x :: st) h := ev_of d_49_70 rfl
theorem d_49_72 : decode (cd 49) 72 = .ok (.getfield 191, 3) := by rw [cd_49]; decide +kernel
theorem e_49_72 {d : Nat} {h : mM} {L : mLs} {st : List Value} {a : Nat} : ev d 49 72 L (.ref a :: st) h = if mK h a = 2 then ev d 49 75 L (.int (mI h a 7) :: st) h else none := ev_gI d_49_72 (by decide +kernel) (by decide +kernel)
theorem d_49_75 : decode (cd 49) 75 = .ok (.iconst 3, 1) := by rw [cd_49]; decide +kernel
theorem e_49_75 {d : Nat} {h : mM} {L : mLs} {st : List Value} : ev d 49 75 L st h = ev d 49 76 L (.int 3 :: st) h := ev_of d_49_75 rfl
theorem d_49_76 : decode (cd 49) 76 = .ok (.if_icmp .lt 9, 3) := by rw [cd_49]; decide +kernel
theorem e_49_76 {d : Nat} {h : mM} {L : mLs} {st : List Value} {x y : Int32} : ev d 49 76 L (.int y :: .int x :: st) h = if x < y then ev d 49 85 L st h else ev d 49 79 L st h := ev_ic (x < y) inferInstance rfl d_49_76 (by decide)
theorem d_49_79 : decode (cd 49) 79 = .ok (.aload_n 0, 1) := by rw [cd_49]; decide +kernel
theorem e_49_79 {d : Nat} {h : mM} {T : mLs} {x : Nat} {st : List Value} : ev d 49 79 ( some (.ref x) :: T) st h = ev d 49 80 ( some (.ref x) :: T) (.ref x :: st) h := ev_of d_49_79 rfl
theorem d_49_80 : decode (cd 49) 80 = .ok (.iconst 4, 1) := by rw [cd_49]; decide +kernel
theorem e_49_80 {d : Nat} {h : mM} {L : mLs} {st : List Value} : ev d 49 80 L st h = ev d 49 81 L (.int 4 :: st) h := ev_of d_49_80 rfl
theorem d_49_81 : decode (cd 49) 81 = .ok (.invokevirtual 83, 3) := by rw [cd_49]; decide +kernel
theorem e_49_81 {d : Nat} {h : mM} {L : mLs} {st : List Value} {a : Nat} {x0 : Int32} (hc : mCat st ≤ 8) : ev (d + 1) 49 81 L (.int x0 :: .ref a :: st) h = if mK h a = 9 then cV (ev d 64 0 [some (.ref a), some (.int x0)] [] h) (fun v h1 => ev (d + 1) 49 84 L (v ++ st) h1) else none := ev_cv (mj := 64) (as := [.int x0]) (rest := st) d_49_81 (by decide +kernel) rfl rfl (by show _ ≤ List.length _; simp only [List.length_cons]; have : na 64 = 1 := rfl; omega) rfl (Nat.le_of_ble_eq_true rfl) hc
theorem d_49_84 : decode (cd 49) 84 = .ok (.ireturn, 1) := by rw [cd_49]; decide +kernel
theorem e_49_84 {d : Nat} {h : mM} {L : mLs} {v : Int32} : ev d 49 84 L [.int v] h = some (some (.int v), h) := ev_ri d_49_84 (by decide +kernel)
theorem d_49_85 : decode (cd 49) 85 = .ok (.aload 6, 2) := by rw [cd_49]; decide +kernel
theorem e_49_85 {d : Nat} {h : mM} {o0 o1 o2 o3 o4 o5 : Option Value} {T : mLs} {x : Nat} {st : List Value} : ev d 49 85 (o0 :: o1 :: o2 :: o3 :: o4 :: o5 :: some (.ref x) :: T) st h = ev d 49 87 (o0 :: o1 :: o2 :: o3 :: o4 :: o5 :: some (.ref x) :: T) (.ref x :: st) h := ev_of d_49_85 rfl
theorem d_49_87 : decode (cd 49) 87 = .ok (.getfield 191, 3) := by rw [cd_49]; decide +kernel
theorem e_49_87 {d : Nat} {h : mM} {L : mLs} {st : List Value} {a : Nat} : ev d 49 87 L (.ref a :: st) h = if mK h a = 2 then ev d 49 90 L (.int (mI h a 7) :: st) h else none := ev_gI d_49_87 (by decide +kernel) (by decide +kernel)
theorem d_49_90 : decode (cd 49) 90 = .ok (.istore 7, 2) := by rw [cd_49]; decide +kernel
theorem e_49_90 {d : Nat} {h : mM} {o0 o1 o2 o3 o4 o5 o6 o7 : Option Value} {T : mLs} {x : Int32} {st : List Value} (hl : mLong o6 = false) : ev d 49 90 (o0 :: o1 :: o2 :: o3 :: o4 :: o5 :: o6 :: o7 :: T) (.int x :: st) h = ev d 49 92 (o0 :: o1 :: o2 :: o3 :: o4 :: o5 :: o6 :: some (.int x) :: T) st h := ev_st_i d_49_90 (by decide +kernel) (mS1_s (j := 6) hl)
theorem d_49_92 : decode (cd 49) 92 = .ok (.aload 6, 2) := by rw [cd_49]; decide +kernel
theorem e_49_92 {d : Nat} {h : mM} {o0 o1 o2 o3 o4 o5 : Option Value} {T : mLs} {x : Nat} {st : List Value} : ev d 49 92 (o0 :: o1 :: o2 :: o3 :: o4 :: o5 :: some (.ref x) :: T) st h = ev d 49 94 (o0 :: o1 :: o2 :: o3 :: o4 :: o5 :: some (.ref x) :: T) (.ref x :: st) h := ev_of d_49_92 rfl
theorem d_49_94 : decode (cd 49) 94 = .ok (.getfield 194, 3) := by rw [cd_49]; decide +kernel
theorem e_49_94 {d : Nat} {h : mM} {L : mLs} {st : List Value} {a : Nat} : ev d 49 94 L (.ref a :: st) h = if mK h a = 2 then oB (mR h a 0) (fun b => ev d 49 97 L (.ref b :: st) h) else none := ev_gR d_49_94 (by decide +kernel) (by decide +kernel)
theorem d_49_97 : decode (cd 49) 97 = .ok (.iload 7, 2) := by rw [cd_49]; decide +kernel
theorem e_49_97 {d : Nat} {h : mM} {o0 o1 o2 o3 o4 o5 o6 : Option Value} {T : mLs} {x : Int32} {st : List Value} : ev d 49 97 (o0 :: o1 :: o2 :: o3 :: o4 :: o5 :: o6 :: some (.int x) :: T) st h = ev d 49 99 (o0 :: o1 :: o2 :: o3 :: o4 :: o5 :: o6 :: some (.int x) :: T) (.int x :: st) h := ev_of d_49_97 rfl
theorem d_49_99 : decode (cd 49) 99 = .ok (.aaload, 1) := by rw [cd_49]; decide +kernel
theorem e_49_99 {d : Nat} {h : mM} {L : mLs} {st : List Value} {a : Nat} {i : Int32} : ev d 49 99 L (.int i :: .ref a :: st) h = if (12 < mK h a ∧ mK h a < 19) ∧ ixOK i (mL h a) = true then oB (mR h a i.toNatClampNeg) (fun b => ev d 49 100 L (.ref b :: st) h) else none := ev_aa d_49_99
theorem d_49_100 : decode (cd 49) 100 = .ok (.astore 8, 2) := by rw [cd_49]; decide +kernel
theorem e_49_100 {d : Nat} {h : mM} {o0 o1 o2 o3 o4 o5 o6 o7 o8 : Option Value} {T : mLs} {x : Nat} {st : List Value} (hl : mLong o7 = false) : ev d 49 100 (o0 :: o1 :: o2 :: o3 :: o4 :: o5 :: o6 :: o7 :: o8 :: T) (.ref x :: st) h = ev d 49 102 (o0 :: o1 :: o2 :: o3 :: o4 :: o5 :: o6 :: o7 :: some (.ref x) :: T) st h := ev_st_r d_49_100 (by decide +kernel) (mS1_s (j := 7) hl)
theorem d_49_102 : decode (cd 49) 102 = .ok (.aload 8, 2) := by rw [cd_49]; decide +kernel
theorem e_49_102 {d : Nat} {h : mM} {o0 o1 o2 o3 o4 o5 o6 o7 : Option Value} {T : mLs} {x : Nat} {st : List Value} : ev d 49 102 (o0 :: o1 :: o2 :: o3 :: o4 :: o5 :: o6 :: o7 :: some (.ref x) :: T) st h = ev d 49 104 (o0 :: o1 :: o2 :: o3 :: o4 :: o5 :: o6 :: o7 :: some (.ref x) :: T) (.ref x :: st) h := ev_of d_49_102 rfl
theorem d_49_104 : decode (cd 49) 104 = .ok (.iload_n 2, 1) := by rw [cd_49]; decide +kernel
theorem e_49_104 {d : Nat} {h : mM} {o0 o1 : Option Value} {T : mLs} {x : Int32} {st : List Value} : ev d 49 104 (o0 :: o1 :: some (.int x) :: T) st h = ev d 49 105 (o0 :: o1 :: some (.int x) :: T) (.int x :: st) h := ev_of d_49_104 rfl
theorem d_49_105 : decode (cd 49) 105 = .ok (.putfield 198, 3) := by rw [cd_49]; decide +kernel
theorem e_49_105 {d : Nat} {h : mM} {L : mLs} {st : List Value} {a : Nat} {v : Int32} : ev d 49 105 L (.int v :: .ref a :: st) h = if mK h a = 6 then ev d 49 108 L st (wI h a 0 v) else none := ev_pI d_49_105 (by decide +kernel) (by decide +kernel) (by decide +kernel)
theorem d_49_108 : decode (cd 49) 108 = .ok (.aload 8, 2) := by rw [cd_49]; decide +kernel
theorem e_49_108 {d : Nat} {h : mM} {o0 o1 o2 o3 o4 o5 o6 o7 : Option Value} {T : mLs} {x : Nat} {st : List Value} : ev d 49 108 (o0 :: o1 :: o2 :: o3 :: o4 :: o5 :: o6 :: o7 :: some (.ref x) :: T) st h = ev d 49 110 (o0 :: o1 :: o2 :: o3 :: o4 :: o5 :: o6 :: o7 :: some (.ref x) :: T) (.ref x :: st) h := ev_of d_49_108 rfl
theorem d_49_110 : decode (cd 49) 110 = .ok (.iload_n 3, 1) := by rw [cd_49]; decide +kernel
theorem e_49_110 {d : Nat} {h : mM} {o0 o1 o2 : Option Value} {T : mLs} {x : Int32} {st : List Value} : ev d 49 110 (o0 :: o1 :: o2 :: some (.int x) :: T) st h = ev d 49 111 (o0 :: o1 :: o2 :: some (.int x) :: T) (.int x :: st) h := ev_of d_49_110 rfl
theorem d_49_111 : decode (cd 49) 111 = .ok (.putfield 203, 3) := by rw [cd_49]; decide +kernel
theorem e_49_111 {d : Nat} {h : mM} {L : mLs} {st : List Value} {a : Nat} {v : Int32} : ev d 49 111 L (.int v :: .ref a :: st) h = if mK h a = 6 then ev d 49 114 L st (wI h a 1 v) else none := ev_pI d_49_111 (by decide +kernel) (by decide +kernel) (by decide +kernel)
theorem d_49_114 : decode (cd 49) 114 = .ok (.aload 8, 2) := by rw [cd_49]; decide +kernel
theorem e_49_114 {d : Nat} {h : mM} {o0 o1 o2 o3 o4 o5 o6 o7 : Option Value} {T : mLs} {x : Nat} {st : List Value} : ev d 49 114 (o0 :: o1 :: o2 :: o3 :: o4 :: o5 :: o6 :: o7 :: some (.ref x) :: T) st h = ev d 49 116 (o0 :: o1 :: o2 :: o3 :: o4 :: o5 :: o6 :: o7 :: some (.ref x) :: T) (.ref x :: st) h := ev_of d_49_114 rfl
theorem d_49_116 : decode (cd 49) 116 = .ok (.iload 4, 2) := by rw [cd_49]; decide +kernel
theorem e_49_116 {d : Nat} {h : mM} {o0 o1 o2 o3 : Option Value} {T : mLs} {x : Int32} {st : List Value} : ev d 49 116 (o0 :: o1 :: o2 :: o3 :: some (.int x) :: T) st h = ev d 49 118 (o0 :: o1 :: o2 :: o3 :: some (.int x) :: T) (.int x :: st) h := ev_of d_49_116 rfl
theorem d_49_118 : decode (cd 49) 118 = .ok (.putfield 206, 3) := by rw [cd_49]; decide +kernel
theorem e_49_118 {d : Nat} {h : mM} {L : mLs} {st : List Value} {a : Nat} {v : Int32} : ev d 49 118 L (.int v :: .ref a :: st) h = if mK h a = 6 then ev d 49 121 L st (wI h a 2 v) else none := ev_pI d_49_118 (by decide +kernel) (by decide +kernel) (by decide +kernel)
theorem d_49_121 : decode (cd 49) 121 = .ok (.aload 8, 2) := by rw [cd_49]; decide +kernel
theorem e_49_121 {d : Nat} {h : mM} {o0 o1 o2 o3 o4 o5 o6 o7 : Option Value} {T : mLs} {x : Nat} {st : List Value} : ev d 49 121 (o0 :: o1 :: o2 :: o3 :: o4 :: o5 :: o6 :: o7 :: some (.ref x) :: T) st h = ev d 49 123 (o0 :: o1 :: o2 :: o3 :: o4 :: o5 :: o6 :: o7 :: some (.ref x) :: T) (.ref x :: st) h := ev_of d_49_121 rfl
theorem d_49_123 : decode (cd 49) 123 = .ok (.iload 5, 2) := by rw [cd_49]; decide +kernel
theorem e_49_123 {d : Nat} {h : mM} {o0 o1 o2 o3 o4 : Option Value} {T : mLs} {x : Int32} {st : List Value} : ev d 49 123 (o0 :: o1 :: o2 :: o3 :: o4 :: some (.int x) :: T) st h = ev d 49 125 (o0 :: o1 :: o2 :: o3 :: o4 :: some (.int x) :: T) (.int x :: st) h := ev_of d_49_123 rfl
theorem d_49_125 : decode (cd 49) 125 = .ok (.putfield 209, 3) := by rw [cd_49]; decide +kernel
theorem e_49_125 {d : Nat} {h : mM} {L : mLs} {st : List Value} {a : Nat} {v : Int32} : ev d 49 125 L (.int v :: .ref a :: st) h = if mK h a = 6 then ev d 49 128 L st (wI h a 3 v) else none := ev_pI d_49_125 (by decide +kernel) (by decide +kernel) (by decide +kernel)
theorem d_49_128 : decode (cd 49) 128 = .ok (.aload 6, 2) := by rw [cd_49]; decide +kernel
theorem e_49_128 {d : Nat} {h : mM} {o0 o1 o2 o3 o4 o5 : Option Value} {T : mLs} {x : Nat} {st : List Value} : ev d 49 128 (o0 :: o1 :: o2 :: o3 :: o4 :: o5 :: some (.ref x) :: T) st h = ev d 49 130 (o0 :: o1 :: o2 :: o3 :: o4 :: o5 :: some (.ref x) :: T) (.ref x :: st) h := ev_of d_49_128 rfl
theorem d_49_130 : decode (cd 49) 130 = .ok (.iload 7, 2) := by rw [cd_49]; decide +kernel
theorem e_49_130 {d : Nat} {h : mM} {o0 o1 o2 o3 o4 o5 o6 : Option Value} {T : mLs} {x : Int32} {st : List Value} : ev d 49 130 (o0 :: o1 :: o2 :: o3 :: o4 :: o5 :: o6 :: some (.int x) :: T) st h = ev d 49 132 (o0 :: o1 :: o2 :: o3 :: o4 :: o5 :: o6 :: some (.int x) :: T) (.int x :: st) h := ev_of d_49_130 rfl
theorem d_49_132 : decode (cd 49) 132 = .ok (.iconst 1, 1) := by rw [cd_49]; decide +kernel
theorem e_49_132 {d : Nat} {h : mM} {L : mLs} {st : List Value} : ev d 49 132 L st h = ev d 49 133 L (.int 1 :: st) h := ev_of d_49_132 rfl
theorem d_49_133 : decode (cd 49) 133 = .ok (.iadd, 1) := by rw [cd_49]; decide +kernel
theorem e_49_133 {d : Nat} {h : mM} {L : mLs} {st : List Value} {x y : Int32} : ev d 49 133 L (.int y :: .int x :: st) h = ev d 49 134 L (.int (x + y) :: st) h := ev_of d_49_133 rfl
theorem d_49_134 : decode (cd 49) 134 = .ok (.putfield 191, 3) := by rw [cd_49]; decide +kernel
theorem e_49_134 {d : Nat} {h : mM} {L : mLs} {st : List Value} {a : Nat} {v : Int32} : ev d 49 134 L (.int v :: .ref a :: st) h = if mK h a = 2 then ev d 49 137 L st (wI h a 7 v) else none := ev_pI d_49_134 (by decide +kernel) (by decide +kernel) (by decide +kernel)
theorem d_49_137 : decode (cd 49) 137 = .ok (.iload 7, 2) := by rw [cd_49]; decide +kernel
theorem e_49_137 {d : Nat} {h : mM} {o0 o1 o2 o3 o4 o5 o6 : Option Value} {T : mLs} {x : Int32} {st : List Value} : ev d 49 137 (o0 :: o1 :: o2 :: o3 :: o4 :: o5 :: o6 :: some (.int x) :: T) st h = ev d 49 139 (o0 :: o1 :: o2 :: o3 :: o4 :: o5 :: o6 :: some (.int x) :: T) (.int x :: st) h := ev_of d_49_137 rfl
theorem d_49_139 : decode (cd 49) 139 = .ok (.ireturn, 1) := by rw [cd_49]; decide +kernel
theorem e_49_139 {d : Nat} {h : mM} {L : mLs} {v : Int32} : ev d 49 139 L [.int v] h = some (some (.int v), h) := ev_ri d_49_139 (by decide +kernel)
-- 50: TideMill.on
theorem cd_50 : cd 50 = prog_1_method_14_code := rfl
theorem d_50_0 : decode (cd 50) 0 = .ok (.aload_n 0, 1) := by rw [cd_50]; decide +kernel
theorem e_50_0 {d : Nat} {h : mM} {T : mLs} {x : Nat} {st : List Value} : ev d 50 0 ( some (.ref x) :: T) st h = ev d 50 1 ( some (.ref x) :: T) (.ref x :: st) h := ev_of d_50_0 rfl
theorem d_50_1 : decode (cd 50) 1 = .ok (.iload_n 1, 1) := by rw [cd_50]; decide +kernel
theorem e_50_1 {d : Nat} {h : mM} {o0 : Option Value} {T : mLs} {x : Int32} {st : List Value} : ev d 50 1 (o0 :: some (.int x) :: T) st h = ev d 50 2 (o0 :: some (.int x) :: T) (.int x :: st) h := ev_of d_50_1 rfl
theorem d_50_2 : decode (cd 50) 2 = .ok (.invokevirtual 185, 3) := by rw [cd_50]; decide +kernel
theorem e_50_2 {d : Nat} {h : mM} {L : mLs} {st : List Value} {a : Nat} {x0 : Int32} (hc : mCat st ≤ 8) : ev (d + 1) 50 2 L (.int x0 :: .ref a :: st) h = if mK h a = 9 then cV (ev d 71 0 [some (.ref a), some (.int x0)] [] h) (fun v h1 => ev (d + 1) 50 5 L (v ++ st) h1) else none := ev_cv (mj := 71) (as := [.int x0]) (rest := st) d_50_2 (by decide +kernel) rfl rfl (by show _ ≤ List.length _; simp only [List.length_cons]; have : na 71 = 1 := rfl; omega) rfl (Nat.le_of_ble_eq_true rfl) hc
theorem d_50_5 : decode (cd 50) 5 = .ok (.ifCond .eq 34, 3) := by rw [cd_50]; decide +kernel
theorem e_50_5 {d : Nat} {h : mM} {L : mLs} {st : List Value} {x : Int32} : ev d 50 5 L (.int x :: st) h = if x = 0 then ev d 50 39 L st h else ev d 50 8 L st h := ev_if (x = 0) inferInstance rfl d_50_5 (by decide)
theorem d_50_8 : decode (cd 50) 8 = .ok (.iload_n 2, 1) := by rw [cd_50]; decide +kernel
theorem e_50_8 {d : Nat} {h : mM} {o0 o1 : Option Value} {T : mLs} {x : Int32} {st : List Value} : ev d 50 8 (o0 :: o1 :: some (.int x) :: T) st h = ev d 50 9 (o0 :: o1 :: some (.int x) :: T) (.int x :: st) h := ev_of d_50_8 rfl
theorem d_50_9 : decode (cd 50) 9 = .ok (.iconst 0, 1) := by rw [cd_50]; decide +kernel
theorem e_50_9 {d : Nat} {h : mM} {L : mLs} {st : List Value} : ev d 50 9 L st h = ev d 50 10 L (.int 0 :: st) h := ev_of d_50_9 rfl
theorem d_50_10 : decode (cd 50) 10 = .ok (.aload_n 0, 1) := by rw [cd_50]; decide +kernel
theorem e_50_10 {d : Nat} {h : mM} {T : mLs} {x : Nat} {st : List Value} : ev d 50 10 ( some (.ref x) :: T) st h = ev d 50 11 ( some (.ref x) :: T) (.ref x :: st) h := ev_of d_50_10 rfl
theorem d_50_11 : decode (cd 50) 11 = .ok (.getfield 19, 3) := by rw [cd_50]; decide +kernel
theorem e_50_11 {d : Nat} {h : mM} {L : mLs} {st : List Value} {a : Nat} : ev d 50 11 L (.ref a :: st) h = if mK h a = 9 then oB (mR h a 1) (fun b => ev d 50 14 L (.ref b :: st) h) else none := ev_gR d_50_11 (by decide +kernel) (by decide +kernel)
theorem d_50_14 : decode (cd 50) 14 = .ok (.getfield 160, 3) := by rw [cd_50]; decide +kernel
theorem e_50_14 {d : Nat} {h : mM} {L : mLs} {st : List Value} {a : Nat} : ev d 50 14 L (.ref a :: st) h = if mK h a = 8 then oB (mR h a 2) (fun b => ev d 50 17 L (.ref b :: st) h) else none := ev_gR d_50_14 (by decide +kernel) (by decide +kernel)
theorem d_50_17 : decode (cd 50) 17 = .ok (.iload_n 1, 1) := by rw [cd_50]; decide +kernel
theorem e_50_17 {d : Nat} {h : mM} {o0 : Option Value} {T : mLs} {x : Int32} {st : List Value} : ev d 50 17 (o0 :: some (.int x) :: T) st h = ev d 50 18 (o0 :: some (.int x) :: T) (.int x :: st) h := ev_of d_50_17 rfl
theorem d_50_18 : decode (cd 50) 18 = .ok (.aaload, 1) := by rw [cd_50]; decide +kernel
theorem e_50_18 {d : Nat} {h : mM} {L : mLs} {st : List Value} {a : Nat} {i : Int32} : ev d 50 18 L (.int i :: .ref a :: st) h = if (12 < mK h a ∧ mK h a < 19) ∧ ixOK i (mL h a) = true then oB (mR h a i.toNatClampNeg) (fun b => ev d 50 19 L (.ref b :: st) h) else none := ev_aa d_50_18
theorem d_50_19 : decode (cd 50) 19 = .ok (.getfield 191, 3) := by rw [cd_50]; decide +kernel
theorem e_50_19 {d : Nat} {h : mM} {L : mLs} {st : List Value} {a : Nat} : ev d 50 19 L (.ref a :: st) h = if mK h a = 2 then ev d 50 22 L (.int (mI h a 7) :: st) h else none := ev_gI d_50_19 (by decide +kernel) (by decide +kernel)
theorem d_50_22 : decode (cd 50) 22 = .ok (.iconst 1, 1) := by rw [cd_50]; decide +kernel
theorem e_50_22 {d : Nat} {h : mM} {L : mLs} {st : List Value} : ev d 50 22 L st h = ev d 50 23 L (.int 1 :: st) h := ev_of d_50_22 rfl
theorem d_50_23 : decode (cd 50) 23 = .ok (.isub, 1) := by rw [cd_50]; decide +kernel
theorem e_50_23 {d : Nat} {h : mM} {L : mLs} {st : List Value} {x y : Int32} : ev d 50 23 L (.int y :: .int x :: st) h = ev d 50 24 L (.int (x - y) :: st) h := ev_of d_50_23 rfl
theorem d_50_24 : decode (cd 50) 24 = .ok (.invokestatic 79, 3) := by rw [cd_50]; decide +kernel
theorem e_50_24 {d : Nat} {h : mM} {L : mLs} {st : List Value} {x0 : Int32} {x1 : Int32} {x2 : Int32} (hc : mCat st ≤ 8) : ev (d + 1) 50 24 L (.int x2 :: .int x1 :: .int x0 :: st) h = cV (ev d 65 0 [some (.int x0), some (.int x1), some (.int x2)] [] h) (fun v h1 => ev (d + 1) 50 27 L (v ++ st) h1) := ev_cs (kd := 1) (mj := 65) (as := [.int x0, .int x1, .int x2]) (rest := st) d_50_24 (by decide +kernel) (by decide) rfl rfl (by show _ ≤ List.length _; simp only [List.length_cons]; have : na 65 = 3 := rfl; omega) rfl (Nat.le_of_ble_eq_true rfl) hc
theorem d_50_27 : decode (cd 50) 27 = .ok (.ifCond .eq 12, 3) := by rw [cd_50]; decide +kernel
theorem e_50_27 {d : Nat} {h : mM} {L : mLs} {st : List Value} {x : Int32} : ev d 50 27 L (.int x :: st) h = if x = 0 then ev d 50 39 L st h else ev d 50 30 L st h := ev_if (x = 0) inferInstance rfl d_50_27 (by decide)
theorem d_50_30 : decode (cd 50) 30 = .ok (.iload_n 3, 1) := by rw [cd_50]; decide +kernel
theorem e_50_30 {d : Nat} {h : mM} {o0 o1 o2 : Option Value} {T : mLs} {x : Int32} {st : List Value} : ev d 50 30 (o0 :: o1 :: o2 :: some (.int x) :: T) st h = ev d 50 31 (o0 :: o1 :: o2 :: some (.int x) :: T) (.int x :: st) h := ev_of d_50_30 rfl
theorem d_50_31 : decode (cd 50) 31 = .ok (.iconst 0, 1) := by rw [cd_50]; decide +kernel
theorem e_50_31 {d : Nat} {h : mM} {L : mLs} {st : List Value} : ev d 50 31 L st h = ev d 50 32 L (.int 0 :: st) h := ev_of d_50_31 rfl
theorem d_50_32 : decode (cd 50) 32 = .ok (.iconst 1, 1) := by rw [cd_50]; decide +kernel
theorem e_50_32 {d : Nat} {h : mM} {L : mLs} {st : List Value} : ev d 50 32 L st h = ev d 50 33 L (.int 1 :: st) h := ev_of d_50_32 rfl
theorem d_50_33 : decode (cd 50) 33 = .ok (.invokestatic 79, 3) := by rw [cd_50]; decide +kernel
theorem e_50_33 {d : Nat} {h : mM} {L : mLs} {st : List Value} {x0 : Int32} {x1 : Int32} {x2 : Int32} (hc : mCat st ≤ 8) : ev (d + 1) 50 33 L (.int x2 :: .int x1 :: .int x0 :: st) h = cV (ev d 65 0 [some (.int x0), some (.int x1), some (.int x2)] [] h) (fun v h1 => ev (d + 1) 50 36 L (v ++ st) h1) := ev_cs (kd := 1) (mj := 65) (as := [.int x0, .int x1, .int x2]) (rest := st) d_50_33 (by decide +kernel) (by decide) rfl rfl (by show _ ≤ List.length _; simp only [List.length_cons]; have : na 65 = 3 := rfl; omega) rfl (Nat.le_of_ble_eq_true rfl) hc
theorem d_50_36 : decode (cd 50) 36 = .ok (.ifCond .ne 9, 3) := by rw [cd_50]; decide +kernel
theorem e_50_36 {d : Nat} {h : mM} {L : mLs} {st : List Value} {x : Int32} : ev d 50 36 L (.int x :: st) h = if ¬ x = 0 then ev d 50 45 L st h else ev d 50 39 L st h := ev_if (¬ x = 0) inferInstance rfl d_50_36 (by decide)
theorem d_50_39 : decode (cd 50) 39 = .ok (.aload_n 0, 1) := by rw [cd_50]; decide +kernel
theorem e_50_39 {d : Nat} {h : mM} {T : mLs} {x : Nat} {st : List Value} : ev d 50 39 ( some (.ref x) :: T) st h = ev d 50 40 ( some (.ref x) :: T) (.ref x :: st) h := ev_of d_50_39 rfl
theorem d_50_40 : decode (cd 50) 40 = .ok (.iconst 1, 1) := by rw [cd_50]; decide +kernel
theorem e_50_40 {d : Nat} {h : mM} {L : mLs} {st : List Value} : ev d 50 40 L st h = ev d 50 41 L (.int 1 :: st) h := ev_of d_50_40 rfl
theorem d_50_41 : decode (cd 50) 41 = .ok (.invokevirtual 83, 3) := by rw [cd_50]; decide +kernel
theorem e_50_41 {d : Nat} {h : mM} {L : mLs} {st : List Value} {a : Nat} {x0 : Int32} (hc : mCat st ≤ 8) : ev (d + 1) 50 41 L (.int x0 :: .ref a :: st) h = if mK h a = 9 then cV (ev d 64 0 [some (.ref a), some (.int x0)] [] h) (fun v h1 => ev (d + 1) 50 44 L (v ++ st) h1) else none := ev_cv (mj := 64) (as := [.int x0]) (rest := st) d_50_41 (by decide +kernel) rfl rfl (by show _ ≤ List.length _; simp only [List.length_cons]; have : na 64 = 1 := rfl; omega) rfl (Nat.le_of_ble_eq_true rfl) hc
theorem d_50_44 : decode (cd 50) 44 = .ok (.ireturn, 1) := by rw [cd_50]; decide +kernel
theorem e_50_44 {d : Nat} {h : mM} {L : mLs} {v : Int32} : ev d 50 44 L [.int v] h = some (some (.int v), h) := ev_ri d_50_44 (by decide +kernel)
theorem d_50_45 : decode (cd 50) 45 = .ok (.aload_n 0, 1) := by rw [cd_50]; decide +kernel
theorem e_50_45 {d : Nat} {h : mM} {T : mLs} {x : Nat} {st : List Value} : ev d 50 45 ( some (.ref x) :: T) st h = ev d 50 46 ( some (.ref x) :: T) (.ref x :: st) h := ev_of d_50_45 rfl
theorem d_50_46 : decode (cd 50) 46 = .ok (.getfield 19, 3) := by rw [cd_50]; decide +kernel
theorem e_50_46 {d : Nat} {h : mM} {L : mLs} {st : List Value} {a : Nat} : ev d 50 46 L (.ref a :: st) h = if mK h a = 9 then oB (mR h a 1) (fun b => ev d 50 49 L (.ref b :: st) h) else none := ev_gR d_50_46 (by decide +kernel) (by decide +kernel)
theorem d_50_49 : decode (cd 50) 49 = .ok (.getfield 160, 3) := by rw [cd_50]; decide +kernel
theorem e_50_49 {d : Nat} {h : mM} {L : mLs} {st : List Value} {a : Nat} : ev d 50 49 L (.ref a :: st) h = if mK h a = 8 then oB (mR h a 2) (fun b => ev d 50 52 L (.ref b :: st) h) else none := ev_gR d_50_49 (by decide +kernel) (by decide +kernel)
theorem d_50_52 : decode (cd 50) 52 = .ok (.iload_n 1, 1) := by rw [cd_50]; decide +kernel
theorem e_50_52 {d : Nat} {h : mM} {o0 : Option Value} {T : mLs} {x : Int32} {st : List Value} : ev d 50 52 (o0 :: some (.int x) :: T) st h = ev d 50 53 (o0 :: some (.int x) :: T) (.int x :: st) h := ev_of d_50_52 rfl
theorem d_50_53 : decode (cd 50) 53 = .ok (.aaload, 1) := by rw [cd_50]; decide +kernel
theorem e_50_53 {d : Nat} {h : mM} {L : mLs} {st : List Value} {a : Nat} {i : Int32} : ev d 50 53 L (.int i :: .ref a :: st) h = if (12 < mK h a ∧ mK h a < 19) ∧ ixOK i (mL h a) = true then oB (mR h a i.toNatClampNeg) (fun b => ev d 50 54 L (.ref b :: st) h) else none := ev_aa d_50_53
theorem d_50_54 : decode (cd 50) 54 = .ok (.getfield 194, 3) := by rw [cd_50]; decide +kernel
theorem e_50_54 {d : Nat} {h : mM} {L : mLs} {st : List Value} {a : Nat} : ev d 50 54 L (.ref a :: st) h = if mK h a = 2 then oB (mR h a 0) (fun b => ev d 50 57 L (.ref b :: st) h) else none := ev_gR d_50_54 (by decide +kernel) (by decide +kernel)
theorem d_50_57 : decode (cd 50) 57 = .ok (.iload_n 2, 1) := by rw [cd_50]; decide +kernel
theorem e_50_57 {d : Nat} {h : mM} {o0 o1 : Option Value} {T : mLs} {x : Int32} {st : List Value} : ev d 50 57 (o0 :: o1 :: some (.int x) :: T) st h = ev d 50 58 (o0 :: o1 :: some (.int x) :: T) (.int x :: st) h := ev_of d_50_57 rfl
theorem d_50_58 : decode (cd 50) 58 = .ok (.aaload, 1) := by rw [cd_50]; decide +kernel
theorem e_50_58 {d : Nat} {h : mM} {L : mLs} {st : List Value} {a : Nat} {i : Int32} : ev d 50 58 L (.int i :: .ref a :: st) h = if (12 < mK h a ∧ mK h a < 19) ∧ ixOK i (mL h a) = true then oB (mR h a i.toNatClampNeg) (fun b => ev d 50 59 L (.ref b :: st) h) else none := ev_aa d_50_58
theorem d_50_59 : decode (cd 50) 59 = .ok (.astore 4, 2) := by rw [cd_50]; decide +kernel
theorem e_50_59 {d : Nat} {h : mM} {o0 o1 o2 o3 o4 : Option Value} {T : mLs} {x : Nat} {st : List Value} (hl : mLong o3 = false) : ev d 50 59 (o0 :: o1 :: o2 :: o3 :: o4 :: T) (.ref x :: st) h = ev d 50 61 (o0 :: o1 :: o2 :: o3 :: some (.ref x) :: T) st h := ev_st_r d_50_59 (by decide +kernel) (mS1_s (j := 3) hl)
theorem d_50_61 : decode (cd 50) 61 = .ok (.aload 4, 2) := by rw [cd_50]; decide +kernel
theorem e_50_61 {d : Nat} {h : mM} {o0 o1 o2 o3 : Option Value} {T : mLs} {x : Nat} {st : List Value} : ev d 50 61 (o0 :: o1 :: o2 :: o3 :: some (.ref x) :: T) st h = ev d 50 63 (o0 :: o1 :: o2 :: o3 :: some (.ref x) :: T) (.ref x :: st) h := ev_of d_50_61 rfl
theorem d_50_63 : decode (cd 50) 63 = .ok (.getfield 212, 3) := by rw [cd_50]; decide +kernel
theorem e_50_63 {d : Nat} {h : mM} {L : mLs} {st : List Value} {a : Nat} : ev d 50 63 L (.ref a :: st) h = if mK h a = 6 then ev d 50 66 L (.int (mI h a 4) :: st) h else none := ev_gI d_50_63 (by decide +kernel) (by decide +kernel)
theorem d_50_66 : decode (cd 50) 66 = .ok (.ifCond .eq 7, 3) := by rw [cd_50]; decide +kernel
theorem e_50_66 {d : Nat} {h : mM} {L : mLs} {st : List Value} {x : Int32} : ev d 50 66 L (.int x :: st) h = if x = 0 then ev d 50 73 L st h else ev d 50 69 L st h := ev_if (x = 0) inferInstance rfl d_50_66 (by decide)
theorem d_50_69 : decode (cd 50) 69 = .ok (.iconst 1, 1) := by rw [cd_50]; decide +kernel
theorem e_50_69 {d : Nat} {h : mM} {L : mLs} {st : List Value} : ev d 50 69 L st h = ev d 50 70 L (.int 1 :: st) h := ev_of d_50_69 rfl
theorem d_50_70 : decode (cd 50) 70 = .ok (.goto 4, 3) := by rw [cd_50]; decide +kernel
theorem e_50_70 {d : Nat} {h : mM} {L : mLs} {st : List Value} : ev d 50 70 L st h = ev d 50 74 L st h := ev_go d_50_70 (by decide)
theorem d_50_73 : decode (cd 50) 73 = .ok (.iconst 0, 1) := by rw [cd_50]; decide +kernel
theorem e_50_73 {d : Nat} {h : mM} {L : mLs} {st : List Value} : ev d 50 73 L st h = ev d 50 74 L (.int 0 :: st) h := ev_of d_50_73 rfl
theorem d_50_74 : decode (cd 50) 74 = .ok (.istore 5, 2) := by rw [cd_50]; decide +kernel
theorem e_50_74 {d : Nat} {h : mM} {o0 o1 o2 o3 o4 o5 : Option Value} {T : mLs} {x : Int32} {st : List Value} (hl : mLong o4 = false) : ev d 50 74 (o0 :: o1 :: o2 :: o3 :: o4 :: o5 :: T) (.int x :: st) h = ev d 50 76 (o0 :: o1 :: o2 :: o3 :: o4 :: some (.int x) :: T) st h := ev_st_i d_50_74 (by decide +kernel) (mS1_s (j := 4) hl)
theorem d_50_76 : decode (cd 50) 76 = .ok (.aload 4, 2) := by rw [cd_50]; decide +kernel
theorem e_50_76 {d : Nat} {h : mM} {o0 o1 o2 o3 : Option Value} {T : mLs} {x : Nat} {st : List Value} : ev d 50 76 (o0 :: o1 :: o2 :: o3 :: some (.ref x) :: T) st h = ev d 50 78 (o0 :: o1 :: o2 :: o3 :: some (.ref x) :: T) (.ref x :: st) h := ev_of d_50_76 rfl
theorem d_50_78 : decode (cd 50) 78 = .ok (.iload_n 3, 1) := by rw [cd_50]; decide +kernel
theorem e_50_78 {d : Nat} {h : mM} {o0 o1 o2 : Option Value} {T : mLs} {x : Int32} {st : List Value} : ev d 50 78 (o0 :: o1 :: o2 :: some (.int x) :: T) st h = ev d 50 79 (o0 :: o1 :: o2 :: some (.int x) :: T) (.int x :: st) h := ev_of d_50_78 rfl
theorem d_50_79 : decode (cd 50) 79 = .ok (.iconst 1, 1) := by rw [cd_50]; decide +kernel
theorem e_50_79 {d : Nat} {h : mM} {L : mLs} {st : List Value} : ev d 50 79 L st h = ev d 50 80 L (.int 1 :: st) h := ev_of d_50_79 rfl
theorem d_50_80 : decode (cd 50) 80 = .ok (.if_icmp .ne 7, 3) := by rw [cd_50]; decide +kernel
theorem e_50_80 {d : Nat} {h : mM} {L : mLs} {st : List Value} {x y : Int32} : ev d 50 80 L (.int y :: .int x :: st) h = if ¬ x = y then ev d 50 87 L st h else ev d 50 83 L st h := ev_ic (¬ x = y) inferInstance rfl d_50_80 (by decide)
theorem d_50_83 : decode (cd 50) 83 = .ok (.iconst 1, 1) := by rw [cd_50]; decide +kernel
theorem e_50_83 {d : Nat} {h : mM} {L : mLs} {st : List Value} : ev d 50 83 L st h = ev d 50 84 L (.int 1 :: st) h := ev_of d_50_83 rfl
theorem d_50_84 : decode (cd 50) 84 = .ok (.goto 4, 3) := by rw [cd_50]; decide +kernel
theorem e_50_84 {d : Nat} {h : mM} {L : mLs} {st : List Value} : ev d 50 84 L st h = ev d 50 88 L st h := ev_go d_50_84 (by decide)
theorem d_50_87 : decode (cd 50) 87 = .ok (.iconst 0, 1) := by rw [cd_50]; decide +kernel
theorem e_50_87 {d : Nat} {h : mM} {L : mLs} {st : List Value} : ev d 50 87 L st h = ev d 50 88 L (.int 0 :: st) h := ev_of d_50_87 rfl
theorem d_50_88 : decode (cd 50) 88 = .ok (.putfield 212, 3) := by rw [cd_50]; decide +kernel
theorem e_50_88 {d : Nat} {h : mM} {L : mLs} {st : List Value} {a : Nat} {v : Int32} : ev d 50 88 L (.int v :: .ref a :: st) h = if mK h a = 6 ∧ mZO v = true then ev d 50 91 L st (wI h a 4 v) else none := ev_pZ d_50_88 (by decide +kernel) (by decide +kernel) (by decide +kernel)
theorem d_50_91 : decode (cd 50) 91 = .ok (.iload 5, 2) := by rw [cd_50]; decide +kernel
theorem e_50_91 {d : Nat} {h : mM} {o0 o1 o2 o3 o4 : Option Value} {T : mLs} {x : Int32} {st : List Value} : ev d 50 91 (o0 :: o1 :: o2 :: o3 :: o4 :: some (.int x) :: T) st h = ev d 50 93 (o0 :: o1 :: o2 :: o3 :: o4 :: some (.int x) :: T) (.int x :: st) h := ev_of d_50_91 rfl
theorem d_50_93 : decode (cd 50) 93 = .ok (.ireturn, 1) := by rw [cd_50]; decide +kernel
theorem e_50_93 {d : Nat} {h : mM} {L : mLs} {v : Int32} : ev d 50 93 L [.int v] h = some (some (.int v), h) := ev_ri d_50_93 (by decide +kernel)
-- 51: TideMill.sack
theorem cd_51 : cd 51 = prog_1_method_15_code := rfl
theorem d_51_0 : decode (cd 51) 0 = .ok (.aload_n 0, 1) := by rw [cd_51]; decide +kernel
theorem e_51_0 {d : Nat} {h : mM} {T : mLs} {x : Nat} {st : List Value} : ev d 51 0 ( some (.ref x) :: T) st h = ev d 51 1 ( some (.ref x) :: T) (.ref x :: st) h := ev_of d_51_0 rfl
theorem d_51_1 : decode (cd 51) 1 = .ok (.iload_n 1, 1) := by rw [cd_51]; decide +kernel
theorem e_51_1 {d : Nat} {h : mM} {o0 : Option Value} {T : mLs} {x : Int32} {st : List Value} : ev d 51 1 (o0 :: some (.int x) :: T) st h = ev d 51 2 (o0 :: some (.int x) :: T) (.int x :: st) h := ev_of d_51_1 rfl
theorem d_51_2 : decode (cd 51) 2 = .ok (.invokevirtual 185, 3) := by rw [cd_51]; decide +kernel
theorem e_51_2 {d : Nat} {h : mM} {L : mLs} {st : List Value} {a : Nat} {x0 : Int32} (hc : mCat st ≤ 8) : ev (d + 1) 51 2 L (.int x0 :: .ref a :: st) h = if mK h a = 9 then cV (ev d 71 0 [some (.ref a), some (.int x0)] [] h) (fun v h1 => ev (d + 1) 51 5 L (v ++ st) h1) else none := ev_cv (mj := 71) (as := [.int x0]) (rest := st) d_51_2 (by decide +kernel) rfl rfl (by show _ ≤ List.length _; simp only [List.length_cons]; have : na 71 = 1 := rfl; omega) rfl (Nat.le_of_ble_eq_true rfl) hc
theorem d_51_5 : decode (cd 51) 5 = .ok (.ifCond .eq 30, 3) := by rw [cd_51]; decide +kernel
theorem e_51_5 {d : Nat} {h : mM} {L : mLs} {st : List Value} {x : Int32} : ev d 51 5 L (.int x :: st) h = if x = 0 then ev d 51 35 L st h else ev d 51 8 L st h := ev_if (x = 0) inferInstance rfl d_51_5 (by decide)
theorem d_51_8 : decode (cd 51) 8 = .ok (.iload_n 2, 1) := by rw [cd_51]; decide +kernel
theorem e_51_8 {d : Nat} {h : mM} {o0 o1 : Option Value} {T : mLs} {x : Int32} {st : List Value} : ev d 51 8 (o0 :: o1 :: some (.int x) :: T) st h = ev d 51 9 (o0 :: o1 :: some (.int x) :: T) (.int x :: st) h := ev_of d_51_8 rfl
theorem d_51_9 : decode (cd 51) 9 = .ok (.invokestatic 216, 3) := by rw [cd_51]; decide +kernel
theorem e_51_9 {d : Nat} {h : mM} {L : mLs} {st : List Value} {x0 : Int32} (hc : mCat st ≤ 8) : ev (d + 1) 51 9 L (.int x0 :: st) h = cV (ev d 68 0 [some (.int x0)] [] h) (fun v h1 => ev (d + 1) 51 12 L (v ++ st) h1) := ev_cs (kd := 1) (mj := 68) (as := [.int x0]) (rest := st) d_51_9 (by decide +kernel) (by decide) rfl rfl (by show _ ≤ List.length _; simp only [List.length_cons]; have : na 68 = 1 := rfl; omega) rfl (Nat.le_of_ble_eq_true rfl) hc
theorem d_51_12 : decode (cd 51) 12 = .ok (.ifCond .eq 23, 3) := by rw [cd_51]; decide +kernel
theorem e_51_12 {d : Nat} {h : mM} {L : mLs} {st : List Value} {x : Int32} : ev d 51 12 L (.int x :: st) h = if x = 0 then ev d 51 35 L st h else ev d 51 15 L st h := ev_if (x = 0) inferInstance rfl d_51_12 (by decide)
theorem d_51_15 : decode (cd 51) 15 = .ok (.iload_n 3, 1) := by rw [cd_51]; decide +kernel
theorem e_51_15 {d : Nat} {h : mM} {o0 o1 o2 : Option Value} {T : mLs} {x : Int32} {st : List Value} : ev d 51 15 (o0 :: o1 :: o2 :: some (.int x) :: T) st h = ev d 51 16 (o0 :: o1 :: o2 :: some (.int x) :: T) (.int x :: st) h := ev_of d_51_15 rfl
theorem d_51_16 : decode (cd 51) 16 = .ok (.iconst 1, 1) := by rw [cd_51]; decide +kernel
theorem e_51_16 {d : Nat} {h : mM} {L : mLs} {st : List Value} : ev d 51 16 L st h = ev d 51 17 L (.int 1 :: st) h := ev_of d_51_16 rfl
theorem d_51_17 : decode (cd 51) 17 = .ok (.sipush 2000, 3) := by rw [cd_51]; decide +kernel
theorem e_51_17 {d : Nat} {h : mM} {L : mLs} {st : List Value} : ev d 51 17 L st h = ev d 51 20 L (.int 2000 :: st) h := ev_of d_51_17 rfl
theorem d_51_20 : decode (cd 51) 20 = .ok (.invokestatic 79, 3) := by rw [cd_51]; decide +kernel
theorem e_51_20 {d : Nat} {h : mM} {L : mLs} {st : List Value} {x0 : Int32} {x1 : Int32} {x2 : Int32} (hc : mCat st ≤ 8) : ev (d + 1) 51 20 L (.int x2 :: .int x1 :: .int x0 :: st) h = cV (ev d 65 0 [some (.int x0), some (.int x1), some (.int x2)] [] h) (fun v h1 => ev (d + 1) 51 23 L (v ++ st) h1) := ev_cs (kd := 1) (mj := 65) (as := [.int x0, .int x1, .int x2]) (rest := st) d_51_20 (by decide +kernel) (by decide) rfl rfl (by show _ ≤ List.length _; simp only [List.length_cons]; have : na 65 = 3 := rfl; omega) rfl (Nat.le_of_ble_eq_true rfl) hc
theorem d_51_23 : decode (cd 51) 23 = .ok (.ifCond .eq 12, 3) := by rw [cd_51]; decide +kernel
theorem e_51_23 {d : Nat} {h : mM} {L : mLs} {st : List Value} {x : Int32} : ev d 51 23 L (.int x :: st) h = if x = 0 then ev d 51 35 L st h else ev d 51 26 L st h := ev_if (x = 0) inferInstance rfl d_51_23 (by decide)
theorem d_51_26 : decode (cd 51) 26 = .ok (.iload 4, 2) := by rw [cd_51]; decide +kernel
theorem e_51_26 {d : Nat} {h : mM} {o0 o1 o2 o3 : Option Value} {T : mLs} {x : Int32} {st : List Value} : ev d 51 26 (o0 :: o1 :: o2 :: o3 :: some (.int x) :: T) st h = ev d 51 28 (o0 :: o1 :: o2 :: o3 :: some (.int x) :: T) (.int x :: st) h := ev_of d_51_26 rfl
theorem d_51_28 : decode (cd 51) 28 = .ok (.aload_n 0, 1) := by rw [cd_51]; decide +kernel
theorem e_51_28 {d : Nat} {h : mM} {T : mLs} {x : Nat} {st : List Value} : ev d 51 28 ( some (.ref x) :: T) st h = ev d 51 29 ( some (.ref x) :: T) (.ref x :: st) h := ev_of d_51_28 rfl
theorem d_51_29 : decode (cd 51) 29 = .ok (.getfield 57, 3) := by rw [cd_51]; decide +kernel
theorem e_51_29 {d : Nat} {h : mM} {L : mLs} {st : List Value} {a : Nat} : ev d 51 29 L (.ref a :: st) h = if mK h a = 9 then ev d 51 32 L (.int (mI h a 9) :: st) h else none := ev_gI d_51_29 (by decide +kernel) (by decide +kernel)
theorem d_51_32 : decode (cd 51) 32 = .ok (.if_icmp .ge 9, 3) := by rw [cd_51]; decide +kernel
theorem e_51_32 {d : Nat} {h : mM} {L : mLs} {st : List Value} {x y : Int32} : ev d 51 32 L (.int y :: .int x :: st) h = if y ≤ x then ev d 51 41 L st h else ev d 51 35 L st h := ev_ic (y ≤ x) inferInstance rfl d_51_32 (by decide)
theorem d_51_35 : decode (cd 51) 35 = .ok (.aload_n 0, 1) := by rw [cd_51]; decide +kernel
theorem e_51_35 {d : Nat} {h : mM} {T : mLs} {x : Nat} {st : List Value} : ev d 51 35 ( some (.ref x) :: T) st h = ev d 51 36 ( some (.ref x) :: T) (.ref x :: st) h := ev_of d_51_35 rfl
theorem d_51_36 : decode (cd 51) 36 = .ok (.iconst 1, 1) := by rw [cd_51]; decide +kernel
theorem e_51_36 {d : Nat} {h : mM} {L : mLs} {st : List Value} : ev d 51 36 L st h = ev d 51 37 L (.int 1 :: st) h := ev_of d_51_36 rfl
theorem d_51_37 : decode (cd 51) 37 = .ok (.invokevirtual 83, 3) := by rw [cd_51]; decide +kernel
theorem e_51_37 {d : Nat} {h : mM} {L : mLs} {st : List Value} {a : Nat} {x0 : Int32} (hc : mCat st ≤ 8) : ev (d + 1) 51 37 L (.int x0 :: .ref a :: st) h = if mK h a = 9 then cV (ev d 64 0 [some (.ref a), some (.int x0)] [] h) (fun v h1 => ev (d + 1) 51 40 L (v ++ st) h1) else none := ev_cv (mj := 64) (as := [.int x0]) (rest := st) d_51_37 (by decide +kernel) rfl rfl (by show _ ≤ List.length _; simp only [List.length_cons]; have : na 64 = 1 := rfl; omega) rfl (Nat.le_of_ble_eq_true rfl) hc
theorem d_51_40 : decode (cd 51) 40 = .ok (.ireturn, 1) := by rw [cd_51]; decide +kernel
theorem e_51_40 {d : Nat} {h : mM} {L : mLs} {v : Int32} : ev d 51 40 L [.int v] h = some (some (.int v), h) := ev_ri d_51_40 (by decide +kernel)
theorem d_51_41 : decode (cd 51) 41 = .ok (.aload_n 0, 1) := by rw [cd_51]; decide +kernel
theorem e_51_41 {d : Nat} {h : mM} {T : mLs} {x : Nat} {st : List Value} : ev d 51 41 ( some (.ref x) :: T) st h = ev d 51 42 ( some (.ref x) :: T) (.ref x :: st) h := ev_of d_51_41 rfl
theorem d_51_42 : decode (cd 51) 42 = .ok (.getfield 19, 3) := by rw [cd_51]; decide +kernel
theorem e_51_42 {d : Nat} {h : mM} {L : mLs} {st : List Value} {a : Nat} : ev d 51 42 L (.ref a :: st) h = if mK h a = 9 then oB (mR h a 1) (fun b => ev d 51 45 L (.ref b :: st) h) else none := ev_gR d_51_42 (by decide +kernel) (by decide +kernel)
theorem d_51_45 : decode (cd 51) 45 = .ok (.getfield 160, 3) := by rw [cd_51]; decide +kernel
theorem e_51_45 {d : Nat} {h : mM} {L : mLs} {st : List Value} {a : Nat} : ev d 51 45 L (.ref a :: st) h = if mK h a = 8 then oB (mR h a 2) (fun b => ev d 51 48 L (.ref b :: st) h) else none := ev_gR d_51_45 (by decide +kernel) (by decide +kernel)
theorem d_51_48 : decode (cd 51) 48 = .ok (.iload_n 1, 1) := by rw [cd_51]; decide +kernel
theorem e_51_48 {d : Nat} {h : mM} {o0 : Option Value} {T : mLs} {x : Int32} {st : List Value} : ev d 51 48 (o0 :: some (.int x) :: T) st h = ev d 51 49 (o0 :: some (.int x) :: T) (.int x :: st) h := ev_of d_51_48 rfl
theorem d_51_49 : decode (cd 51) 49 = .ok (.aaload, 1) := by rw [cd_51]; decide +kernel
theorem e_51_49 {d : Nat} {h : mM} {L : mLs} {st : List Value} {a : Nat} {i : Int32} : ev d 51 49 L (.int i :: .ref a :: st) h = if (12 < mK h a ∧ mK h a < 19) ∧ ixOK i (mL h a) = true then oB (mR h a i.toNatClampNeg) (fun b => ev d 51 50 L (.ref b :: st) h) else none := ev_aa d_51_49
theorem d_51_50 : decode (cd 51) 50 = .ok (.astore 5, 2) := by rw [cd_51]; decide +kernel
theorem e_51_50 {d : Nat} {h : mM} {o0 o1 o2 o3 o4 o5 : Option Value} {T : mLs} {x : Nat} {st : List Value} (hl : mLong o4 = false) : ev d 51 50 (o0 :: o1 :: o2 :: o3 :: o4 :: o5 :: T) (.ref x :: st) h = ev d 51 52 (o0 :: o1 :: o2 :: o3 :: o4 :: some (.ref x) :: T) st h := ev_st_r d_51_50 (by decide +kernel) (mS1_s (j := 4) hl)
theorem d_51_52 : decode (cd 51) 52 = .ok (.aload 5, 2) := by rw [cd_51]; decide +kernel
theorem e_51_52 {d : Nat} {h : mM} {o0 o1 o2 o3 o4 : Option Value} {T : mLs} {x : Nat} {st : List Value} : ev d 51 52 (o0 :: o1 :: o2 :: o3 :: o4 :: some (.ref x) :: T) st h = ev d 51 54 (o0 :: o1 :: o2 :: o3 :: o4 :: some (.ref x) :: T) (.ref x :: st) h := ev_of d_51_52 rfl
theorem d_51_54 : decode (cd 51) 54 = .ok (.getfield 164, 3) := by rw [cd_51]; decide +kernel
theorem e_51_54 {d : Nat} {h : mM} {L : mLs} {st : List Value} {a : Nat} : ev d 51 54 L (.ref a :: st) h = if mK h a = 2 then ev d 51 57 L (.int (mI h a 2) :: st) h else none := ev_gI d_51_54 (by decide +kernel) (by decide +kernel)
theorem d_51_57 : decode (cd 51) 57 = .ok (.iconst 2, 1) := by rw [cd_51]; decide +kernel
theorem e_51_57 {d : Nat} {h : mM} {L : mLs} {st : List Value} : ev d 51 57 L st h = ev d 51 58 L (.int 2 :: st) h := ev_of d_51_57 rfl
theorem d_51_58 : decode (cd 51) 58 = .ok (.if_icmp .ne 9, 3) := by rw [cd_51]; decide +kernel
theorem e_51_58 {d : Nat} {h : mM} {L : mLs} {st : List Value} {x y : Int32} : ev d 51 58 L (.int y :: .int x :: st) h = if ¬ x = y then ev d 51 67 L st h else ev d 51 61 L st h := ev_ic (¬ x = y) inferInstance rfl d_51_58 (by decide)
theorem d_51_61 : decode (cd 51) 61 = .ok (.aload_n 0, 1) := by rw [cd_51]; decide +kernel
theorem e_51_61 {d : Nat} {h : mM} {T : mLs} {x : Nat} {st : List Value} : ev d 51 61 ( some (.ref x) :: T) st h = ev d 51 62 ( some (.ref x) :: T) (.ref x :: st) h := ev_of d_51_61 rfl
theorem d_51_62 : decode (cd 51) 62 = .ok (.iconst 5, 1) := by rw [cd_51]; decide +kernel
theorem e_51_62 {d : Nat} {h : mM} {L : mLs} {st : List Value} : ev d 51 62 L st h = ev d 51 63 L (.int 5 :: st) h := ev_of d_51_62 rfl
theorem d_51_63 : decode (cd 51) 63 = .ok (.invokevirtual 83, 3) := by rw [cd_51]; decide +kernel
theorem e_51_63 {d : Nat} {h : mM} {L : mLs} {st : List Value} {a : Nat} {x0 : Int32} (hc : mCat st ≤ 8) : ev (d + 1) 51 63 L (.int x0 :: .ref a :: st) h = if mK h a = 9 then cV (ev d 64 0 [some (.ref a), some (.int x0)] [] h) (fun v h1 => ev (d + 1) 51 66 L (v ++ st) h1) else none := ev_cv (mj := 64) (as := [.int x0]) (rest := st) d_51_63 (by decide +kernel) rfl rfl (by show _ ≤ List.length _; simp only [List.length_cons]; have : na 64 = 1 := rfl; omega) rfl (Nat.le_of_ble_eq_true rfl) hc
theorem d_51_66 : decode (cd 51) 66 = .ok (.ireturn, 1) := by rw [cd_51]; decide +kernel
theorem e_51_66 {d : Nat} {h : mM} {L : mLs} {v : Int32} : ev d 51 66 L [.int v] h = some (some (.int v), h) := ev_ri d_51_66 (by decide +kernel)
theorem d_51_67 : decode (cd 51) 67 = .ok (.aload 5, 2) := by rw [cd_51]; decide +kernel
theorem e_51_67 {d : Nat} {h : mM} {o0 o1 o2 o3 o4 : Option Value} {T : mLs} {x : Nat} {st : List Value} : ev d 51 67 (o0 :: o1 :: o2 :: o3 :: o4 :: some (.ref x) :: T) st h = ev d 51 69 (o0 :: o1 :: o2 :: o3 :: o4 :: some (.ref x) :: T) (.ref x :: st) h := ev_of d_51_67 rfl
theorem d_51_69 : decode (cd 51) 69 = .ok (.getfield 164, 3) := by rw [cd_51]; decide +kernel
theorem e_51_69 {d : Nat} {h : mM} {L : mLs} {st : List Value} {a : Nat} : ev d 51 69 L (.ref a :: st) h = if mK h a = 2 then ev d 51 72 L (.int (mI h a 2) :: st) h else none := ev_gI d_51_69 (by decide +kernel) (by decide +kernel)
theorem d_51_72 : decode (cd 51) 72 = .ok (.iconst 1, 1) := by rw [cd_51]; decide +kernel
theorem e_51_72 {d : Nat} {h : mM} {L : mLs} {st : List Value} : ev d 51 72 L st h = ev d 51 73 L (.int 1 :: st) h := ev_of d_51_72 rfl
theorem d_51_73 : decode (cd 51) 73 = .ok (.if_icmp .ne 18, 3) := by rw [cd_51]; decide +kernel
theorem e_51_73 {d : Nat} {h : mM} {L : mLs} {st : List Value} {x y : Int32} : ev d 51 73 L (.int y :: .int x :: st) h = if ¬ x = y then ev d 51 91 L st h else ev d 51 76 L st h := ev_ic (¬ x = y) inferInstance rfl d_51_73 (by decide)
theorem d_51_76 : decode (cd 51) 76 = .ok (.iload_n 2, 1) := by rw [cd_51]; decide +kernel
theorem e_51_76 {d : Nat} {h : mM} {o0 o1 : Option Value} {T : mLs} {x : Int32} {st : List Value} : ev d 51 76 (o0 :: o1 :: some (.int x) :: T) st h = ev d 51 77 (o0 :: o1 :: some (.int x) :: T) (.int x :: st) h := ev_of d_51_76 rfl
theorem d_51_77 : decode (cd 51) 77 = .ok (.aload 5, 2) := by rw [cd_51]; decide +kernel
theorem e_51_77 {d : Nat} {h : mM} {o0 o1 o2 o3 o4 : Option Value} {T : mLs} {x : Nat} {st : List Value} : ev d 51 77 (o0 :: o1 :: o2 :: o3 :: o4 :: some (.ref x) :: T) st h = ev d 51 79 (o0 :: o1 :: o2 :: o3 :: o4 :: some (.ref x) :: T) (.ref x :: st) h := ev_of d_51_77 rfl
theorem d_51_79 : decode (cd 51) 79 = .ok (.getfield 178, 3) := by rw [cd_51]; decide +kernel
theorem e_51_79 {d : Nat} {h : mM} {L : mLs} {st : List Value} {a : Nat} : ev d 51 79 L (.ref a :: st) h = if mK h a = 2 then ev d 51 82 L (.int (mI h a 6) :: st) h else none := ev_gI d_51_79 (by decide +kernel) (by decide +kernel)
theorem d_51_82 : decode (cd 51) 82 = .ok (.if_icmp .eq 9, 3) := by rw [cd_51]; decide +kernel
theorem e_51_82 {d : Nat} {h : mM} {L : mLs} {st : List Value} {x y : Int32} : ev d 51 82 L (.int y :: .int x :: st) h = if x = y then ev d 51 91 L st h else ev d 51 85 L st h := ev_ic (x = y) inferInstance rfl d_51_82 (by decide)
theorem d_51_85 : decode (cd 51) 85 = .ok (.aload_n 0, 1) := by rw [cd_51]; decide +kernel
theorem e_51_85 {d : Nat} {h : mM} {T : mLs} {x : Nat} {st : List Value} : ev d 51 85 ( some (.ref x) :: T) st h = ev d 51 86 ( some (.ref x) :: T) (.ref x :: st) h := ev_of d_51_85 rfl
theorem d_51_86 : decode (cd 51) 86 = .ok (.iconst 3, 1) := by rw [cd_51]; decide +kernel
theorem e_51_86 {d : Nat} {h : mM} {L : mLs} {st : List Value} : ev d 51 86 L st h = ev d 51 87 L (.int 3 :: st) h := ev_of d_51_86 rfl
theorem d_51_87 : decode (cd 51) 87 = .ok (.invokevirtual 83, 3) := by rw [cd_51]; decide +kernel
theorem e_51_87 {d : Nat} {h : mM} {L : mLs} {st : List Value} {a : Nat} {x0 : Int32} (hc : mCat st ≤ 8) : ev (d + 1) 51 87 L (.int x0 :: .ref a :: st) h = if mK h a = 9 then cV (ev d 64 0 [some (.ref a), some (.int x0)] [] h) (fun v h1 => ev (d + 1) 51 90 L (v ++ st) h1) else none := ev_cv (mj := 64) (as := [.int x0]) (rest := st) d_51_87 (by decide +kernel) rfl rfl (by show _ ≤ List.length _; simp only [List.length_cons]; have : na 64 = 1 := rfl; omega) rfl (Nat.le_of_ble_eq_true rfl) hc
theorem d_51_90 : decode (cd 51) 90 = .ok (.ireturn, 1) := by rw [cd_51]; decide +kernel
theorem e_51_90 {d : Nat} {h : mM} {L : mLs} {v : Int32} : ev d 51 90 L [.int v] h = some (some (.int v), h) := ev_ri d_51_90 (by decide +kernel)
theorem d_51_91 : decode (cd 51) 91 = .ok (.aload 5, 2) := by rw [cd_51]; decide +kernel
theorem e_51_91 {d : Nat} {h : mM} {o0 o1 o2 o3 o4 : Option Value} {T : mLs} {x : Nat} {st : List Value} : ev d 51 91 (o0 :: o1 :: o2 :: o3 :: o4 :: some (.ref x) :: T) st h = ev d 51 93 (o0 :: o1 :: o2 :: o3 :: o4 :: some (.ref x) :: T) (.ref x :: st) h := ev_of d_51_91 rfl
theorem d_51_93 : decode (cd 51) 93 = .ok (.getfield 219, 3) := by rw [cd_51]; decide +kernel
theorem e_51_93 {d : Nat} {h : mM} {L : mLs} {st : List Value} {a : Nat} : ev d 51 93 L (.ref a :: st) h = if mK h a = 2 then ev d 51 96 L (.int (mI h a 8) :: st) h else none := ev_gI d_51_93 (by decide +kernel) (by decide +kernel)
theorem d_51_96 : decode (cd 51) 96 = .ok (.bipush 12, 2) := by rw [cd_51]; decide +kernel
theorem e_51_96 {d : Nat} {h : mM} {L : mLs} {st : List Value} : ev d 51 96 L st h = ev d 51 98 L (.int 12 :: st) h := ev_of d_51_96 rfl
theorem d_51_98 : decode (cd 51) 98 = .ok (.if_icmp .lt 9, 3) := by rw [cd_51]; decide +kernel
theorem e_51_98 {d : Nat} {h : mM} {L : mLs} {st : List Value} {x y : Int32} : ev d 51 98 L (.int y :: .int x :: st) h = if x < y then ev d 51 107 L st h else ev d 51 101 L st h := ev_ic (x < y) inferInstance rfl d_51_98 (by decide)
theorem d_51_101 : decode (cd 51) 101 = .ok (.aload_n 0, 1) := by rw [cd_51]; decide +kernel
theorem e_51_101 {d : Nat} {h : mM} {T : mLs} {x : Nat} {st : List Value} : ev d 51 101 ( some (.ref x) :: T) st h = ev d 51 102 ( some (.ref x) :: T) (.ref x :: st) h := ev_of d_51_101 rfl
theorem d_51_102 : decode (cd 51) 102 = .ok (.iconst 4, 1) := by rw [cd_51]; decide +kernel
theorem e_51_102 {d : Nat} {h : mM} {L : mLs} {st : List Value} : ev d 51 102 L st h = ev d 51 103 L (.int 4 :: st) h := ev_of d_51_102 rfl
theorem d_51_103 : decode (cd 51) 103 = .ok (.invokevirtual 83, 3) := by rw [cd_51]; decide +kernel
theorem e_51_103 {d : Nat} {h : mM} {L : mLs} {st : List Value} {a : Nat} {x0 : Int32} (hc : mCat st ≤ 8) : ev (d + 1) 51 103 L (.int x0 :: .ref a :: st) h = if mK h a = 9 then cV (ev d 64 0 [some (.ref a), some (.int x0)] [] h) (fun v h1 => ev (d + 1) 51 106 L (v ++ st) h1) else none := ev_cv (mj := 64) (as := [.int x0]) (rest := st) d_51_103 (by decide +kernel) rfl rfl (by show _ ≤ List.length _; simp only [List.length_cons]; have : na 64 = 1 := rfl; omega) rfl (Nat.le_of_ble_eq_true rfl) hc
theorem d_51_106 : decode (cd 51) 106 = .ok (.ireturn, 1) := by rw [cd_51]; decide +kernel
theorem e_51_106 {d : Nat} {h : mM} {L : mLs} {v : Int32} : ev d 51 106 L [.int v] h = some (some (.int v), h) := ev_ri d_51_106 (by decide +kernel)
theorem d_51_107 : decode (cd 51) 107 = .ok (.aload 5, 2) := by rw [cd_51]; decide +kernel
theorem e_51_107 {d : Nat} {h : mM} {o0 o1 o2 o3 o4 : Option Value} {T : mLs} {x : Nat} {st : List Value} : ev d 51 107 (o0 :: o1 :: o2 :: o3 :: o4 :: some (.ref x) :: T) st h = ev d 51 109 (o0 :: o1 :: o2 :: o3 :: o4 :: some (.ref x) :: T) (.ref x :: st) h := ev_of d_51_107 rfl
theorem d_51_109 : decode (cd 51) 109 = .ok (.getfield 222, 3) := by rw [cd_51]; decide +kernel
theorem e_51_109 {d : Nat} {h : mM} {L : mLs} {st : List Value} {a : Nat} : ev d 51 109 L (.ref a :: st) h = if mK h a = 2 then oB (mR h a 1) (fun b => ev d 51 112 L (.ref b :: st) h) else none := ev_gR d_51_109 (by decide +kernel) (by decide +kernel)
theorem d_51_112 : decode (cd 51) 112 = .ok (.aload 5, 2) := by rw [cd_51]; decide +kernel
theorem e_51_112 {d : Nat} {h : mM} {o0 o1 o2 o3 o4 : Option Value} {T : mLs} {x : Nat} {st : List Value} : ev d 51 112 (o0 :: o1 :: o2 :: o3 :: o4 :: some (.ref x) :: T) st h = ev d 51 114 (o0 :: o1 :: o2 :: o3 :: o4 :: some (.ref x) :: T) (.ref x :: st) h := ev_of d_51_112 rfl
theorem d_51_114 : decode (cd 51) 114 = .ok (.getfield 219, 3) := by rw [cd_51]; decide +kernel
theorem e_51_114 {d : Nat} {h : mM} {L : mLs} {st : List Value} {a : Nat} : ev d 51 114 L (.ref a :: st) h = if mK h a = 2 then ev d 51 117 L (.int (mI h a 8) :: st) h else none := ev_gI d_51_114 (by decide +kernel) (by decide +kernel)
theorem d_51_117 : decode (cd 51) 117 = .ok (.aaload, 1) := by rw [cd_51]; decide +kernel
theorem e_51_117 {d : Nat} {h : mM} {L : mLs} {st : List Value} {a : Nat} {i : Int32} : ev d 51 117 L (.int i :: .ref a :: st) h = if (12 < mK h a ∧ mK h a < 19) ∧ ixOK i (mL h a) = true then oB (mR h a i.toNatClampNeg) (fun b => ev d 51 118 L (.ref b :: st) h) else none := ev_aa d_51_117
theorem d_51_118 : decode (cd 51) 118 = .ok (.astore 6, 2) := by rw [cd_51]; decide +kernel
theorem e_51_118 {d : Nat} {h : mM} {o0 o1 o2 o3 o4 o5 o6 : Option Value} {T : mLs} {x : Nat} {st : List Value} (hl : mLong o5 = false) : ev d 51 118 (o0 :: o1 :: o2 :: o3 :: o4 :: o5 :: o6 :: T) (.ref x :: st) h = ev d 51 120 (o0 :: o1 :: o2 :: o3 :: o4 :: o5 :: some (.ref x) :: T) st h := ev_st_r d_51_118 (by decide +kernel) (mS1_s (j := 5) hl)
theorem d_51_120 : decode (cd 51) 120 = .ok (.aload 6, 2) := by rw [cd_51]; decide +kernel
theorem e_51_120 {d : Nat} {h : mM} {o0 o1 o2 o3 o4 o5 : Option Value} {T : mLs} {x : Nat} {st : List Value} : ev d 51 120 (o0 :: o1 :: o2 :: o3 :: o4 :: o5 :: some (.ref x) :: T) st h = ev d 51 122 (o0 :: o1 :: o2 :: o3 :: o4 :: o5 :: some (.ref x) :: T) (.ref x :: st) h := ev_of d_51_120 rfl
theorem d_51_122 : decode (cd 51) 122 = .ok (.iload_n 2, 1) := by rw [cd_51]; decide +kernel
theorem e_51_122 {d : Nat} {h : mM} {o0 o1 : Option Value} {T : mLs} {x : Int32} {st : List Value} : ev d 51 122 (o0 :: o1 :: some (.int x) :: T) st h = ev d 51 123 (o0 :: o1 :: some (.int x) :: T) (.int x :: st) h := ev_of d_51_122 rfl
theorem d_51_123 : decode (cd 51) 123 = .ok (.putfield 226, 3) := by rw [cd_51]; decide +kernel
theorem e_51_123 {d : Nat} {h : mM} {L : mLs} {st : List Value} {a : Nat} {v : Int32} : ev d 51 123 L (.int v :: .ref a :: st) h = if mK h a = 4 then ev d 51 126 L st (wI h a 0 v) else none := ev_pI d_51_123 (by decide +kernel) (by decide +kernel) (by decide +kernel)
theorem d_51_126 : decode (cd 51) 126 = .ok (.aload 6, 2) := by rw [cd_51]; decide +kernel
theorem e_51_126 {d : Nat} {h : mM} {o0 o1 o2 o3 o4 o5 : Option Value} {T : mLs} {x : Nat} {st : List Value} : ev d 51 126 (o0 :: o1 :: o2 :: o3 :: o4 :: o5 :: some (.ref x) :: T) st h = ev d 51 128 (o0 :: o1 :: o2 :: o3 :: o4 :: o5 :: some (.ref x) :: T) (.ref x :: st) h := ev_of d_51_126 rfl
theorem d_51_128 : decode (cd 51) 128 = .ok (.iload_n 3, 1) := by rw [cd_51]; decide +kernel
theorem e_51_128 {d : Nat} {h : mM} {o0 o1 o2 : Option Value} {T : mLs} {x : Int32} {st : List Value} : ev d 51 128 (o0 :: o1 :: o2 :: some (.int x) :: T) st h = ev d 51 129 (o0 :: o1 :: o2 :: some (.int x) :: T) (.int x :: st) h := ev_of d_51_128 rfl
theorem d_51_129 : decode (cd 51) 129 = .ok (.putfield 229, 3) := by rw [cd_51]; decide +kernel
theorem e_51_129 {d : Nat} {h : mM} {L : mLs} {st : List Value} {a : Nat} {v : Int32} : ev d 51 129 L (.int v :: .ref a :: st) h = if mK h a = 4 then ev d 51 132 L st (wI h a 1 v) else none := ev_pI d_51_129 (by decide +kernel) (by decide +kernel) (by decide +kernel)
theorem d_51_132 : decode (cd 51) 132 = .ok (.aload 6, 2) := by rw [cd_51]; decide +kernel
theorem e_51_132 {d : Nat} {h : mM} {o0 o1 o2 o3 o4 o5 : Option Value} {T : mLs} {x : Nat} {st : List Value} : ev d 51 132 (o0 :: o1 :: o2 :: o3 :: o4 :: o5 :: some (.ref x) :: T) st h = ev d 51 134 (o0 :: o1 :: o2 :: o3 :: o4 :: o5 :: some (.ref x) :: T) (.ref x :: st) h := ev_of d_51_132 rfl
theorem d_51_134 : decode (cd 51) 134 = .ok (.iload_n 3, 1) := by rw [cd_51]; decide +kernel
theorem e_51_134 {d : Nat} {h : mM} {o0 o1 o2 : Option Value} {T : mLs} {x : Int32} {st : List Value} : ev d 51 134 (o0 :: o1 :: o2 :: some (.int x) :: T) st h = ev d 51 135 (o0 :: o1 :: o2 :: some (.int x) :: T) (.int x :: st) h := ev_of d_51_134 rfl
theorem d_51_135 : decode (cd 51) 135 = .ok (.putfield 232, 3) := by rw [cd_51]; decide +kernel
theorem e_51_135 {d : Nat} {h : mM} {L : mLs} {st : List Value} {a : Nat} {v : Int32} : ev d 51 135 L (.int v :: .ref a :: st) h = if mK h a = 4 then ev d 51 138 L st (wI h a 2 v) else none := ev_pI d_51_135 (by decide +kernel) (by decide +kernel) (by decide +kernel)
theorem d_51_138 : decode (cd 51) 138 = .ok (.aload 6, 2) := by rw [cd_51]; decide +kernel
theorem e_51_138 {d : Nat} {h : mM} {o0 o1 o2 o3 o4 o5 : Option Value} {T : mLs} {x : Nat} {st : List Value} : ev d 51 138 (o0 :: o1 :: o2 :: o3 :: o4 :: o5 :: some (.ref x) :: T) st h = ev d 51 140 (o0 :: o1 :: o2 :: o3 :: o4 :: o5 :: some (.ref x) :: T) (.ref x :: st) h := ev_of d_51_138 rfl
theorem d_51_140 : decode (cd 51) 140 = .ok (.iload 4, 2) := by rw [cd_51]; decide +kernel
theorem e_51_140 {d : Nat} {h : mM} {o0 o1 o2 o3 : Option Value} {T : mLs} {x : Int32} {st : List Value} : ev d 51 140 (o0 :: o1 :: o2 :: o3 :: some (.int x) :: T) st h = ev d 51 142 (o0 :: o1 :: o2 :: o3 :: some (.int x) :: T) (.int x :: st) h := ev_of d_51_140 rfl
theorem d_51_142 : decode (cd 51) 142 = .ok (.putfield 235, 3) := by rw [cd_51]; decide +kernel
theorem e_51_142 {d : Nat} {h : mM} {L : mLs} {st : List Value} {a : Nat} {v : Int32} : ev d 51 142 L (.int v :: .ref a :: st) h = if mK h a = 4 then ev d 51 145 L st (wI h a 3 v) else none := ev_pI d_51_142 (by decide +kernel) (by decide +kernel) (by decide +kernel)
theorem d_51_145 : decode (cd 51) 145 = .ok (.aload 5, 2) := by rw [cd_51]; decide +kernel
theorem e_51_145 {d : Nat} {h : mM} {o0 o1 o2 o3 o4 : Option Value} {T : mLs} {x : Nat} {st : List Value} : ev d 51 145 (o0 :: o1 :: o2 :: o3 :: o4 :: some (.ref x) :: T) st h = ev d 51 147 (o0 :: o1 :: o2 :: o3 :: o4 :: some (.ref x) :: T) (.ref x :: st) h := ev_of d_51_145 rfl
theorem d_51_147 : decode (cd 51) 147 = .ok (.dup, 1) := by rw [cd_51]; decide +kernel
theorem e_51_147r {d : Nat} {h : mM} {L : mLs} {st : List Value} {a : Nat} : ev d 51 147 L (.ref a :: st) h = ev d 51 148 L (.ref a :: .ref a :: st) h := ev_of d_51_147 rfl
theorem e_51_147i {d : Nat} {h : mM} {L : mLs} {st : List Value} {x : Int32} : ev d 51 147 L (.int x :: st) h = ev d 51 148 L (.int x :: .int x :: st) h := ev_of d_51_147 rfl
theorem d_51_148 : decode (cd 51) 148 = .ok (.getfield 219, 3) := by rw [cd_51]; decide +kernel
theorem e_51_148 {d : Nat} {h : mM} {L : mLs} {st : List Value} {a : Nat} : ev d 51 148 L (.ref a :: st) h = if mK h a = 2 then ev d 51 151 L (.int (mI h a 8) :: st) h else none := ev_gI d_51_148 (by decide +kernel) (by decide +kernel)
theorem d_51_151 : decode (cd 51) 151 = .ok (.iconst 1, 1) := by rw [cd_51]; decide +kernel
theorem e_51_151 {d : Nat} {h : mM} {L : mLs} {st : List Value} : ev d 51 151 L st h = ev d 51 152 L (.int 1 :: st) h := ev_of d_51_151 rfl
theorem d_51_152 : decode (cd 51) 152 = .ok (.iadd, 1) := by rw [cd_51]; decide +kernel
theorem e_51_152 {d : Nat} {h : mM} {L : mLs} {st : List Value} {x y : Int32} : ev d 51 152 L (.int y :: .int x :: st) h = ev d 51 153 L (.int (x + y) :: st) h := ev_of d_51_152 rfl
theorem d_51_153 : decode (cd 51) 153 = .ok (.putfield 219, 3) := by rw [cd_51]; decide +kernel
theorem e_51_153 {d : Nat} {h : mM} {L : mLs} {st : List Value} {a : Nat} {v : Int32} : ev d 51 153 L (.int v :: .ref a :: st) h = if mK h a = 2 then ev d 51 156 L st (wI h a 8 v) else none := ev_pI d_51_153 (by decide +kernel) (by decide +kernel) (by decide +kernel)
theorem d_51_156 : decode (cd 51) 156 = .ok (.aload 5, 2) := by rw [cd_51]; decide +kernel
theorem e_51_156 {d : Nat} {h : mM} {o0 o1 o2 o3 o4 : Option Value} {T : mLs} {x : Nat} {st : List Value} : ev d 51 156 (o0 :: o1 :: o2 :: o3 :: o4 :: some (.ref x) :: T) st h = ev d 51 158 (o0 :: o1 :: o2 :: o3 :: o4 :: some (.ref x) :: T) (.ref x :: st) h := ev_of d_51_156 rfl
theorem d_51_158 : decode (cd 51) 158 = .ok (.getfield 219, 3) := by rw [cd_51]; decide +kernel
theorem e_51_158 {d : Nat} {h : mM} {L : mLs} {st : List Value} {a : Nat} : ev d 51 158 L (.ref a :: st) h = if mK h a = 2 then ev d 51 161 L (.int (mI h a 8) :: st) h else none := ev_gI d_51_158 (by decide +kernel) (by decide +kernel)
theorem d_51_161 : decode (cd 51) 161 = .ok (.ireturn, 1) := by rw [cd_51]; decide +kernel
theorem e_51_161 {d : Nat} {h : mM} {L : mLs} {v : Int32} : ev d 51 161 L [.int v] h = some (some (.int v), h) := ev_ri d_51_161 (by decide +kernel)
-- 52: TideMill.row
theorem cd_52 : cd 52 = prog_1_method_16_code := rfl
theorem d_52_0 : decode (cd 52) 0 = .ok (.aload_n 0, 1) := by rw [cd_52]; decide +kernel
theorem e_52_0 {d : Nat} {h : mM} {T : mLs} {x : Nat} {st : List Value} : ev d 52 0 ( some (.ref x) :: T) st h = ev d 52 1 ( some (.ref x) :: T) (.ref x :: st) h := ev_of d_52_0 rfl
theorem d_52_1 : decode (cd 52) 1 = .ok (.iload_n 1, 1) := by rw [cd_52]; decide +kernel
theorem e_52_1 {d : Nat} {h : mM} {o0 : Option Value} {T : mLs} {x : Int32} {st : List Value} : ev d 52 1 (o0 :: some (.int x) :: T) st h = ev d 52 2 (o0 :: some (.int x) :: T) (.int x :: st) h := ev_of d_52_1 rfl
theorem d_52_2 : decode (cd 52) 2 = .ok (.invokevirtual 185, 3) := by rw [cd_52]; decide +kernel
theorem e_52_2 {d : Nat} {h : mM} {L : mLs} {st : List Value} {a : Nat} {x0 : Int32} (hc : mCat st ≤ 8) : ev (d + 1) 52 2 L (.int x0 :: .ref a :: st) h = if mK h a = 9 then cV (ev d 71 0 [some (.ref a), some (.int x0)] [] h) (fun v h1 => ev (d + 1) 52 5 L (v ++ st) h1) else none := ev_cv (mj := 71) (as := [.int x0]) (rest := st) d_52_2 (by decide +kernel) rfl rfl (by show _ ≤ List.length _; simp only [List.length_cons]; have : na 71 = 1 := rfl; omega) rfl (Nat.le_of_ble_eq_true rfl) hc
theorem d_52_5 : decode (cd 52) 5 = .ok (.ifCond .eq 12, 3) := by rw [cd_52]; decide +kernel
theorem e_52_5 {d : Nat} {h : mM} {L : mLs} {st : List Value} {x : Int32} : ev d 52 5 L (.int x :: st) h = if x = 0 then ev d 52 17 L st h else ev d 52 8 L st h := ev_if (x = 0) inferInstance rfl d_52_5 (by decide)
theorem d_52_8 : decode (cd 52) 8 = .ok (.iload_n 3, 1) := by rw [cd_52]; decide +kernel
theorem e_52_8 {d : Nat} {h : mM} {o0 o1 o2 : Option Value} {T : mLs} {x : Int32} {st : List Value} : ev d 52 8 (o0 :: o1 :: o2 :: some (.int x) :: T) st h = ev d 52 9 (o0 :: o1 :: o2 :: some (.int x) :: T) (.int x :: st) h := ev_of d_52_8 rfl
theorem d_52_9 : decode (cd 52) 9 = .ok (.iconst 0, 1) := by rw [cd_52]; decide +kernel
theorem e_52_9 {d : Nat} {h : mM} {L : mLs} {st : List Value} : ev d 52 9 L st h = ev d 52 10 L (.int 0 :: st) h := ev_of d_52_9 rfl
theorem d_52_10 : decode (cd 52) 10 = .ok (.iconst 3, 1) := by rw [cd_52]; decide +kernel
theorem e_52_10 {d : Nat} {h : mM} {L : mLs} {st : List Value} : ev d 52 10 L st h = ev d 52 11 L (.int 3 :: st) h := ev_of d_52_10 rfl
theorem d_52_11 : decode (cd 52) 11 = .ok (.invokestatic 79, 3) := by rw [cd_52]; decide +kernel
theorem e_52_11 {d : Nat} {h : mM} {L : mLs} {st : List Value} {x0 : Int32} {x1 : Int32} {x2 : Int32} (hc : mCat st ≤ 8) : ev (d + 1) 52 11 L (.int x2 :: .int x1 :: .int x0 :: st) h = cV (ev d 65 0 [some (.int x0), some (.int x1), some (.int x2)] [] h) (fun v h1 => ev (d + 1) 52 14 L (v ++ st) h1) := ev_cs (kd := 1) (mj := 65) (as := [.int x0, .int x1, .int x2]) (rest := st) d_52_11 (by decide +kernel) (by decide) rfl rfl (by show _ ≤ List.length _; simp only [List.length_cons]; have : na 65 = 3 := rfl; omega) rfl (Nat.le_of_ble_eq_true rfl) hc
theorem d_52_14 : decode (cd 52) 14 = .ok (.ifCond .ne 9, 3) := by rw [cd_52]; decide +kernel
theorem e_52_14 {d : Nat} {h : mM} {L : mLs} {st : List Value} {x : Int32} : ev d 52 14 L (.int x :: st) h = if ¬ x = 0 then ev d 52 23 L st h else ev d 52 17 L st h := ev_if (¬ x = 0) inferInstance rfl d_52_14 (by decide)
theorem d_52_17 : decode (cd 52) 17 = .ok (.aload_n 0, 1) := by rw [cd_52]; decide +kernel
theorem e_52_17 {d : Nat} {h : mM} {T : mLs} {x : Nat} {st : List Value} : ev d 52 17 ( some (.ref x) :: T) st h = ev d 52 18 ( some (.ref x) :: T) (.ref x :: st) h := ev_of d_52_17 rfl
theorem d_52_18 : decode (cd 52) 18 = .ok (.iconst 1, 1) := by rw [cd_52]; decide +kernel
theorem e_52_18 {d : Nat} {h : mM} {L : mLs} {st : List Value} : ev d 52 18 L st h = ev d 52 19 L (.int 1 :: st) h := ev_of d_52_18 rfl
theorem d_52_19 : decode (cd 52) 19 = .ok (.invokevirtual 83, 3) := by rw [cd_52]; decide +kernel
theorem e_52_19 {d : Nat} {h : mM} {L : mLs} {st : List Value} {a : Nat} {x0 : Int32} (hc : mCat st ≤ 8) : ev (d + 1) 52 19 L (.int x0 :: .ref a :: st) h = if mK h a = 9 then cV (ev d 64 0 [some (.ref a), some (.int x0)] [] h) (fun v h1 => ev (d + 1) 52 22 L (v ++ st) h1) else none := ev_cv (mj := 64) (as := [.int x0]) (rest := st) d_52_19 (by decide +kernel) rfl rfl (by show _ ≤ List.length _; simp only [List.length_cons]; have : na 64 = 1 := rfl; omega) rfl (Nat.le_of_ble_eq_true rfl) hc
theorem d_52_22 : decode (cd 52) 22 = .ok (.ireturn, 1) := by rw [cd_52]; decide +kernel
theorem e_52_22 {d : Nat} {h : mM} {L : mLs} {v : Int32} : ev d 52 22 L [.int v] h = some (some (.int v), h) := ev_ri d_52_22 (by decide +kernel)
theorem d_52_23 : decode (cd 52) 23 = .ok (.aload_n 0, 1) := by rw [cd_52]; decide +kernel
theorem e_52_23 {d : Nat} {h : mM} {T : mLs} {x : Nat} {st : List Value} : ev d 52 23 ( some (.ref x) :: T) st h = ev d 52 24 ( some (.ref x) :: T) (.ref x :: st) h := ev_of d_52_23 rfl
theorem d_52_24 : decode (cd 52) 24 = .ok (.getfield 19, 3) := by rw [cd_52]; decide +kernel
theorem e_52_24 {d : Nat} {h : mM} {L : mLs} {st : List Value} {a : Nat} : ev d 52 24 L (.ref a :: st) h = if mK h a = 9 then oB (mR h a 1) (fun b => ev d 52 27 L (.ref b :: st) h) else none := ev_gR d_52_24 (by decide +kernel) (by decide +kernel)
theorem d_52_27 : decode (cd 52) 27 = .ok (.getfield 160, 3) := by rw [cd_52]; decide +kernel
theorem e_52_27 {d : Nat} {h : mM} {L : mLs} {st : List Value} {a : Nat} : ev d 52 27 L (.ref a :: st) h = if mK h a = 8 then oB (mR h a 2) (fun b => ev d 52 30 L (.ref b :: st) h) else none := ev_gR d_52_27 (by decide +kernel) (by decide +kernel)
theorem d_52_30 : decode (cd 52) 30 = .ok (.iload_n 1, 1) := by rw [cd_52]; decide +kernel
theorem e_52_30 {d : Nat} {h : mM} {o0 : Option Value} {T : mLs} {x : Int32} {st : List Value} : ev d 52 30 (o0 :: some (.int x) :: T) st h = ev d 52 31 (o0 :: some (.int x) :: T) (.int x :: st) h := ev_of d_52_30 rfl
theorem d_52_31 : decode (cd 52) 31 = .ok (.aaload, 1) := by rw [cd_52]; decide +kernel
theorem e_52_31 {d : Nat} {h : mM} {L : mLs} {st : List Value} {a : Nat} {i : Int32} : ev d 52 31 L (.int i :: .ref a :: st) h = if (12 < mK h a ∧ mK h a < 19) ∧ ixOK i (mL h a) = true then oB (mR h a i.toNatClampNeg) (fun b => ev d 52 32 L (.ref b :: st) h) else none := ev_aa d_52_31
theorem d_52_32 : decode (cd 52) 32 = .ok (.astore 4, 2) := by rw [cd_52]; decide +kernel
theorem e_52_32 {d : Nat} {h : mM} {o0 o1 o2 o3 o4 : Option Value} {T : mLs} {x : Nat} {st : List Value} (hl : mLong o3 = false) : ev d 52 32 (o0 :: o1 :: o2 :: o3 :: o4 :: T) (.ref x :: st) h = ev d 52 34 (o0 :: o1 :: o2 :: o3 :: some (.ref x) :: T) st h := ev_st_r d_52_32 (by decide +kernel) (mS1_s (j := 3) hl)
theorem d_52_34 : decode (cd 52) 34 = .ok (.iload_n 2, 1) := by rw [cd_52]; decide +kernel
theorem e_52_34 {d : Nat} {h : mM} {o0 o1 : Option Value} {T : mLs} {x : Int32} {st : List Value} : ev d 52 34 (o0 :: o1 :: some (.int x) :: T) st h = ev d 52 35 (o0 :: o1 :: some (.int x) :: T) (.int x :: st) h := ev_of d_52_34 rfl
theorem d_52_35 : decode (cd 52) 35 = .ok (.iconst 0, 1) := by rw [cd_52]; decide +kernel
theorem e_52_35 {d : Nat} {h : mM} {L : mLs} {st : List Value} : ev d 52 35 L st h = ev d 52 36 L (.int 0 :: st) h := ev_of d_52_35 rfl
theorem d_52_36 : decode (cd 52) 36 = .ok (.aload 4, 2) := by rw [cd_52]; decide +kernel
theorem e_52_36 {d : Nat} {h : mM} {o0 o1 o2 o3 : Option Value} {T : mLs} {x : Nat} {st : List Value} : ev d 52 36 (o0 :: o1 :: o2 :: o3 :: some (.ref x) :: T) st h = ev d 52 38 (o0 :: o1 :: o2 :: o3 :: some (.ref x) :: T) (.ref x :: st) h := ev_of d_52_36 rfl
theorem d_52_38 : decode (cd 52) 38 = .ok (.getfield 219, 3) := by rw [cd_52]; decide +kernel
theorem e_52_38 {d : Nat} {h : mM} {L : mLs} {st : List Value} {a : Nat} : ev d 52 38 L (.ref a :: st) h = if mK h a = 2 then ev d 52 41 L (.int (mI h a 8) :: st) h else none := ev_gI d_52_38 (by decide +kernel) (by decide +kernel)
theorem d_52_41 : decode (cd 52) 41 = .ok (.iconst 1, 1) := by rw [cd_52]; decide +kernel
theorem e_52_41 {d : Nat} {h : mM} {L : mLs} {st : List Value} : ev d 52 41 L st h = ev d 52 42 L (.int 1 :: st) h := ev_of d_52_41 rfl
theorem d_52_42 : decode (cd 52) 42 = .ok (.isub, 1) := by rw [cd_52]; decide +kernel
theorem e_52_42 {d : Nat} {h : mM} {L : mLs} {st : List Value} {x y : Int32} : ev d 52 42 L (.int y :: .int x :: st) h = ev d 52 43 L (.int (x - y) :: st) h := ev_of d_52_42 rfl
theorem d_52_43 : decode (cd 52) 43 = .ok (.invokestatic 79, 3) := by rw [cd_52]; decide +kernel
theorem e_52_43 {d : Nat} {h : mM} {L : mLs} {st : List Value} {x0 : Int32} {x1 : Int32} {x2 : Int32} (hc : mCat st ≤ 8) : ev (d + 1) 52 43 L (.int x2 :: .int x1 :: .int x0 :: st) h = cV (ev d 65 0 [some (.int x0), some (.int x1), some (.int x2)] [] h) (fun v h1 => ev (d + 1) 52 46 L (v ++ st) h1) := ev_cs (kd := 1) (mj := 65) (as := [.int x0, .int x1, .int x2]) (rest := st) d_52_43 (by decide +kernel) (by decide) rfl rfl (by show _ ≤ List.length _; simp only [List.length_cons]; have : na 65 = 3 := rfl; omega) rfl (Nat.le_of_ble_eq_true rfl) hc
theorem d_52_46 : decode (cd 52) 46 = .ok (.ifCond .ne 9, 3) := by rw [cd_52]; decide +kernel
theorem e_52_46 {d : Nat} {h : mM} {L : mLs} {st : List Value} {x : Int32} : ev d 52 46 L (.int x :: st) h = if ¬ x = 0 then ev d 52 55 L st h else ev d 52 49 L st h := ev_if (¬ x = 0) inferInstance rfl d_52_46 (by decide)
theorem d_52_49 : decode (cd 52) 49 = .ok (.aload_n 0, 1) := by rw [cd_52]; decide +kernel
theorem e_52_49 {d : Nat} {h : mM} {T : mLs} {x : Nat} {st : List Value} : ev d 52 49 ( some (.ref x) :: T) st h = ev d 52 50 ( some (.ref x) :: T) (.ref x :: st) h := ev_of d_52_49 rfl
theorem d_52_50 : decode (cd 52) 50 = .ok (.iconst 2, 1) := by rw [cd_52]; decide +kernel
theorem e_52_50 {d : Nat} {h : mM} {L : mLs} {st : List Value} : ev d 52 50 L st h = ev d 52 51 L (.int 2 :: st) h := ev_of d_52_50 rfl
theorem d_52_51 : decode (cd 52) 51 = .ok (.invokevirtual 83, 3) := by rw [cd_52]; decide +kernel
theorem e_52_51 {d : Nat} {h : mM} {L : mLs} {st : List Value} {a : Nat} {x0 : Int32} (hc : mCat st ≤ 8) : ev (d + 1) 52 51 L (.int x0 :: .ref a :: st) h = if mK h a = 9 then cV (ev d 64 0 [some (.ref a), some (.int x0)] [] h) (fun v h1 => ev (d + 1) 52 54 L (v ++ st) h1) else none := ev_cv (mj := 64) (as := [.int x0]) (rest := st) d_52_51 (by decide +kernel) rfl rfl (by show _ ≤ List.length _; simp only [List.length_cons]; have : na 64 = 1 := rfl; omega) rfl (Nat.le_of_ble_eq_true rfl) hc
theorem d_52_54 : decode (cd 52) 54 = .ok (.ireturn, 1) := by rw [cd_52]; decide +kernel
theorem e_52_54 {d : Nat} {h : mM} {L : mLs} {v : Int32} : ev d 52 54 L [.int v] h = some (some (.int v), h) := ev_ri d_52_54 (by decide +kernel)
theorem d_52_55 : decode (cd 52) 55 = .ok (.aload 4, 2) := by rw [cd_52]; decide +kernel
theorem e_52_55 {d : Nat} {h : mM} {o0 o1 o2 o3 : Option Value} {T : mLs} {x : Nat} {st : List Value} : ev d 52 55 (o0 :: o1 :: o2 :: o3 :: some (.ref x) :: T) st h = ev d 52 57 (o0 :: o1 :: o2 :: o3 :: some (.ref x) :: T) (.ref x :: st) h := ev_of d_52_55 rfl
theorem d_52_57 : decode (cd 52) 57 = .ok (.getfield 222, 3) := by rw [cd_52]; decide +kernel
theorem e_52_57 {d : Nat} {h : mM} {L : mLs} {st : List Value} {a : Nat} : ev d 52 57 L (.ref a :: st) h = if mK h a = 2 then oB (mR h a 1) (fun b => ev d 52 60 L (.ref b :: st) h) else none := ev_gR d_52_57 (by decide +kernel) (by decide +kernel)
theorem d_52_60 : decode (cd 52) 60 = .ok (.iload_n 2, 1) := by rw [cd_52]; decide +kernel
theorem e_52_60 {d : Nat} {h : mM} {o0 o1 : Option Value} {T : mLs} {x : Int32} {st : List Value} : ev d 52 60 (o0 :: o1 :: some (.int x) :: T) st h = ev d 52 61 (o0 :: o1 :: some (.int x) :: T) (.int x :: st) h := ev_of d_52_60 rfl
theorem d_52_61 : decode (cd 52) 61 = .ok (.aaload, 1) := by rw [cd_52]; decide +kernel
theorem e_52_61 {d : Nat} {h : mM} {L : mLs} {st : List Value} {a : Nat} {i : Int32} : ev d 52 61 L (.int i :: .ref a :: st) h = if (12 < mK h a ∧ mK h a < 19) ∧ ixOK i (mL h a) = true then oB (mR h a i.toNatClampNeg) (fun b => ev d 52 62 L (.ref b :: st) h) else none := ev_aa d_52_61
theorem d_52_62 : decode (cd 52) 62 = .ok (.astore 5, 2) := by rw [cd_52]; decide +kernel
theorem e_52_62 {d : Nat} {h : mM} {o0 o1 o2 o3 o4 o5 : Option Value} {T : mLs} {x : Nat} {st : List Value} (hl : mLong o4 = false) : ev d 52 62 (o0 :: o1 :: o2 :: o3 :: o4 :: o5 :: T) (.ref x :: st) h = ev d 52 64 (o0 :: o1 :: o2 :: o3 :: o4 :: some (.ref x) :: T) st h := ev_st_r d_52_62 (by decide +kernel) (mS1_s (j := 4) hl)
theorem d_52_64 : decode (cd 52) 64 = .ok (.iload_n 3, 1) := by rw [cd_52]; decide +kernel
theorem e_52_64 {d : Nat} {h : mM} {o0 o1 o2 : Option Value} {T : mLs} {x : Int32} {st : List Value} : ev d 52 64 (o0 :: o1 :: o2 :: some (.int x) :: T) st h = ev d 52 65 (o0 :: o1 :: o2 :: some (.int x) :: T) (.int x :: st) h := ev_of d_52_64 rfl
theorem d_52_65 : decode (cd 52) 65 = .ok (.tableswitch 45 0 2 #[27, 33, 39], 27) := by rw [cd_52]; decide +kernel
theorem e_52_65 {d : Nat} {h : mM} {L : mLs} {st : List Value} {x : Int32} : ev d 52 65 L (.int x :: st) h = tsF (fun t => ev d 52 t L st h) x [92, 98, 104] 0 (ev d 52 110 L st h) := ev_ts _ d_52_65 (by decide) (by decide) (by decide)
theorem d_52_92 : decode (cd 52) 92 = .ok (.aload 5, 2) := by rw [cd_52]; decide +kernel
theorem e_52_92 {d : Nat} {h : mM} {o0 o1 o2 o3 o4 : Option Value} {T : mLs} {x : Nat} {st : List Value} : ev d 52 92 (o0 :: o1 :: o2 :: o3 :: o4 :: some (.ref x) :: T) st h = ev d 52 94 (o0 :: o1 :: o2 :: o3 :: o4 :: some (.ref x) :: T) (.ref x :: st) h := ev_of d_52_92 rfl
theorem d_52_94 : decode (cd 52) 94 = .ok (.getfield 226, 3) := by rw [cd_52]; decide +kernel
theorem e_52_94 {d : Nat} {h : mM} {L : mLs} {st : List Value} {a : Nat} : ev d 52 94 L (.ref a :: st) h = if mK h a = 4 then ev d 52 97 L (.int (mI h a 0) :: st) h else none := ev_gI d_52_94 (by decide +kernel) (by decide +kernel)
theorem d_52_97 : decode (cd 52) 97 = .ok (.ireturn, 1) := by rw [cd_52]; decide +kernel
theorem e_52_97 {d : Nat} {h : mM} {L : mLs} {v : Int32} : ev d 52 97 L [.int v] h = some (some (.int v), h) := ev_ri d_52_97 (by decide +kernel)
theorem d_52_98 : decode (cd 52) 98 = .ok (.aload 5, 2) := by rw [cd_52]; decide +kernel
theorem e_52_98 {d : Nat} {h : mM} {o0 o1 o2 o3 o4 : Option Value} {T : mLs} {x : Nat} {st : List Value} : ev d 52 98 (o0 :: o1 :: o2 :: o3 :: o4 :: some (.ref x) :: T) st h = ev d 52 100 (o0 :: o1 :: o2 :: o3 :: o4 :: some (.ref x) :: T) (.ref x :: st) h := ev_of d_52_98 rfl
theorem d_52_100 : decode (cd 52) 100 = .ok (.getfield 229, 3) := by rw [cd_52]; decide +kernel
theorem e_52_100 {d : Nat} {h : mM} {L : mLs} {st : List Value} {a : Nat} : ev d 52 100 L (.ref a :: st) h = if mK h a = 4 then ev d 52 103 L (.int (mI h a 1) :: st) h else none := ev_gI d_52_100 (by decide +kernel) (by decide +kernel)
theorem d_52_103 : decode (cd 52) 103 = .ok (.ireturn, 1) := by rw [cd_52]; decide +kernel
theorem e_52_103 {d : Nat} {h : mM} {L : mLs} {v : Int32} : ev d 52 103 L [.int v] h = some (some (.int v), h) := ev_ri d_52_103 (by decide +kernel)
theorem d_52_104 : decode (cd 52) 104 = .ok (.aload 5, 2) := by rw [cd_52]; decide +kernel
theorem e_52_104 {d : Nat} {h : mM} {o0 o1 o2 o3 o4 : Option Value} {T : mLs} {x : Nat} {st : List Value} : ev d 52 104 (o0 :: o1 :: o2 :: o3 :: o4 :: some (.ref x) :: T) st h = ev d 52 106 (o0 :: o1 :: o2 :: o3 :: o4 :: some (.ref x) :: T) (.ref x :: st) h := ev_of d_52_104 rfl
theorem d_52_106 : decode (cd 52) 106 = .ok (.getfield 232, 3) := by rw [cd_52]; decide +kernel
theorem e_52_106 {d : Nat} {h : mM} {L : mLs} {st : List Value} {a : Nat} : ev d 52 106 L (.ref a :: st) h = if mK h a = 4 then ev d 52 109 L (.int (mI h a 2) :: st) h else none := ev_gI d_52_106 (by decide +kernel) (by decide +kernel)
theorem d_52_109 : decode (cd 52) 109 = .ok (.ireturn, 1) := by rw [cd_52]; decide +kernel
theorem e_52_109 {d : Nat} {h : mM} {L : mLs} {v : Int32} : ev d 52 109 L [.int v] h = some (some (.int v), h) := ev_ri d_52_109 (by decide +kernel)
theorem d_52_110 : decode (cd 52) 110 = .ok (.aload 5, 2) := by rw [cd_52]; decide +kernel
theorem e_52_110 {d : Nat} {h : mM} {o0 o1 o2 o3 o4 : Option Value} {T : mLs} {x : Nat} {st : List Value} : ev d 52 110 (o0 :: o1 :: o2 :: o3 :: o4 :: some (.ref x) :: T) st h = ev d 52 112 (o0 :: o1 :: o2 :: o3 :: o4 :: some (.ref x) :: T) (.ref x :: st) h := ev_of d_52_110 rfl
theorem d_52_112 : decode (cd 52) 112 = .ok (.getfield 235, 3) := by rw [cd_52]; decide +kernel
theorem e_52_112 {d : Nat} {h : mM} {L : mLs} {st : List Value} {a : Nat} : ev d 52 112 L (.ref a :: st) h = if mK h a = 4 then ev d 52 115 L (.int (mI h a 3) :: st) h else none := ev_gI d_52_112 (by decide +kernel) (by decide +kernel)
theorem d_52_115 : decode (cd 52) 115 = .ok (.ireturn, 1) := by rw [cd_52]; decide +kernel
theorem e_52_115 {d : Nat} {h : mM} {L : mLs} {v : Int32} : ev d 52 115 L [.int v] h = some (some (.int v), h) := ev_ri d_52_115 (by decide +kernel)
-- 53: TideMill.told
theorem cd_53 : cd 53 = prog_1_method_17_code := rfl
theorem d_53_0 : decode (cd 53) 0 = .ok (.aload_n 0, 1) := by rw [cd_53]; decide +kernel
theorem e_53_0 {d : Nat} {h : mM} {T : mLs} {x : Nat} {st : List Value} : ev d 53 0 ( some (.ref x) :: T) st h = ev d 53 1 ( some (.ref x) :: T) (.ref x :: st) h := ev_of d_53_0 rfl
theorem d_53_1 : decode (cd 53) 1 = .ok (.iload_n 1, 1) := by rw [cd_53]; decide +kernel
theorem e_53_1 {d : Nat} {h : mM} {o0 : Option Value} {T : mLs} {x : Int32} {st : List Value} : ev d 53 1 (o0 :: some (.int x) :: T) st h = ev d 53 2 (o0 :: some (.int x) :: T) (.int x :: st) h := ev_of d_53_1 rfl
theorem d_53_2 : decode (cd 53) 2 = .ok (.invokevirtual 185, 3) := by rw [cd_53]; decide +kernel
theorem e_53_2 {d : Nat} {h : mM} {L : mLs} {st : List Value} {a : Nat} {x0 : Int32} (hc : mCat st ≤ 8) : ev (d + 1) 53 2 L (.int x0 :: .ref a :: st) h = if mK h a = 9 then cV (ev d 71 0 [some (.ref a), some (.int x0)] [] h) (fun v h1 => ev (d + 1) 53 5 L (v ++ st) h1) else none := ev_cv (mj := 71) (as := [.int x0]) (rest := st) d_53_2 (by decide +kernel) rfl rfl (by show _ ≤ List.length _; simp only [List.length_cons]; have : na 71 = 1 := rfl; omega) rfl (Nat.le_of_ble_eq_true rfl) hc
theorem d_53_5 : decode (cd 53) 5 = .ok (.ifCond .ne 9, 3) := by rw [cd_53]; decide +kernel
theorem e_53_5 {d : Nat} {h : mM} {L : mLs} {st : List Value} {x : Int32} : ev d 53 5 L (.int x :: st) h = if ¬ x = 0 then ev d 53 14 L st h else ev d 53 8 L st h := ev_if (¬ x = 0) inferInstance rfl d_53_5 (by decide)
theorem d_53_8 : decode (cd 53) 8 = .ok (.aload_n 0, 1) := by rw [cd_53]; decide +kernel
theorem e_53_8 {d : Nat} {h : mM} {T : mLs} {x : Nat} {st : List Value} : ev d 53 8 ( some (.ref x) :: T) st h = ev d 53 9 ( some (.ref x) :: T) (.ref x :: st) h := ev_of d_53_8 rfl
theorem d_53_9 : decode (cd 53) 9 = .ok (.iconst 1, 1) := by rw [cd_53]; decide +kernel
theorem e_53_9 {d : Nat} {h : mM} {L : mLs} {st : List Value} : ev d 53 9 L st h = ev d 53 10 L (.int 1 :: st) h := ev_of d_53_9 rfl
theorem d_53_10 : decode (cd 53) 10 = .ok (.invokevirtual 83, 3) := by rw [cd_53]; decide +kernel
theorem e_53_10 {d : Nat} {h : mM} {L : mLs} {st : List Value} {a : Nat} {x0 : Int32} (hc : mCat st ≤ 8) : ev (d + 1) 53 10 L (.int x0 :: .ref a :: st) h = if mK h a = 9 then cV (ev d 64 0 [some (.ref a), some (.int x0)] [] h) (fun v h1 => ev (d + 1) 53 13 L (v ++ st) h1) else none := ev_cv (mj := 64) (as := [.int x0]) (rest := st) d_53_10 (by decide +kernel) rfl rfl (by show _ ≤ List.length _; simp only [List.length_cons]; have : na 64 = 1 := rfl; omega) rfl (Nat.le_of_ble_eq_true rfl) hc
theorem d_53_13 : decode (cd 53) 13 = .ok (.ireturn, 1) := by rw [cd_53]; decide +kernel
theorem e_53_13 {d : Nat} {h : mM} {L : mLs} {v : Int32} : ev d 53 13 L [.int v] h = some (some (.int v), h) := ev_ri d_53_13 (by decide +kernel)
theorem d_53_14 : decode (cd 53) 14 = .ok (.aload_n 0, 1) := by rw [cd_53]; decide +kernel
theorem e_53_14 {d : Nat} {h : mM} {T : mLs} {x : Nat} {st : List Value} : ev d 53 14 ( some (.ref x) :: T) st h = ev d 53 15 ( some (.ref x) :: T) (.ref x :: st) h := ev_of d_53_14 rfl
theorem d_53_15 : decode (cd 53) 15 = .ok (.getfield 19, 3) := by rw [cd_53]; decide +kernel
theorem e_53_15 {d : Nat} {h : mM} {L : mLs} {st : List Value} {a : Nat} : ev d 53 15 L (.ref a :: st) h = if mK h a = 9 then oB (mR h a 1) (fun b => ev d 53 18 L (.ref b :: st) h) else none := ev_gR d_53_15 (by decide +kernel) (by decide +kernel)
theorem d_53_18 : decode (cd 53) 18 = .ok (.getfield 160, 3) := by rw [cd_53]; decide +kernel
theorem e_53_18 {d : Nat} {h : mM} {L : mLs} {st : List Value} {a : Nat} : ev d 53 18 L (.ref a :: st) h = if mK h a = 8 then oB (mR h a 2) (fun b => ev d 53 21 L (.ref b :: st) h) else none := ev_gR d_53_18 (by decide +kernel) (by decide +kernel)
theorem d_53_21 : decode (cd 53) 21 = .ok (.iload_n 1, 1) := by rw [cd_53]; decide +kernel
theorem e_53_21 {d : Nat} {h : mM} {o0 : Option Value} {T : mLs} {x : Int32} {st : List Value} : ev d 53 21 (o0 :: some (.int x) :: T) st h = ev d 53 22 (o0 :: some (.int x) :: T) (.int x :: st) h := ev_of d_53_21 rfl
theorem d_53_22 : decode (cd 53) 22 = .ok (.aaload, 1) := by rw [cd_53]; decide +kernel
theorem e_53_22 {d : Nat} {h : mM} {L : mLs} {st : List Value} {a : Nat} {i : Int32} : ev d 53 22 L (.int i :: .ref a :: st) h = if (12 < mK h a ∧ mK h a < 19) ∧ ixOK i (mL h a) = true then oB (mR h a i.toNatClampNeg) (fun b => ev d 53 23 L (.ref b :: st) h) else none := ev_aa d_53_22
theorem d_53_23 : decode (cd 53) 23 = .ok (.astore_n 3, 1) := by rw [cd_53]; decide +kernel
theorem e_53_23 {d : Nat} {h : mM} {o0 o1 o2 o3 : Option Value} {T : mLs} {x : Nat} {st : List Value} (hl : mLong o2 = false) : ev d 53 23 (o0 :: o1 :: o2 :: o3 :: T) (.ref x :: st) h = ev d 53 24 (o0 :: o1 :: o2 :: some (.ref x) :: T) st h := ev_st_rn d_53_23 (by decide +kernel) (mS1_s (j := 2) hl)
theorem d_53_24 : decode (cd 53) 24 = .ok (.iload_n 2, 1) := by rw [cd_53]; decide +kernel
theorem e_53_24 {d : Nat} {h : mM} {o0 o1 : Option Value} {T : mLs} {x : Int32} {st : List Value} : ev d 53 24 (o0 :: o1 :: some (.int x) :: T) st h = ev d 53 25 (o0 :: o1 :: some (.int x) :: T) (.int x :: st) h := ev_of d_53_24 rfl
theorem d_53_25 : decode (cd 53) 25 = .ok (.tableswitch 137 0 9 #[55, 92, 97, 102, 107, 112, 117, 122, 127, 132], 55) := by rw [cd_53]; decide +kernel
theorem e_53_25 {d : Nat} {h : mM} {L : mLs} {st : List Value} {x : Int32} : ev d 53 25 L (.int x :: st) h = tsF (fun t => ev d 53 t L st h) x [80, 117, 122, 127, 132, 137, 142, 147, 152, 157] 0 (ev d 53 162 L st h) := ev_ts _ d_53_25 (by decide) (by decide) (by decide)
theorem d_53_80 : decode (cd 53) 80 = .ok (.aload_n 0, 1) := by rw [cd_53]; decide +kernel
theorem e_53_80 {d : Nat} {h : mM} {T : mLs} {x : Nat} {st : List Value} : ev d 53 80 ( some (.ref x) :: T) st h = ev d 53 81 ( some (.ref x) :: T) (.ref x :: st) h := ev_of d_53_80 rfl
theorem d_53_81 : decode (cd 53) 81 = .ok (.getfield 19, 3) := by rw [cd_53]; decide +kernel
theorem e_53_81 {d : Nat} {h : mM} {L : mLs} {st : List Value} {a : Nat} : ev d 53 81 L (.ref a :: st) h = if mK h a = 9 then oB (mR h a 1) (fun b => ev d 53 84 L (.ref b :: st) h) else none := ev_gR d_53_81 (by decide +kernel) (by decide +kernel)
theorem d_53_84 : decode (cd 53) 84 = .ok (.getfield 103, 3) := by rw [cd_53]; decide +kernel
theorem e_53_84 {d : Nat} {h : mM} {L : mLs} {st : List Value} {a : Nat} : ev d 53 84 L (.ref a :: st) h = if mK h a = 8 then oB (mR h a 0) (fun b => ev d 53 87 L (.ref b :: st) h) else none := ev_gR d_53_84 (by decide +kernel) (by decide +kernel)
theorem d_53_87 : decode (cd 53) 87 = .ok (.aload_n 3, 1) := by rw [cd_53]; decide +kernel
theorem e_53_87 {d : Nat} {h : mM} {o0 o1 o2 : Option Value} {T : mLs} {x : Nat} {st : List Value} : ev d 53 87 (o0 :: o1 :: o2 :: some (.ref x) :: T) st h = ev d 53 88 (o0 :: o1 :: o2 :: some (.ref x) :: T) (.ref x :: st) h := ev_of d_53_87 rfl
theorem d_53_88 : decode (cd 53) 88 = .ok (.getfield 169, 3) := by rw [cd_53]; decide +kernel
theorem e_53_88 {d : Nat} {h : mM} {L : mLs} {st : List Value} {a : Nat} : ev d 53 88 L (.ref a :: st) h = if mK h a = 2 then ev d 53 91 L (.int (mI h a 3) :: st) h else none := ev_gI d_53_88 (by decide +kernel) (by decide +kernel)
theorem d_53_91 : decode (cd 53) 91 = .ok (.aaload, 1) := by rw [cd_53]; decide +kernel
theorem e_53_91 {d : Nat} {h : mM} {L : mLs} {st : List Value} {a : Nat} {i : Int32} : ev d 53 91 L (.int i :: .ref a :: st) h = if (12 < mK h a ∧ mK h a < 19) ∧ ixOK i (mL h a) = true then oB (mR h a i.toNatClampNeg) (fun b => ev d 53 92 L (.ref b :: st) h) else none := ev_aa d_53_91
theorem d_53_92 : decode (cd 53) 92 = .ok (.aload_n 0, 1) := by rw [cd_53]; decide +kernel
theorem e_53_92 {d : Nat} {h : mM} {T : mLs} {x : Nat} {st : List Value} : ev d 53 92 ( some (.ref x) :: T) st h = ev d 53 93 ( some (.ref x) :: T) (.ref x :: st) h := ev_of d_53_92 rfl
theorem d_53_93 : decode (cd 53) 93 = .ok (.getfield 41, 3) := by rw [cd_53]; decide +kernel
theorem e_53_93 {d : Nat} {h : mM} {L : mLs} {st : List Value} {a : Nat} : ev d 53 93 L (.ref a :: st) h = if mK h a = 9 then oB (mR h a 4) (fun b => ev d 53 96 L (.ref b :: st) h) else none := ev_gR d_53_93 (by decide +kernel) (by decide +kernel)
theorem d_53_96 : decode (cd 53) 96 = .ok (.aload_n 3, 1) := by rw [cd_53]; decide +kernel
theorem e_53_96 {d : Nat} {h : mM} {o0 o1 o2 : Option Value} {T : mLs} {x : Nat} {st : List Value} : ev d 53 96 (o0 :: o1 :: o2 :: some (.ref x) :: T) st h = ev d 53 97 (o0 :: o1 :: o2 :: some (.ref x) :: T) (.ref x :: st) h := ev_of d_53_96 rfl
theorem d_53_97 : decode (cd 53) 97 = .ok (.getfield 169, 3) := by rw [cd_53]; decide +kernel
theorem e_53_97 {d : Nat} {h : mM} {L : mLs} {st : List Value} {a : Nat} : ev d 53 97 L (.ref a :: st) h = if mK h a = 2 then ev d 53 100 L (.int (mI h a 3) :: st) h else none := ev_gI d_53_97 (by decide +kernel) (by decide +kernel)
theorem d_53_100 : decode (cd 53) 100 = .ok (.iaload, 1) := by rw [cd_53]; decide +kernel
theorem e_53_100 {d : Nat} {h : mM} {L : mLs} {st : List Value} {a : Nat} {i : Int32} : ev d 53 100 L (.int i :: .ref a :: st) h = if (mK h a = 11 ∨ mK h a = 19) ∧ ixOK i (mL h a) = true then ev d 53 101 L (.int (mI h a i.toNatClampNeg) :: st) h else none := ev_ia d_53_100
theorem d_53_101 : decode (cd 53) 101 = .ok (.invokevirtual 144, 3) := by rw [cd_53]; decide +kernel
theorem e_53_101 {d : Nat} {h : mM} {L : mLs} {st : List Value} {a : Nat} {x0 : Int32} (hc : mCat st ≤ 8) : ev (d + 1) 53 101 L (.int x0 :: .ref a :: st) h = if mK h a = 3 then cV (ev d 16 0 [some (.ref a), some (.int x0)] [] h) (fun v h1 => ev (d + 1) 53 104 L (v ++ st) h1) else none := ev_cv (mj := 16) (as := [.int x0]) (rest := st) d_53_101 (by decide +kernel) rfl rfl (by show _ ≤ List.length _; simp only [List.length_cons]; have : na 16 = 1 := rfl; omega) rfl (Nat.le_of_ble_eq_true rfl) hc
theorem d_53_104 : decode (cd 53) 104 = .ok (.aload_n 0, 1) := by rw [cd_53]; decide +kernel
theorem e_53_104 {d : Nat} {h : mM} {T : mLs} {x : Nat} {st : List Value} : ev d 53 104 ( some (.ref x) :: T) st h = ev d 53 105 ( some (.ref x) :: T) (.ref x :: st) h := ev_of d_53_104 rfl
theorem d_53_105 : decode (cd 53) 105 = .ok (.getfield 10, 3) := by rw [cd_53]; decide +kernel
theorem e_53_105 {d : Nat} {h : mM} {L : mLs} {st : List Value} {a : Nat} : ev d 53 105 L (.ref a :: st) h = if mK h a = 9 then oB (mR h a 0) (fun b => ev d 53 108 L (.ref b :: st) h) else none := ev_gR d_53_105 (by decide +kernel) (by decide +kernel)
theorem d_53_108 : decode (cd 53) 108 = .ok (.aload_n 0, 1) := by rw [cd_53]; decide +kernel
theorem e_53_108 {d : Nat} {h : mM} {T : mLs} {x : Nat} {st : List Value} : ev d 53 108 ( some (.ref x) :: T) st h = ev d 53 109 ( some (.ref x) :: T) (.ref x :: st) h := ev_of d_53_108 rfl
theorem d_53_109 : decode (cd 53) 109 = .ok (.getfield 57, 3) := by rw [cd_53]; decide +kernel
theorem e_53_109 {d : Nat} {h : mM} {L : mLs} {st : List Value} {a : Nat} : ev d 53 109 L (.ref a :: st) h = if mK h a = 9 then ev d 53 112 L (.int (mI h a 9) :: st) h else none := ev_gI d_53_109 (by decide +kernel) (by decide +kernel)
theorem d_53_112 : decode (cd 53) 112 = .ok (.invokevirtual 93, 3) := by rw [cd_53]; decide +kernel
theorem e_53_112 {d : Nat} {h : mM} {L : mLs} {st : List Value} {a : Nat} {x0 : Int32} (hc : mCat st ≤ 8) : ev (d + 1) 53 112 L (.int x0 :: .ref a :: st) h = if mK h a = 7 then cV (ev d 31 0 [some (.ref a), some (.int x0)] [] h) (fun v h1 => ev (d + 1) 53 115 L (v ++ st) h1) else none := ev_cv (mj := 31) (as := [.int x0]) (rest := st) d_53_112 (by decide +kernel) rfl rfl (by show _ ≤ List.length _; simp only [List.length_cons]; have : na 31 = 1 := rfl; omega) rfl (Nat.le_of_ble_eq_true rfl) hc
theorem d_53_115 : decode (cd 53) 115 = .ok (.isub, 1) := by rw [cd_53]; decide +kernel
theorem e_53_115 {d : Nat} {h : mM} {L : mLs} {st : List Value} {x y : Int32} : ev d 53 115 L (.int y :: .int x :: st) h = ev d 53 116 L (.int (x - y) :: st) h := ev_of d_53_115 rfl
theorem d_53_116 : decode (cd 53) 116 = .ok (.ireturn, 1) := by rw [cd_53]; decide +kernel
theorem e_53_116 {d : Nat} {h : mM} {L : mLs} {v : Int32} : ev d 53 116 L [.int v] h = some (some (.int v), h) := ev_ri d_53_116 (by decide +kernel)
theorem d_53_117 : decode (cd 53) 117 = .ok (.aload_n 3, 1) := by rw [cd_53]; decide +kernel
theorem e_53_117 {d : Nat} {h : mM} {o0 o1 o2 : Option Value} {T : mLs} {x : Nat} {st : List Value} : ev d 53 117 (o0 :: o1 :: o2 :: some (.ref x) :: T) st h = ev d 53 118 (o0 :: o1 :: o2 :: some (.ref x) :: T) (.ref x :: st) h := ev_of d_53_117 rfl
theorem d_53_118 : decode (cd 53) 118 = .ok (.getfield 238, 3) := by rw [cd_53]; decide +kernel
theorem e_53_118 {d : Nat} {h : mM} {L : mLs} {st : List Value} {a : Nat} : ev d 53 118 L (.ref a :: st) h = if mK h a = 2 then ev d 53 121 L (.int (mI h a 9) :: st) h else none := ev_gI d_53_118 (by decide +kernel) (by decide +kernel)
theorem d_53_121 : decode (cd 53) 121 = .ok (.ireturn, 1) := by rw [cd_53]; decide +kernel
theorem e_53_121 {d : Nat} {h : mM} {L : mLs} {v : Int32} : ev d 53 121 L [.int v] h = some (some (.int v), h) := ev_ri d_53_121 (by decide +kernel)
theorem d_53_122 : decode (cd 53) 122 = .ok (.aload_n 3, 1) := by rw [cd_53]; decide +kernel
theorem e_53_122 {d : Nat} {h : mM} {o0 o1 o2 : Option Value} {T : mLs} {x : Nat} {st : List Value} : ev d 53 122 (o0 :: o1 :: o2 :: some (.ref x) :: T) st h = ev d 53 123 (o0 :: o1 :: o2 :: some (.ref x) :: T) (.ref x :: st) h := ev_of d_53_122 rfl
theorem d_53_123 : decode (cd 53) 123 = .ok (.getfield 241, 3) := by rw [cd_53]; decide +kernel
theorem e_53_123 {d : Nat} {h : mM} {L : mLs} {st : List Value} {a : Nat} : ev d 53 123 L (.ref a :: st) h = if mK h a = 2 then ev d 53 126 L (.int (mI h a 10) :: st) h else none := ev_gI d_53_123 (by decide +kernel) (by decide +kernel)
theorem d_53_126 : decode (cd 53) 126 = .ok (.ireturn, 1) := by rw [cd_53]; decide +kernel
theorem e_53_126 {d : Nat} {h : mM} {L : mLs} {v : Int32} : ev d 53 126 L [.int v] h = some (some (.int v), h) := ev_ri d_53_126 (by decide +kernel)
theorem d_53_127 : decode (cd 53) 127 = .ok (.aload_n 3, 1) := by rw [cd_53]; decide +kernel
theorem e_53_127 {d : Nat} {h : mM} {o0 o1 o2 : Option Value} {T : mLs} {x : Nat} {st : List Value} : ev d 53 127 (o0 :: o1 :: o2 :: some (.ref x) :: T) st h = ev d 53 128 (o0 :: o1 :: o2 :: some (.ref x) :: T) (.ref x :: st) h := ev_of d_53_127 rfl
theorem d_53_128 : decode (cd 53) 128 = .ok (.getfield 244, 3) := by rw [cd_53]; decide +kernel
theorem e_53_128 {d : Nat} {h : mM} {L : mLs} {st : List Value} {a : Nat} : ev d 53 128 L (.ref a :: st) h = if mK h a = 2 then ev d 53 131 L (.int (mI h a 11) :: st) h else none := ev_gI d_53_128 (by decide +kernel) (by decide +kernel)
theorem d_53_131 : decode (cd 53) 131 = .ok (.ireturn, 1) := by rw [cd_53]; decide +kernel
theorem e_53_131 {d : Nat} {h : mM} {L : mLs} {v : Int32} : ev d 53 131 L [.int v] h = some (some (.int v), h) := ev_ri d_53_131 (by decide +kernel)
theorem d_53_132 : decode (cd 53) 132 = .ok (.aload_n 3, 1) := by rw [cd_53]; decide +kernel
theorem e_53_132 {d : Nat} {h : mM} {o0 o1 o2 : Option Value} {T : mLs} {x : Nat} {st : List Value} : ev d 53 132 (o0 :: o1 :: o2 :: some (.ref x) :: T) st h = ev d 53 133 (o0 :: o1 :: o2 :: some (.ref x) :: T) (.ref x :: st) h := ev_of d_53_132 rfl
theorem d_53_133 : decode (cd 53) 133 = .ok (.getfield 247, 3) := by rw [cd_53]; decide +kernel
theorem e_53_133 {d : Nat} {h : mM} {L : mLs} {st : List Value} {a : Nat} : ev d 53 133 L (.ref a :: st) h = if mK h a = 2 then ev d 53 136 L (.int (mI h a 12) :: st) h else none := ev_gI d_53_133 (by decide +kernel) (by decide +kernel)
theorem d_53_136 : decode (cd 53) 136 = .ok (.ireturn, 1) := by rw [cd_53]; decide +kernel
theorem e_53_136 {d : Nat} {h : mM} {L : mLs} {v : Int32} : ev d 53 136 L [.int v] h = some (some (.int v), h) := ev_ri d_53_136 (by decide +kernel)
theorem d_53_137 : decode (cd 53) 137 = .ok (.aload_n 3, 1) := by rw [cd_53]; decide +kernel
theorem e_53_137 {d : Nat} {h : mM} {o0 o1 o2 : Option Value} {T : mLs} {x : Nat} {st : List Value} : ev d 53 137 (o0 :: o1 :: o2 :: some (.ref x) :: T) st h = ev d 53 138 (o0 :: o1 :: o2 :: some (.ref x) :: T) (.ref x :: st) h := ev_of d_53_137 rfl
theorem d_53_138 : decode (cd 53) 138 = .ok (.getfield 250, 3) := by rw [cd_53]; decide +kernel
theorem e_53_138 {d : Nat} {h : mM} {L : mLs} {st : List Value} {a : Nat} : ev d 53 138 L (.ref a :: st) h = if mK h a = 2 then ev d 53 141 L (.int (mI h a 13) :: st) h else none := ev_gI d_53_138 (by decide +kernel) (by decide +kernel)
theorem d_53_141 : decode (cd 53) 141 = .ok (.ireturn, 1) := by rw [cd_53]; decide +kernel
theorem e_53_141 {d : Nat} {h : mM} {L : mLs} {v : Int32} : ev d 53 141 L [.int v] h = some (some (.int v), h) := ev_ri d_53_141 (by decide +kernel)
theorem d_53_142 : decode (cd 53) 142 = .ok (.aload_n 3, 1) := by rw [cd_53]; decide +kernel
theorem e_53_142 {d : Nat} {h : mM} {o0 o1 o2 : Option Value} {T : mLs} {x : Nat} {st : List Value} : ev d 53 142 (o0 :: o1 :: o2 :: some (.ref x) :: T) st h = ev d 53 143 (o0 :: o1 :: o2 :: some (.ref x) :: T) (.ref x :: st) h := ev_of d_53_142 rfl
theorem d_53_143 : decode (cd 53) 143 = .ok (.getfield 253, 3) := by rw [cd_53]; decide +kernel
theorem e_53_143 {d : Nat} {h : mM} {L : mLs} {st : List Value} {a : Nat} : ev d 53 143 L (.ref a :: st) h = if mK h a = 2 then ev d 53 146 L (.int (mI h a 14) :: st) h else none := ev_gI d_53_143 (by decide +kernel) (by decide +kernel)
theorem d_53_146 : decode (cd 53) 146 = .ok (.ireturn, 1) := by rw [cd_53]; decide +kernel
theorem e_53_146 {d : Nat} {h : mM} {L : mLs} {v : Int32} : ev d 53 146 L [.int v] h = some (some (.int v), h) := ev_ri d_53_146 (by decide +kernel)
theorem d_53_147 : decode (cd 53) 147 = .ok (.aload_n 3, 1) := by rw [cd_53]; decide +kernel
theorem e_53_147 {d : Nat} {h : mM} {o0 o1 o2 : Option Value} {T : mLs} {x : Nat} {st : List Value} : ev d 53 147 (o0 :: o1 :: o2 :: some (.ref x) :: T) st h = ev d 53 148 (o0 :: o1 :: o2 :: some (.ref x) :: T) (.ref x :: st) h := ev_of d_53_147 rfl
theorem d_53_148 : decode (cd 53) 148 = .ok (.getfield 219, 3) := by rw [cd_53]; decide +kernel
theorem e_53_148 {d : Nat} {h : mM} {L : mLs} {st : List Value} {a : Nat} : ev d 53 148 L (.ref a :: st) h = if mK h a = 2 then ev d 53 151 L (.int (mI h a 8) :: st) h else none := ev_gI d_53_148 (by decide +kernel) (by decide +kernel)
theorem d_53_151 : decode (cd 53) 151 = .ok (.ireturn, 1) := by rw [cd_53]; decide +kernel
theorem e_53_151 {d : Nat} {h : mM} {L : mLs} {v : Int32} : ev d 53 151 L [.int v] h = some (some (.int v), h) := ev_ri d_53_151 (by decide +kernel)
theorem d_53_152 : decode (cd 53) 152 = .ok (.aload_n 3, 1) := by rw [cd_53]; decide +kernel
theorem e_53_152 {d : Nat} {h : mM} {o0 o1 o2 : Option Value} {T : mLs} {x : Nat} {st : List Value} : ev d 53 152 (o0 :: o1 :: o2 :: some (.ref x) :: T) st h = ev d 53 153 (o0 :: o1 :: o2 :: some (.ref x) :: T) (.ref x :: st) h := ev_of d_53_152 rfl
theorem d_53_153 : decode (cd 53) 153 = .ok (.getfield 191, 3) := by rw [cd_53]; decide +kernel
theorem e_53_153 {d : Nat} {h : mM} {L : mLs} {st : List Value} {a : Nat} : ev d 53 153 L (.ref a :: st) h = if mK h a = 2 then ev d 53 156 L (.int (mI h a 7) :: st) h else none := ev_gI d_53_153 (by decide +kernel) (by decide +kernel)
theorem d_53_156 : decode (cd 53) 156 = .ok (.ireturn, 1) := by rw [cd_53]; decide +kernel
theorem e_53_156 {d : Nat} {h : mM} {L : mLs} {v : Int32} : ev d 53 156 L [.int v] h = some (some (.int v), h) := ev_ri d_53_156 (by decide +kernel)
theorem d_53_157 : decode (cd 53) 157 = .ok (.aload_n 3, 1) := by rw [cd_53]; decide +kernel
theorem e_53_157 {d : Nat} {h : mM} {o0 o1 o2 : Option Value} {T : mLs} {x : Nat} {st : List Value} : ev d 53 157 (o0 :: o1 :: o2 :: some (.ref x) :: T) st h = ev d 53 158 (o0 :: o1 :: o2 :: some (.ref x) :: T) (.ref x :: st) h := ev_of d_53_157 rfl
theorem d_53_158 : decode (cd 53) 158 = .ok (.getfield 172, 3) := by rw [cd_53]; decide +kernel
theorem e_53_158 {d : Nat} {h : mM} {L : mLs} {st : List Value} {a : Nat} : ev d 53 158 L (.ref a :: st) h = if mK h a = 2 then ev d 53 161 L (.int (mI h a 4) :: st) h else none := ev_gI d_53_158 (by decide +kernel) (by decide +kernel)
theorem d_53_161 : decode (cd 53) 161 = .ok (.ireturn, 1) := by rw [cd_53]; decide +kernel
theorem e_53_161 {d : Nat} {h : mM} {L : mLs} {v : Int32} : ev d 53 161 L [.int v] h = some (some (.int v), h) := ev_ri d_53_161 (by decide +kernel)
theorem d_53_162 : decode (cd 53) 162 = .ok (.aload_n 0, 1) := by rw [cd_53]; decide +kernel
theorem e_53_162 {d : Nat} {h : mM} {T : mLs} {x : Nat} {st : List Value} : ev d 53 162 ( some (.ref x) :: T) st h = ev d 53 163 ( some (.ref x) :: T) (.ref x :: st) h := ev_of d_53_162 rfl
theorem d_53_163 : decode (cd 53) 163 = .ok (.iconst 1, 1) := by rw [cd_53]; decide +kernel
theorem e_53_163 {d : Nat} {h : mM} {L : mLs} {st : List Value} : ev d 53 163 L st h = ev d 53 164 L (.int 1 :: st) h := ev_of d_53_163 rfl
theorem d_53_164 : decode (cd 53) 164 = .ok (.invokevirtual 83, 3) := by rw [cd_53]; decide +kernel
theorem e_53_164 {d : Nat} {h : mM} {L : mLs} {st : List Value} {a : Nat} {x0 : Int32} (hc : mCat st ≤ 8) : ev (d + 1) 53 164 L (.int x0 :: .ref a :: st) h = if mK h a = 9 then cV (ev d 64 0 [some (.ref a), some (.int x0)] [] h) (fun v h1 => ev (d + 1) 53 167 L (v ++ st) h1) else none := ev_cv (mj := 64) (as := [.int x0]) (rest := st) d_53_164 (by decide +kernel) rfl rfl (by show _ ≤ List.length _; simp only [List.length_cons]; have : na 64 = 1 := rfl; omega) rfl (Nat.le_of_ble_eq_true rfl) hc
theorem d_53_167 : decode (cd 53) 167 = .ok (.ireturn, 1) := by rw [cd_53]; decide +kernel
theorem e_53_167 {d : Nat} {h : mM} {L : mLs} {v : Int32} : ev d 53 167 L [.int v] h = some (some (.int v), h) := ev_ri d_53_167 (by decide +kernel)
-- 54: TideMill.flour
theorem cd_54 : cd 54 = prog_1_method_18_code := rfl
theorem d_54_0 : decode (cd 54) 0 = .ok (.iload_n 1, 1) := by rw [cd_54]; decide +kernel
theorem e_54_0 {d : Nat} {h : mM} {o0 : Option Value} {T : mLs} {x : Int32} {st : List Value} : ev d 54 0 (o0 :: some (.int x) :: T) st h = ev d 54 1 (o0 :: some (.int x) :: T) (.int x :: st) h := ev_of d_54_0 rfl
theorem d_54_1 : decode (cd 54) 1 = .ok (.invokestatic 216, 3) := by rw [cd_54]; decide +kernel
theorem e_54_1 {d : Nat} {h : mM} {L : mLs} {st : List Value} {x0 : Int32} (hc : mCat st ≤ 8) : ev (d + 1) 54 1 L (.int x0 :: st) h = cV (ev d 68 0 [some (.int x0)] [] h) (fun v h1 => ev (d + 1) 54 4 L (v ++ st) h1) := ev_cs (kd := 1) (mj := 68) (as := [.int x0]) (rest := st) d_54_1 (by decide +kernel) (by decide) rfl rfl (by show _ ≤ List.length _; simp only [List.length_cons]; have : na 68 = 1 := rfl; omega) rfl (Nat.le_of_ble_eq_true rfl) hc
theorem d_54_4 : decode (cd 54) 4 = .ok (.ifCond .eq 12, 3) := by rw [cd_54]; decide +kernel
theorem e_54_4 {d : Nat} {h : mM} {L : mLs} {st : List Value} {x : Int32} : ev d 54 4 L (.int x :: st) h = if x = 0 then ev d 54 16 L st h else ev d 54 7 L st h := ev_if (x = 0) inferInstance rfl d_54_4 (by decide)
theorem d_54_7 : decode (cd 54) 7 = .ok (.aload_n 0, 1) := by rw [cd_54]; decide +kernel
theorem e_54_7 {d : Nat} {h : mM} {T : mLs} {x : Nat} {st : List Value} : ev d 54 7 ( some (.ref x) :: T) st h = ev d 54 8 ( some (.ref x) :: T) (.ref x :: st) h := ev_of d_54_7 rfl
theorem d_54_8 : decode (cd 54) 8 = .ok (.getfield 45, 3) := by rw [cd_54]; decide +kernel
theorem e_54_8 {d : Nat} {h : mM} {L : mLs} {st : List Value} {a : Nat} : ev d 54 8 L (.ref a :: st) h = if mK h a = 9 then oB (mR h a 5) (fun b => ev d 54 11 L (.ref b :: st) h) else none := ev_gR d_54_8 (by decide +kernel) (by decide +kernel)
theorem d_54_11 : decode (cd 54) 11 = .ok (.iload_n 1, 1) := by rw [cd_54]; decide +kernel
theorem e_54_11 {d : Nat} {h : mM} {o0 : Option Value} {T : mLs} {x : Int32} {st : List Value} : ev d 54 11 (o0 :: some (.int x) :: T) st h = ev d 54 12 (o0 :: some (.int x) :: T) (.int x :: st) h := ev_of d_54_11 rfl
theorem d_54_12 : decode (cd 54) 12 = .ok (.iaload, 1) := by rw [cd_54]; decide +kernel
theorem e_54_12 {d : Nat} {h : mM} {L : mLs} {st : List Value} {a : Nat} {i : Int32} : ev d 54 12 L (.int i :: .ref a :: st) h = if (mK h a = 11 ∨ mK h a = 19) ∧ ixOK i (mL h a) = true then ev d 54 13 L (.int (mI h a i.toNatClampNeg) :: st) h else none := ev_ia d_54_12
theorem d_54_13 : decode (cd 54) 13 = .ok (.goto 8, 3) := by rw [cd_54]; decide +kernel
theorem e_54_13 {d : Nat} {h : mM} {L : mLs} {st : List Value} : ev d 54 13 L st h = ev d 54 21 L st h := ev_go d_54_13 (by decide)
theorem d_54_16 : decode (cd 54) 16 = .ok (.aload_n 0, 1) := by rw [cd_54]; decide +kernel
theorem e_54_16 {d : Nat} {h : mM} {T : mLs} {x : Nat} {st : List Value} : ev d 54 16 ( some (.ref x) :: T) st h = ev d 54 17 ( some (.ref x) :: T) (.ref x :: st) h := ev_of d_54_16 rfl
theorem d_54_17 : decode (cd 54) 17 = .ok (.iconst 1, 1) := by rw [cd_54]; decide +kernel
theorem e_54_17 {d : Nat} {h : mM} {L : mLs} {st : List Value} : ev d 54 17 L st h = ev d 54 18 L (.int 1 :: st) h := ev_of d_54_17 rfl
theorem d_54_18 : decode (cd 54) 18 = .ok (.invokevirtual 83, 3) := by rw [cd_54]; decide +kernel
theorem e_54_18 {d : Nat} {h : mM} {L : mLs} {st : List Value} {a : Nat} {x0 : Int32} (hc : mCat st ≤ 8) : ev (d + 1) 54 18 L (.int x0 :: .ref a :: st) h = if mK h a = 9 then cV (ev d 64 0 [some (.ref a), some (.int x0)] [] h) (fun v h1 => ev (d + 1) 54 21 L (v ++ st) h1) else none := ev_cv (mj := 64) (as := [.int x0]) (rest := st) d_54_18 (by decide +kernel) rfl rfl (by show _ ≤ List.length _; simp only [List.length_cons]; have : na 64 = 1 := rfl; omega) rfl (Nat.le_of_ble_eq_true rfl) hc
theorem d_54_21 : decode (cd 54) 21 = .ok (.ireturn, 1) := by rw [cd_54]; decide +kernel
theorem e_54_21 {d : Nat} {h : mM} {L : mLs} {v : Int32} : ev d 54 21 L [.int v] h = some (some (.int v), h) := ev_ri d_54_21 (by decide +kernel)
-- 55: TideMill.hours
theorem cd_55 : cd 55 = prog_1_method_19_code := rfl
theorem d_55_0 : decode (cd 55) 0 = .ok (.iload_n 1, 1) := by rw [cd_55]; decide +kernel
theorem e_55_0 {d : Nat} {h : mM} {o0 : Option Value} {T : mLs} {x : Int32} {st : List Value} : ev d 55 0 (o0 :: some (.int x) :: T) st h = ev d 55 1 (o0 :: some (.int x) :: T) (.int x :: st) h := ev_of d_55_0 rfl
theorem d_55_1 : decode (cd 55) 1 = .ok (.iconst 1, 1) := by rw [cd_55]; decide +kernel
theorem e_55_1 {d : Nat} {h : mM} {L : mLs} {st : List Value} : ev d 55 1 L st h = ev d 55 2 L (.int 1 :: st) h := ev_of d_55_1 rfl
theorem d_55_2 : decode (cd 55) 2 = .ok (.bipush 100, 2) := by rw [cd_55]; decide +kernel
theorem e_55_2 {d : Nat} {h : mM} {L : mLs} {st : List Value} : ev d 55 2 L st h = ev d 55 4 L (.int 100 :: st) h := ev_of d_55_2 rfl
theorem d_55_4 : decode (cd 55) 4 = .ok (.invokestatic 79, 3) := by rw [cd_55]; decide +kernel
theorem e_55_4 {d : Nat} {h : mM} {L : mLs} {st : List Value} {x0 : Int32} {x1 : Int32} {x2 : Int32} (hc : mCat st ≤ 8) : ev (d + 1) 55 4 L (.int x2 :: .int x1 :: .int x0 :: st) h = cV (ev d 65 0 [some (.int x0), some (.int x1), some (.int x2)] [] h) (fun v h1 => ev (d + 1) 55 7 L (v ++ st) h1) := ev_cs (kd := 1) (mj := 65) (as := [.int x0, .int x1, .int x2]) (rest := st) d_55_4 (by decide +kernel) (by decide) rfl rfl (by show _ ≤ List.length _; simp only [List.length_cons]; have : na 65 = 3 := rfl; omega) rfl (Nat.le_of_ble_eq_true rfl) hc
theorem d_55_7 : decode (cd 55) 7 = .ok (.ifCond .ne 9, 3) := by rw [cd_55]; decide +kernel
theorem e_55_7 {d : Nat} {h : mM} {L : mLs} {st : List Value} {x : Int32} : ev d 55 7 L (.int x :: st) h = if ¬ x = 0 then ev d 55 16 L st h else ev d 55 10 L st h := ev_if (¬ x = 0) inferInstance rfl d_55_7 (by decide)
theorem d_55_10 : decode (cd 55) 10 = .ok (.aload_n 0, 1) := by rw [cd_55]; decide +kernel
theorem e_55_10 {d : Nat} {h : mM} {T : mLs} {x : Nat} {st : List Value} : ev d 55 10 ( some (.ref x) :: T) st h = ev d 55 11 ( some (.ref x) :: T) (.ref x :: st) h := ev_of d_55_10 rfl
theorem d_55_11 : decode (cd 55) 11 = .ok (.iconst 1, 1) := by rw [cd_55]; decide +kernel
theorem e_55_11 {d : Nat} {h : mM} {L : mLs} {st : List Value} : ev d 55 11 L st h = ev d 55 12 L (.int 1 :: st) h := ev_of d_55_11 rfl
theorem d_55_12 : decode (cd 55) 12 = .ok (.invokevirtual 83, 3) := by rw [cd_55]; decide +kernel
theorem e_55_12 {d : Nat} {h : mM} {L : mLs} {st : List Value} {a : Nat} {x0 : Int32} (hc : mCat st ≤ 8) : ev (d + 1) 55 12 L (.int x0 :: .ref a :: st) h = if mK h a = 9 then cV (ev d 64 0 [some (.ref a), some (.int x0)] [] h) (fun v h1 => ev (d + 1) 55 15 L (v ++ st) h1) else none := ev_cv (mj := 64) (as := [.int x0]) (rest := st) d_55_12 (by decide +kernel) rfl rfl (by show _ ≤ List.length _; simp only [List.length_cons]; have : na 64 = 1 := rfl; omega) rfl (Nat.le_of_ble_eq_true rfl) hc
theorem d_55_15 : decode (cd 55) 15 = .ok (.ireturn, 1) := by rw [cd_55]; decide +kernel
theorem e_55_15 {d : Nat} {h : mM} {L : mLs} {v : Int32} : ev d 55 15 L [.int v] h = some (some (.int v), h) := ev_ri d_55_15 (by decide +kernel)
theorem d_55_16 : decode (cd 55) 16 = .ok (.aload_n 0, 1) := by rw [cd_55]; decide +kernel
theorem e_55_16 {d : Nat} {h : mM} {T : mLs} {x : Nat} {st : List Value} : ev d 55 16 ( some (.ref x) :: T) st h = ev d 55 17 ( some (.ref x) :: T) (.ref x :: st) h := ev_of d_55_16 rfl
theorem d_55_17 : decode (cd 55) 17 = .ok (.getfield 57, 3) := by rw [cd_55]; decide +kernel
theorem e_55_17 {d : Nat} {h : mM} {L : mLs} {st : List Value} {a : Nat} : ev d 55 17 L (.ref a :: st) h = if mK h a = 9 then ev d 55 20 L (.int (mI h a 9) :: st) h else none := ev_gI d_55_17 (by decide +kernel) (by decide +kernel)
theorem d_55_20 : decode (cd 55) 20 = .ok (.iload_n 1, 1) := by rw [cd_55]; decide +kernel
theorem e_55_20 {d : Nat} {h : mM} {o0 : Option Value} {T : mLs} {x : Int32} {st : List Value} : ev d 55 20 (o0 :: some (.int x) :: T) st h = ev d 55 21 (o0 :: some (.int x) :: T) (.int x :: st) h := ev_of d_55_20 rfl
theorem d_55_21 : decode (cd 55) 21 = .ok (.iadd, 1) := by rw [cd_55]; decide +kernel
theorem e_55_21 {d : Nat} {h : mM} {L : mLs} {st : List Value} {x y : Int32} : ev d 55 21 L (.int y :: .int x :: st) h = ev d 55 22 L (.int (x + y) :: st) h := ev_of d_55_21 rfl
theorem d_55_22 : decode (cd 55) 22 = .ok (.sipush 10000, 3) := by rw [cd_55]; decide +kernel
theorem e_55_22 {d : Nat} {h : mM} {L : mLs} {st : List Value} : ev d 55 22 L st h = ev d 55 25 L (.int 10000 :: st) h := ev_of d_55_22 rfl
theorem d_55_25 : decode (cd 55) 25 = .ok (.if_icmp .le 9, 3) := by rw [cd_55]; decide +kernel
theorem e_55_25 {d : Nat} {h : mM} {L : mLs} {st : List Value} {x y : Int32} : ev d 55 25 L (.int y :: .int x :: st) h = if x ≤ y then ev d 55 34 L st h else ev d 55 28 L st h := ev_ic (x ≤ y) inferInstance rfl d_55_25 (by decide)
theorem d_55_28 : decode (cd 55) 28 = .ok (.aload_n 0, 1) := by rw [cd_55]; decide +kernel
theorem e_55_28 {d : Nat} {h : mM} {T : mLs} {x : Nat} {st : List Value} : ev d 55 28 ( some (.ref x) :: T) st h = ev d 55 29 ( some (.ref x) :: T) (.ref x :: st) h := ev_of d_55_28 rfl
theorem d_55_29 : decode (cd 55) 29 = .ok (.iconst 4, 1) := by rw [cd_55]; decide +kernel
theorem e_55_29 {d : Nat} {h : mM} {L : mLs} {st : List Value} : ev d 55 29 L st h = ev d 55 30 L (.int 4 :: st) h := ev_of d_55_29 rfl
theorem d_55_30 : decode (cd 55) 30 = .ok (.invokevirtual 83, 3) := by rw [cd_55]; decide +kernel
theorem e_55_30 {d : Nat} {h : mM} {L : mLs} {st : List Value} {a : Nat} {x0 : Int32} (hc : mCat st ≤ 8) : ev (d + 1) 55 30 L (.int x0 :: .ref a :: st) h = if mK h a = 9 then cV (ev d 64 0 [some (.ref a), some (.int x0)] [] h) (fun v h1 => ev (d + 1) 55 33 L (v ++ st) h1) else none := ev_cv (mj := 64) (as := [.int x0]) (rest := st) d_55_30 (by decide +kernel) rfl rfl (by show _ ≤ List.length _; simp only [List.length_cons]; have : na 64 = 1 := rfl; omega) rfl (Nat.le_of_ble_eq_true rfl) hc
theorem d_55_33 : decode (cd 55) 33 = .ok (.ireturn, 1) := by rw [cd_55]; decide +kernel
theorem e_55_33 {d : Nat} {h : mM} {L : mLs} {v : Int32} : ev d 55 33 L [.int v] h = some (some (.int v), h) := ev_ri d_55_33 (by decide +kernel)
theorem d_55_34 : decode (cd 55) 34 = .ok (.iconst 0, 1) := by rw [cd_55]; decide +kernel
theorem e_55_34 {d : Nat} {h : mM} {L : mLs} {st : List Value} : ev d 55 34 L st h = ev d 55 35 L (.int 0 :: st) h := ev_of d_55_34 rfl
theorem d_55_35 : decode (cd 55) 35 = .ok (.istore_n 2, 1) := by rw [cd_55]; decide +kernel
theorem e_55_35 {d : Nat} {h : mM} {o0 o1 o2 : Option Value} {T : mLs} {x : Int32} {st : List Value} (hl : mLong o1 = false) : ev d 55 35 (o0 :: o1 :: o2 :: T) (.int x :: st) h = ev d 55 36 (o0 :: o1 :: some (.int x) :: T) st h := ev_st_in d_55_35 (by decide +kernel) (mS1_s (j := 1) hl)
theorem d_55_36 : decode (cd 55) 36 = .ok (.iconst 0, 1) := by rw [cd_55]; decide +kernel
theorem e_55_36 {d : Nat} {h : mM} {L : mLs} {st : List Value} : ev d 55 36 L st h = ev d 55 37 L (.int 0 :: st) h := ev_of d_55_36 rfl
theorem d_55_37 : decode (cd 55) 37 = .ok (.istore_n 3, 1) := by rw [cd_55]; decide +kernel
theorem e_55_37 {d : Nat} {h : mM} {o0 o1 o2 o3 : Option Value} {T : mLs} {x : Int32} {st : List Value} (hl : mLong o2 = false) : ev d 55 37 (o0 :: o1 :: o2 :: o3 :: T) (.int x :: st) h = ev d 55 38 (o0 :: o1 :: o2 :: some (.int x) :: T) st h := ev_st_in d_55_37 (by decide +kernel) (mS1_s (j := 2) hl)
theorem d_55_38 : decode (cd 55) 38 = .ok (.iload_n 3, 1) := by rw [cd_55]; decide +kernel
theorem e_55_38 {d : Nat} {h : mM} {o0 o1 o2 : Option Value} {T : mLs} {x : Int32} {st : List Value} : ev d 55 38 (o0 :: o1 :: o2 :: some (.int x) :: T) st h = ev d 55 39 (o0 :: o1 :: o2 :: some (.int x) :: T) (.int x :: st) h := ev_of d_55_38 rfl
theorem d_55_39 : decode (cd 55) 39 = .ok (.iload_n 1, 1) := by rw [cd_55]; decide +kernel
theorem e_55_39 {d : Nat} {h : mM} {o0 : Option Value} {T : mLs} {x : Int32} {st : List Value} : ev d 55 39 (o0 :: some (.int x) :: T) st h = ev d 55 40 (o0 :: some (.int x) :: T) (.int x :: st) h := ev_of d_55_39 rfl
theorem d_55_40 : decode (cd 55) 40 = .ok (.if_icmp .ge 53, 3) := by rw [cd_55]; decide +kernel
theorem e_55_40 {d : Nat} {h : mM} {L : mLs} {st : List Value} {x y : Int32} : ev d 55 40 L (.int y :: .int x :: st) h = if y ≤ x then ev d 55 93 L st h else ev d 55 43 L st h := ev_ic (y ≤ x) inferInstance rfl d_55_40 (by decide)
theorem d_55_43 : decode (cd 55) 43 = .ok (.aload_n 0, 1) := by rw [cd_55]; decide +kernel
theorem e_55_43 {d : Nat} {h : mM} {T : mLs} {x : Nat} {st : List Value} : ev d 55 43 ( some (.ref x) :: T) st h = ev d 55 44 ( some (.ref x) :: T) (.ref x :: st) h := ev_of d_55_43 rfl
theorem d_55_44 : decode (cd 55) 44 = .ok (.getfield 28, 3) := by rw [cd_55]; decide +kernel
theorem e_55_44 {d : Nat} {h : mM} {L : mLs} {st : List Value} {a : Nat} : ev d 55 44 L (.ref a :: st) h = if mK h a = 9 then oB (mR h a 2) (fun b => ev d 55 47 L (.ref b :: st) h) else none := ev_gR d_55_44 (by decide +kernel) (by decide +kernel)
theorem d_55_47 : decode (cd 55) 47 = .ok (.aload_n 0, 1) := by rw [cd_55]; decide +kernel
theorem e_55_47 {d : Nat} {h : mM} {T : mLs} {x : Nat} {st : List Value} : ev d 55 47 ( some (.ref x) :: T) st h = ev d 55 48 ( some (.ref x) :: T) (.ref x :: st) h := ev_of d_55_47 rfl
theorem d_55_48 : decode (cd 55) 48 = .ok (.getfield 41, 3) := by rw [cd_55]; decide +kernel
theorem e_55_48 {d : Nat} {h : mM} {L : mLs} {st : List Value} {a : Nat} : ev d 55 48 L (.ref a :: st) h = if mK h a = 9 then oB (mR h a 4) (fun b => ev d 55 51 L (.ref b :: st) h) else none := ev_gR d_55_48 (by decide +kernel) (by decide +kernel)
theorem d_55_51 : decode (cd 55) 51 = .ok (.aload_n 0, 1) := by rw [cd_55]; decide +kernel
theorem e_55_51 {d : Nat} {h : mM} {T : mLs} {x : Nat} {st : List Value} : ev d 55 51 ( some (.ref x) :: T) st h = ev d 55 52 ( some (.ref x) :: T) (.ref x :: st) h := ev_of d_55_51 rfl
theorem d_55_52 : decode (cd 55) 52 = .ok (.getfield 10, 3) := by rw [cd_55]; decide +kernel
theorem e_55_52 {d : Nat} {h : mM} {L : mLs} {st : List Value} {a : Nat} : ev d 55 52 L (.ref a :: st) h = if mK h a = 9 then oB (mR h a 0) (fun b => ev d 55 55 L (.ref b :: st) h) else none := ev_gR d_55_52 (by decide +kernel) (by decide +kernel)
theorem d_55_55 : decode (cd 55) 55 = .ok (.aload_n 0, 1) := by rw [cd_55]; decide +kernel
theorem e_55_55 {d : Nat} {h : mM} {T : mLs} {x : Nat} {st : List Value} : ev d 55 55 ( some (.ref x) :: T) st h = ev d 55 56 ( some (.ref x) :: T) (.ref x :: st) h := ev_of d_55_55 rfl
theorem d_55_56 : decode (cd 55) 56 = .ok (.getfield 57, 3) := by rw [cd_55]; decide +kernel
theorem e_55_56 {d : Nat} {h : mM} {L : mLs} {st : List Value} {a : Nat} : ev d 55 56 L (.ref a :: st) h = if mK h a = 9 then ev d 55 59 L (.int (mI h a 9) :: st) h else none := ev_gI d_55_56 (by decide +kernel) (by decide +kernel)
theorem d_55_59 : decode (cd 55) 59 = .ok (.invokevirtual 93, 3) := by rw [cd_55]; decide +kernel
theorem e_55_59 {d : Nat} {h : mM} {L : mLs} {st : List Value} {a : Nat} {x0 : Int32} (hc : mCat st ≤ 8) : ev (d + 1) 55 59 L (.int x0 :: .ref a :: st) h = if mK h a = 7 then cV (ev d 31 0 [some (.ref a), some (.int x0)] [] h) (fun v h1 => ev (d + 1) 55 62 L (v ++ st) h1) else none := ev_cv (mj := 31) (as := [.int x0]) (rest := st) d_55_59 (by decide +kernel) rfl rfl (by show _ ≤ List.length _; simp only [List.length_cons]; have : na 31 = 1 := rfl; omega) rfl (Nat.le_of_ble_eq_true rfl) hc
theorem d_55_62 : decode (cd 55) 62 = .ok (.iconst (-1), 1) := by rw [cd_55]; decide +kernel
theorem e_55_62 {d : Nat} {h : mM} {L : mLs} {st : List Value} : ev d 55 62 L st h = ev d 55 63 L (.int (-1) :: st) h := ev_of d_55_62 rfl
theorem d_55_63 : decode (cd 55) 63 = .ok (.invokevirtual 256, 3) := by rw [cd_55]; decide +kernel
theorem e_55_63 {d : Nat} {h : mM} {L : mLs} {st : List Value} {a : Nat} {x0 : Nat} {x1 : Int32} {x2 : Int32} (hc : mCat st ≤ 8) : ev (d + 1) 55 63 L (.int x2 :: .int x1 :: .ref x0 :: .ref a :: st) h = if mK h a = 1 then cV (ev d 2 0 [some (.ref a), some (.ref x0), some (.int x1), some (.int x2)] [] h) (fun v h1 => ev (d + 1) 55 66 L (v ++ st) h1) else none := ev_cv (mj := 2) (as := [.ref x0, .int x1, .int x2]) (rest := st) d_55_63 (by decide +kernel) rfl rfl (by show _ ≤ List.length _; simp only [List.length_cons]; have : na 2 = 3 := rfl; omega) rfl (Nat.le_of_ble_eq_true rfl) hc
theorem d_55_66 : decode (cd 55) 66 = .ok (.aload_n 0, 1) := by rw [cd_55]; decide +kernel
theorem e_55_66 {d : Nat} {h : mM} {T : mLs} {x : Nat} {st : List Value} : ev d 55 66 ( some (.ref x) :: T) st h = ev d 55 67 ( some (.ref x) :: T) (.ref x :: st) h := ev_of d_55_66 rfl
theorem d_55_67 : decode (cd 55) 67 = .ok (.invokevirtual 260, 3) := by rw [cd_55]; decide +kernel
theorem e_55_67 {d : Nat} {h : mM} {L : mLs} {st : List Value} {a : Nat} (hc : mCat st ≤ 8) : ev (d + 1) 55 67 L (.ref a :: st) h = if mK h a = 9 then cV (ev d 73 0 [some (.ref a)] [] h) (fun v h1 => ev (d + 1) 55 70 L (v ++ st) h1) else none := ev_cv (mj := 73) (as := []) (rest := st) d_55_67 (by decide +kernel) rfl rfl (by show _ ≤ List.length _; simp only [List.length_cons]; have : na 73 = 0 := rfl; omega) rfl (Nat.le_of_ble_eq_true rfl) hc
theorem d_55_70 : decode (cd 55) 70 = .ok (.iload_n 2, 1) := by rw [cd_55]; decide +kernel
theorem e_55_70 {d : Nat} {h : mM} {o0 o1 : Option Value} {T : mLs} {x : Int32} {st : List Value} : ev d 55 70 (o0 :: o1 :: some (.int x) :: T) st h = ev d 55 71 (o0 :: o1 :: some (.int x) :: T) (.int x :: st) h := ev_of d_55_70 rfl
theorem d_55_71 : decode (cd 55) 71 = .ok (.aload_n 0, 1) := by rw [cd_55]; decide +kernel
theorem e_55_71 {d : Nat} {h : mM} {T : mLs} {x : Nat} {st : List Value} : ev d 55 71 ( some (.ref x) :: T) st h = ev d 55 72 ( some (.ref x) :: T) (.ref x :: st) h := ev_of d_55_71 rfl
theorem d_55_72 : decode (cd 55) 72 = .ok (.invokevirtual 263, 3) := by rw [cd_55]; decide +kernel
theorem e_55_72 {d : Nat} {h : mM} {L : mLs} {st : List Value} {a : Nat} (hc : mCat st ≤ 8) : ev (d + 1) 55 72 L (.ref a :: st) h = if mK h a = 9 then cV (ev d 74 0 [some (.ref a), none, none, none, none] [] h) (fun v h1 => ev (d + 1) 55 75 L (v ++ st) h1) else none := ev_cv (mj := 74) (as := []) (rest := st) d_55_72 (by decide +kernel) rfl rfl (by show _ ≤ List.length _; simp only [List.length_cons]; have : na 74 = 0 := rfl; omega) rfl (Nat.le_of_ble_eq_true rfl) hc
theorem d_55_75 : decode (cd 55) 75 = .ok (.iadd, 1) := by rw [cd_55]; decide +kernel
theorem e_55_75 {d : Nat} {h : mM} {L : mLs} {st : List Value} {x y : Int32} : ev d 55 75 L (.int y :: .int x :: st) h = ev d 55 76 L (.int (x + y) :: st) h := ev_of d_55_75 rfl
theorem d_55_76 : decode (cd 55) 76 = .ok (.istore_n 2, 1) := by rw [cd_55]; decide +kernel
theorem e_55_76 {d : Nat} {h : mM} {o0 o1 o2 : Option Value} {T : mLs} {x : Int32} {st : List Value} (hl : mLong o1 = false) : ev d 55 76 (o0 :: o1 :: o2 :: T) (.int x :: st) h = ev d 55 77 (o0 :: o1 :: some (.int x) :: T) st h := ev_st_in d_55_76 (by decide +kernel) (mS1_s (j := 1) hl)
theorem d_55_77 : decode (cd 55) 77 = .ok (.aload_n 0, 1) := by rw [cd_55]; decide +kernel
theorem e_55_77 {d : Nat} {h : mM} {T : mLs} {x : Nat} {st : List Value} : ev d 55 77 ( some (.ref x) :: T) st h = ev d 55 78 ( some (.ref x) :: T) (.ref x :: st) h := ev_of d_55_77 rfl
theorem d_55_78 : decode (cd 55) 78 = .ok (.dup, 1) := by rw [cd_55]; decide +kernel
theorem e_55_78r {d : Nat} {h : mM} {L : mLs} {st : List Value} {a : Nat} : ev d 55 78 L (.ref a :: st) h = ev d 55 79 L (.ref a :: .ref a :: st) h := ev_of d_55_78 rfl
theorem e_55_78i {d : Nat} {h : mM} {L : mLs} {st : List Value} {x : Int32} : ev d 55 78 L (.int x :: st) h = ev d 55 79 L (.int x :: .int x :: st) h := ev_of d_55_78 rfl
theorem d_55_79 : decode (cd 55) 79 = .ok (.getfield 57, 3) := by rw [cd_55]; decide +kernel
theorem e_55_79 {d : Nat} {h : mM} {L : mLs} {st : List Value} {a : Nat} : ev d 55 79 L (.ref a :: st) h = if mK h a = 9 then ev d 55 82 L (.int (mI h a 9) :: st) h else none := ev_gI d_55_79 (by decide +kernel) (by decide +kernel)
theorem d_55_82 : decode (cd 55) 82 = .ok (.iconst 1, 1) := by rw [cd_55]; decide +kernel
theorem e_55_82 {d : Nat} {h : mM} {L : mLs} {st : List Value} : ev d 55 82 L st h = ev d 55 83 L (.int 1 :: st) h := ev_of d_55_82 rfl
theorem d_55_83 : decode (cd 55) 83 = .ok (.iadd, 1) := by rw [cd_55]; decide +kernel
theorem e_55_83 {d : Nat} {h : mM} {L : mLs} {st : List Value} {x y : Int32} : ev d 55 83 L (.int y :: .int x :: st) h = ev d 55 84 L (.int (x + y) :: st) h := ev_of d_55_83 rfl
theorem d_55_84 : decode (cd 55) 84 = .ok (.putfield 57, 3) := by rw [cd_55]; decide +kernel
theorem e_55_84 {d : Nat} {h : mM} {L : mLs} {st : List Value} {a : Nat} {v : Int32} : ev d 55 84 L (.int v :: .ref a :: st) h = if mK h a = 9 then ev d 55 87 L st (wI h a 9 v) else none := ev_pI d_55_84 (by decide +kernel) (by decide +kernel) (by decide +kernel)
theorem d_55_87 : decode (cd 55) 87 = .ok (.iinc 3 1, 3) := by rw [cd_55]; decide +kernel
theorem e_55_87 {d : Nat} {h : mM} {o0 o1 o2 : Option Value} {T : mLs} {x : Int32} {st : List Value} (hl : mLong o2 = false) : ev d 55 87 (o0 :: o1 :: o2 :: some (.int x) :: T) st h = ev d 55 90 (o0 :: o1 :: o2 :: some (.int (x + 1)) :: T) st h := ev_inc d_55_87 (by decide +kernel) rfl rfl (mS1_s (j := 2) hl)
theorem d_55_90 : decode (cd 55) 90 = .ok (.goto (-52), 3) := by rw [cd_55]; decide +kernel
theorem e_55_90 {d : Nat} {h : mM} {L : mLs} {st : List Value} : ev d 55 90 L st h = ev d 55 38 L st h := ev_go d_55_90 (by decide)
theorem d_55_93 : decode (cd 55) 93 = .ok (.iload_n 2, 1) := by rw [cd_55]; decide +kernel
theorem e_55_93 {d : Nat} {h : mM} {o0 o1 : Option Value} {T : mLs} {x : Int32} {st : List Value} : ev d 55 93 (o0 :: o1 :: some (.int x) :: T) st h = ev d 55 94 (o0 :: o1 :: some (.int x) :: T) (.int x :: st) h := ev_of d_55_93 rfl
theorem d_55_94 : decode (cd 55) 94 = .ok (.ireturn, 1) := by rw [cd_55]; decide +kernel
theorem e_55_94 {d : Nat} {h : mM} {L : mLs} {v : Int32} : ev d 55 94 L [.int v] h = some (some (.int v), h) := ev_ri d_55_94 (by decide +kernel)
-- 56: TideMill.running
theorem cd_56 : cd 56 = prog_1_method_20_code := rfl
theorem d_56_0 : decode (cd 56) 0 = .ok (.aload_n 0, 1) := by rw [cd_56]; decide +kernel
theorem e_56_0 {d : Nat} {h : mM} {T : mLs} {x : Nat} {st : List Value} : ev d 56 0 ( some (.ref x) :: T) st h = ev d 56 1 ( some (.ref x) :: T) (.ref x :: st) h := ev_of d_56_0 rfl
theorem d_56_1 : decode (cd 56) 1 = .ok (.invokevirtual 266, 3) := by rw [cd_56]; decide +kernel
theorem e_56_1 {d : Nat} {h : mM} {L : mLs} {st : List Value} {a : Nat} (hc : mCat st ≤ 8) : ev (d + 1) 56 1 L (.ref a :: st) h = if mK h a = 9 then cV (ev d 75 0 [some (.ref a)] [] h) (fun v h1 => ev (d + 1) 56 4 L (v ++ st) h1) else none := ev_cv (mj := 75) (as := []) (rest := st) d_56_1 (by decide +kernel) rfl rfl (by show _ ≤ List.length _; simp only [List.length_cons]; have : na 75 = 0 := rfl; omega) rfl (Nat.le_of_ble_eq_true rfl) hc
theorem d_56_4 : decode (cd 56) 4 = .ok (.aload_n 0, 1) := by rw [cd_56]; decide +kernel
theorem e_56_4 {d : Nat} {h : mM} {T : mLs} {x : Nat} {st : List Value} : ev d 56 4 ( some (.ref x) :: T) st h = ev d 56 5 ( some (.ref x) :: T) (.ref x :: st) h := ev_of d_56_4 rfl
theorem d_56_5 : decode (cd 56) 5 = .ok (.getfield 28, 3) := by rw [cd_56]; decide +kernel
theorem e_56_5 {d : Nat} {h : mM} {L : mLs} {st : List Value} {a : Nat} : ev d 56 5 L (.ref a :: st) h = if mK h a = 9 then oB (mR h a 2) (fun b => ev d 56 8 L (.ref b :: st) h) else none := ev_gR d_56_5 (by decide +kernel) (by decide +kernel)
theorem d_56_8 : decode (cd 56) 8 = .ok (.aload_n 0, 1) := by rw [cd_56]; decide +kernel
theorem e_56_8 {d : Nat} {h : mM} {T : mLs} {x : Nat} {st : List Value} : ev d 56 8 ( some (.ref x) :: T) st h = ev d 56 9 ( some (.ref x) :: T) (.ref x :: st) h := ev_of d_56_8 rfl
theorem d_56_9 : decode (cd 56) 9 = .ok (.getfield 54, 3) := by rw [cd_56]; decide +kernel
theorem e_56_9 {d : Nat} {h : mM} {L : mLs} {st : List Value} {a : Nat} : ev d 56 9 L (.ref a :: st) h = if mK h a = 9 then oB (mR h a 8) (fun b => ev d 56 12 L (.ref b :: st) h) else none := ev_gR d_56_9 (by decide +kernel) (by decide +kernel)
theorem d_56_12 : decode (cd 56) 12 = .ok (.aload_n 0, 1) := by rw [cd_56]; decide +kernel
theorem e_56_12 {d : Nat} {h : mM} {T : mLs} {x : Nat} {st : List Value} : ev d 56 12 ( some (.ref x) :: T) st h = ev d 56 13 ( some (.ref x) :: T) (.ref x :: st) h := ev_of d_56_12 rfl
theorem d_56_13 : decode (cd 56) 13 = .ok (.getfield 10, 3) := by rw [cd_56]; decide +kernel
theorem e_56_13 {d : Nat} {h : mM} {L : mLs} {st : List Value} {a : Nat} : ev d 56 13 L (.ref a :: st) h = if mK h a = 9 then oB (mR h a 0) (fun b => ev d 56 16 L (.ref b :: st) h) else none := ev_gR d_56_13 (by decide +kernel) (by decide +kernel)
theorem d_56_16 : decode (cd 56) 16 = .ok (.aload_n 0, 1) := by rw [cd_56]; decide +kernel
theorem e_56_16 {d : Nat} {h : mM} {T : mLs} {x : Nat} {st : List Value} : ev d 56 16 ( some (.ref x) :: T) st h = ev d 56 17 ( some (.ref x) :: T) (.ref x :: st) h := ev_of d_56_16 rfl
theorem d_56_17 : decode (cd 56) 17 = .ok (.getfield 57, 3) := by rw [cd_56]; decide +kernel
theorem e_56_17 {d : Nat} {h : mM} {L : mLs} {st : List Value} {a : Nat} : ev d 56 17 L (.ref a :: st) h = if mK h a = 9 then ev d 56 20 L (.int (mI h a 9) :: st) h else none := ev_gI d_56_17 (by decide +kernel) (by decide +kernel)
theorem d_56_20 : decode (cd 56) 20 = .ok (.invokevirtual 93, 3) := by rw [cd_56]; decide +kernel
theorem e_56_20 {d : Nat} {h : mM} {L : mLs} {st : List Value} {a : Nat} {x0 : Int32} (hc : mCat st ≤ 8) : ev (d + 1) 56 20 L (.int x0 :: .ref a :: st) h = if mK h a = 7 then cV (ev d 31 0 [some (.ref a), some (.int x0)] [] h) (fun v h1 => ev (d + 1) 56 23 L (v ++ st) h1) else none := ev_cv (mj := 31) (as := [.int x0]) (rest := st) d_56_20 (by decide +kernel) rfl rfl (by show _ ≤ List.length _; simp only [List.length_cons]; have : na 31 = 1 := rfl; omega) rfl (Nat.le_of_ble_eq_true rfl) hc
theorem d_56_23 : decode (cd 56) 23 = .ok (.iconst (-1), 1) := by rw [cd_56]; decide +kernel
theorem e_56_23 {d : Nat} {h : mM} {L : mLs} {st : List Value} : ev d 56 23 L st h = ev d 56 24 L (.int (-1) :: st) h := ev_of d_56_23 rfl
theorem d_56_24 : decode (cd 56) 24 = .ok (.invokevirtual 256, 3) := by rw [cd_56]; decide +kernel
theorem e_56_24 {d : Nat} {h : mM} {L : mLs} {st : List Value} {a : Nat} {x0 : Nat} {x1 : Int32} {x2 : Int32} (hc : mCat st ≤ 8) : ev (d + 1) 56 24 L (.int x2 :: .int x1 :: .ref x0 :: .ref a :: st) h = if mK h a = 1 then cV (ev d 2 0 [some (.ref a), some (.ref x0), some (.int x1), some (.int x2)] [] h) (fun v h1 => ev (d + 1) 56 27 L (v ++ st) h1) else none := ev_cv (mj := 2) (as := [.ref x0, .int x1, .int x2]) (rest := st) d_56_24 (by decide +kernel) rfl rfl (by show _ ≤ List.length _; simp only [List.length_cons]; have : na 2 = 3 := rfl; omega) rfl (Nat.le_of_ble_eq_true rfl) hc
theorem d_56_27 : decode (cd 56) 27 = .ok (.iconst 0, 1) := by rw [cd_56]; decide +kernel
theorem e_56_27 {d : Nat} {h : mM} {L : mLs} {st : List Value} : ev d 56 27 L st h = ev d 56 28 L (.int 0 :: st) h := ev_of d_56_27 rfl
theorem d_56_28 : decode (cd 56) 28 = .ok (.istore_n 1, 1) := by rw [cd_56]; decide +kernel
theorem e_56_28 {d : Nat} {h : mM} {o0 o1 : Option Value} {T : mLs} {x : Int32} {st : List Value} (hl : mLong o0 = false) : ev d 56 28 (o0 :: o1 :: T) (.int x :: st) h = ev d 56 29 (o0 :: some (.int x) :: T) st h := ev_st_in d_56_28 (by decide +kernel) (mS1_s (j := 0) hl)
theorem d_56_29 : decode (cd 56) 29 = .ok (.iconst 0, 1) := by rw [cd_56]; decide +kernel
theorem e_56_29 {d : Nat} {h : mM} {L : mLs} {st : List Value} : ev d 56 29 L st h = ev d 56 30 L (.int 0 :: st) h := ev_of d_56_29 rfl
theorem d_56_30 : decode (cd 56) 30 = .ok (.istore_n 2, 1) := by rw [cd_56]; decide +kernel
theorem e_56_30 {d : Nat} {h : mM} {o0 o1 o2 : Option Value} {T : mLs} {x : Int32} {st : List Value} (hl : mLong o1 = false) : ev d 56 30 (o0 :: o1 :: o2 :: T) (.int x :: st) h = ev d 56 31 (o0 :: o1 :: some (.int x) :: T) st h := ev_st_in d_56_30 (by decide +kernel) (mS1_s (j := 1) hl)
theorem d_56_31 : decode (cd 56) 31 = .ok (.iload_n 2, 1) := by rw [cd_56]; decide +kernel
theorem e_56_31 {d : Nat} {h : mM} {o0 o1 : Option Value} {T : mLs} {x : Int32} {st : List Value} : ev d 56 31 (o0 :: o1 :: some (.int x) :: T) st h = ev d 56 32 (o0 :: o1 :: some (.int x) :: T) (.int x :: st) h := ev_of d_56_31 rfl
theorem d_56_32 : decode (cd 56) 32 = .ok (.bipush 12, 2) := by rw [cd_56]; decide +kernel
theorem e_56_32 {d : Nat} {h : mM} {L : mLs} {st : List Value} : ev d 56 32 L st h = ev d 56 34 L (.int 12 :: st) h := ev_of d_56_32 rfl
theorem d_56_34 : decode (cd 56) 34 = .ok (.if_icmp .ge 27, 3) := by rw [cd_56]; decide +kernel
theorem e_56_34 {d : Nat} {h : mM} {L : mLs} {st : List Value} {x y : Int32} : ev d 56 34 L (.int y :: .int x :: st) h = if y ≤ x then ev d 56 61 L st h else ev d 56 37 L st h := ev_ic (y ≤ x) inferInstance rfl d_56_34 (by decide)
theorem d_56_37 : decode (cd 56) 37 = .ok (.aload_n 0, 1) := by rw [cd_56]; decide +kernel
theorem e_56_37 {d : Nat} {h : mM} {T : mLs} {x : Nat} {st : List Value} : ev d 56 37 ( some (.ref x) :: T) st h = ev d 56 38 ( some (.ref x) :: T) (.ref x :: st) h := ev_of d_56_37 rfl
theorem d_56_38 : decode (cd 56) 38 = .ok (.getfield 28, 3) := by rw [cd_56]; decide +kernel
theorem e_56_38 {d : Nat} {h : mM} {L : mLs} {st : List Value} {a : Nat} : ev d 56 38 L (.ref a :: st) h = if mK h a = 9 then oB (mR h a 2) (fun b => ev d 56 41 L (.ref b :: st) h) else none := ev_gR d_56_38 (by decide +kernel) (by decide +kernel)
theorem d_56_41 : decode (cd 56) 41 = .ok (.getfield 269, 3) := by rw [cd_56]; decide +kernel
theorem e_56_41 {d : Nat} {h : mM} {L : mLs} {st : List Value} {a : Nat} : ev d 56 41 L (.ref a :: st) h = if mK h a = 1 then oB (mR h a 1) (fun b => ev d 56 44 L (.ref b :: st) h) else none := ev_gR d_56_41 (by decide +kernel) (by decide +kernel)
theorem d_56_44 : decode (cd 56) 44 = .ok (.iload_n 2, 1) := by rw [cd_56]; decide +kernel
theorem e_56_44 {d : Nat} {h : mM} {o0 o1 : Option Value} {T : mLs} {x : Int32} {st : List Value} : ev d 56 44 (o0 :: o1 :: some (.int x) :: T) st h = ev d 56 45 (o0 :: o1 :: some (.int x) :: T) (.int x :: st) h := ev_of d_56_44 rfl
theorem d_56_45 : decode (cd 56) 45 = .ok (.iaload, 1) := by rw [cd_56]; decide +kernel
theorem e_56_45 {d : Nat} {h : mM} {L : mLs} {st : List Value} {a : Nat} {i : Int32} : ev d 56 45 L (.int i :: .ref a :: st) h = if (mK h a = 11 ∨ mK h a = 19) ∧ ixOK i (mL h a) = true then ev d 56 46 L (.int (mI h a i.toNatClampNeg) :: st) h else none := ev_ia d_56_45
theorem d_56_46 : decode (cd 56) 46 = .ok (.ifCond .le 9, 3) := by rw [cd_56]; decide +kernel
theorem e_56_46 {d : Nat} {h : mM} {L : mLs} {st : List Value} {x : Int32} : ev d 56 46 L (.int x :: st) h = if x ≤ 0 then ev d 56 55 L st h else ev d 56 49 L st h := ev_if (x ≤ 0) inferInstance rfl d_56_46 (by decide)
theorem d_56_49 : decode (cd 56) 49 = .ok (.iload_n 1, 1) := by rw [cd_56]; decide +kernel
theorem e_56_49 {d : Nat} {h : mM} {o0 : Option Value} {T : mLs} {x : Int32} {st : List Value} : ev d 56 49 (o0 :: some (.int x) :: T) st h = ev d 56 50 (o0 :: some (.int x) :: T) (.int x :: st) h := ev_of d_56_49 rfl
theorem d_56_50 : decode (cd 56) 50 = .ok (.iconst 1, 1) := by rw [cd_56]; decide +kernel
theorem e_56_50 {d : Nat} {h : mM} {L : mLs} {st : List Value} : ev d 56 50 L st h = ev d 56 51 L (.int 1 :: st) h := ev_of d_56_50 rfl
theorem d_56_51 : decode (cd 56) 51 = .ok (.iload_n 2, 1) := by rw [cd_56]; decide +kernel
theorem e_56_51 {d : Nat} {h : mM} {o0 o1 : Option Value} {T : mLs} {x : Int32} {st : List Value} : ev d 56 51 (o0 :: o1 :: some (.int x) :: T) st h = ev d 56 52 (o0 :: o1 :: some (.int x) :: T) (.int x :: st) h := ev_of d_56_51 rfl
theorem d_56_52 : decode (cd 56) 52 = .ok (.ishl, 1) := by rw [cd_56]; decide +kernel
theorem e_56_52 {d : Nat} {h : mM} {L : mLs} {st : List Value} {x y : Int32} : ev d 56 52 L (.int y :: .int x :: st) h = ev d 56 53 L (.int (x <<< (y &&& 31)) :: st) h := ev_of d_56_52 rfl
theorem d_56_53 : decode (cd 56) 53 = .ok (.ior, 1) := by rw [cd_56]; decide +kernel
theorem e_56_53 {d : Nat} {h : mM} {L : mLs} {st : List Value} {x y : Int32} : ev d 56 53 L (.int y :: .int x :: st) h = ev d 56 54 L (.int (x ||| y) :: st) h := ev_of d_56_53 rfl
theorem d_56_54 : decode (cd 56) 54 = .ok (.istore_n 1, 1) := by rw [cd_56]; decide +kernel
theorem e_56_54 {d : Nat} {h : mM} {o0 o1 : Option Value} {T : mLs} {x : Int32} {st : List Value} (hl : mLong o0 = false) : ev d 56 54 (o0 :: o1 :: T) (.int x :: st) h = ev d 56 55 (o0 :: some (.int x) :: T) st h := ev_st_in d_56_54 (by decide +kernel) (mS1_s (j := 0) hl)
theorem d_56_55 : decode (cd 56) 55 = .ok (.iinc 2 1, 3) := by rw [cd_56]; decide +kernel
theorem e_56_55 {d : Nat} {h : mM} {o0 o1 : Option Value} {T : mLs} {x : Int32} {st : List Value} (hl : mLong o1 = false) : ev d 56 55 (o0 :: o1 :: some (.int x) :: T) st h = ev d 56 58 (o0 :: o1 :: some (.int (x + 1)) :: T) st h := ev_inc d_56_55 (by decide +kernel) rfl rfl (mS1_s (j := 1) hl)
theorem d_56_58 : decode (cd 56) 58 = .ok (.goto (-27), 3) := by rw [cd_56]; decide +kernel
theorem e_56_58 {d : Nat} {h : mM} {L : mLs} {st : List Value} : ev d 56 58 L st h = ev d 56 31 L st h := ev_go d_56_58 (by decide)
theorem d_56_61 : decode (cd 56) 61 = .ok (.iload_n 1, 1) := by rw [cd_56]; decide +kernel
theorem e_56_61 {d : Nat} {h : mM} {o0 : Option Value} {T : mLs} {x : Int32} {st : List Value} : ev d 56 61 (o0 :: some (.int x) :: T) st h = ev d 56 62 (o0 :: some (.int x) :: T) (.int x :: st) h := ev_of d_56_61 rfl
theorem d_56_62 : decode (cd 56) 62 = .ok (.ireturn, 1) := by rw [cd_56]; decide +kernel
theorem e_56_62 {d : Nat} {h : mM} {L : mLs} {v : Int32} : ev d 56 62 L [.int v] h = some (some (.int v), h) := ev_ri d_56_62 (by decide +kernel)
-- 57: TideMill.best
theorem cd_57 : cd 57 = prog_1_method_21_code := rfl
theorem d_57_0 : decode (cd 57) 0 = .ok (.aload_n 0, 1) := by rw [cd_57]; decide +kernel
theorem e_57_0 {d : Nat} {h : mM} {T : mLs} {x : Nat} {st : List Value} : ev d 57 0 ( some (.ref x) :: T) st h = ev d 57 1 ( some (.ref x) :: T) (.ref x :: st) h := ev_of d_57_0 rfl
theorem d_57_1 : decode (cd 57) 1 = .ok (.iload_n 1, 1) := by rw [cd_57]; decide +kernel
theorem e_57_1 {d : Nat} {h : mM} {o0 : Option Value} {T : mLs} {x : Int32} {st : List Value} : ev d 57 1 (o0 :: some (.int x) :: T) st h = ev d 57 2 (o0 :: some (.int x) :: T) (.int x :: st) h := ev_of d_57_1 rfl
theorem d_57_2 : decode (cd 57) 2 = .ok (.invokevirtual 185, 3) := by rw [cd_57]; decide +kernel
theorem e_57_2 {d : Nat} {h : mM} {L : mLs} {st : List Value} {a : Nat} {x0 : Int32} (hc : mCat st ≤ 8) : ev (d + 1) 57 2 L (.int x0 :: .ref a :: st) h = if mK h a = 9 then cV (ev d 71 0 [some (.ref a), some (.int x0)] [] h) (fun v h1 => ev (d + 1) 57 5 L (v ++ st) h1) else none := ev_cv (mj := 71) (as := [.int x0]) (rest := st) d_57_2 (by decide +kernel) rfl rfl (by show _ ≤ List.length _; simp only [List.length_cons]; have : na 71 = 1 := rfl; omega) rfl (Nat.le_of_ble_eq_true rfl) hc
theorem d_57_5 : decode (cd 57) 5 = .ok (.ifCond .eq 22, 3) := by rw [cd_57]; decide +kernel
theorem e_57_5 {d : Nat} {h : mM} {L : mLs} {st : List Value} {x : Int32} : ev d 57 5 L (.int x :: st) h = if x = 0 then ev d 57 27 L st h else ev d 57 8 L st h := ev_if (x = 0) inferInstance rfl d_57_5 (by decide)
theorem d_57_8 : decode (cd 57) 8 = .ok (.iload_n 2, 1) := by rw [cd_57]; decide +kernel
theorem e_57_8 {d : Nat} {h : mM} {o0 o1 : Option Value} {T : mLs} {x : Int32} {st : List Value} : ev d 57 8 (o0 :: o1 :: some (.int x) :: T) st h = ev d 57 9 (o0 :: o1 :: some (.int x) :: T) (.int x :: st) h := ev_of d_57_8 rfl
theorem d_57_9 : decode (cd 57) 9 = .ok (.iconst 1, 1) := by rw [cd_57]; decide +kernel
theorem e_57_9 {d : Nat} {h : mM} {L : mLs} {st : List Value} : ev d 57 9 L st h = ev d 57 10 L (.int 1 :: st) h := ev_of d_57_9 rfl
theorem d_57_10 : decode (cd 57) 10 = .ok (.bipush 8, 2) := by rw [cd_57]; decide +kernel
theorem e_57_10 {d : Nat} {h : mM} {L : mLs} {st : List Value} : ev d 57 10 L st h = ev d 57 12 L (.int 8 :: st) h := ev_of d_57_10 rfl
theorem d_57_12 : decode (cd 57) 12 = .ok (.invokestatic 79, 3) := by rw [cd_57]; decide +kernel
theorem e_57_12 {d : Nat} {h : mM} {L : mLs} {st : List Value} {x0 : Int32} {x1 : Int32} {x2 : Int32} (hc : mCat st ≤ 8) : ev (d + 1) 57 12 L (.int x2 :: .int x1 :: .int x0 :: st) h = cV (ev d 65 0 [some (.int x0), some (.int x1), some (.int x2)] [] h) (fun v h1 => ev (d + 1) 57 15 L (v ++ st) h1) := ev_cs (kd := 1) (mj := 65) (as := [.int x0, .int x1, .int x2]) (rest := st) d_57_12 (by decide +kernel) (by decide) rfl rfl (by show _ ≤ List.length _; simp only [List.length_cons]; have : na 65 = 3 := rfl; omega) rfl (Nat.le_of_ble_eq_true rfl) hc
theorem d_57_15 : decode (cd 57) 15 = .ok (.ifCond .eq 12, 3) := by rw [cd_57]; decide +kernel
theorem e_57_15 {d : Nat} {h : mM} {L : mLs} {st : List Value} {x : Int32} : ev d 57 15 L (.int x :: st) h = if x = 0 then ev d 57 27 L st h else ev d 57 18 L st h := ev_if (x = 0) inferInstance rfl d_57_15 (by decide)
theorem d_57_18 : decode (cd 57) 18 = .ok (.iload_n 3, 1) := by rw [cd_57]; decide +kernel
theorem e_57_18 {d : Nat} {h : mM} {o0 o1 o2 : Option Value} {T : mLs} {x : Int32} {st : List Value} : ev d 57 18 (o0 :: o1 :: o2 :: some (.int x) :: T) st h = ev d 57 19 (o0 :: o1 :: o2 :: some (.int x) :: T) (.int x :: st) h := ev_of d_57_18 rfl
theorem d_57_19 : decode (cd 57) 19 = .ok (.iconst 0, 1) := by rw [cd_57]; decide +kernel
theorem e_57_19 {d : Nat} {h : mM} {L : mLs} {st : List Value} : ev d 57 19 L st h = ev d 57 20 L (.int 0 :: st) h := ev_of d_57_19 rfl
theorem d_57_20 : decode (cd 57) 20 = .ok (.iconst 1, 1) := by rw [cd_57]; decide +kernel
theorem e_57_20 {d : Nat} {h : mM} {L : mLs} {st : List Value} : ev d 57 20 L st h = ev d 57 21 L (.int 1 :: st) h := ev_of d_57_20 rfl
theorem d_57_21 : decode (cd 57) 21 = .ok (.invokestatic 79, 3) := by rw [cd_57]; decide +kernel
theorem e_57_21 {d : Nat} {h : mM} {L : mLs} {st : List Value} {x0 : Int32} {x1 : Int32} {x2 : Int32} (hc : mCat st ≤ 8) : ev (d + 1) 57 21 L (.int x2 :: .int x1 :: .int x0 :: st) h = cV (ev d 65 0 [some (.int x0), some (.int x1), some (.int x2)] [] h) (fun v h1 => ev (d + 1) 57 24 L (v ++ st) h1) := ev_cs (kd := 1) (mj := 65) (as := [.int x0, .int x1, .int x2]) (rest := st) d_57_21 (by decide +kernel) (by decide) rfl rfl (by show _ ≤ List.length _; simp only [List.length_cons]; have : na 65 = 3 := rfl; omega) rfl (Nat.le_of_ble_eq_true rfl) hc
theorem d_57_24 : decode (cd 57) 24 = .ok (.ifCond .ne 9, 3) := by rw [cd_57]; decide +kernel
theorem e_57_24 {d : Nat} {h : mM} {L : mLs} {st : List Value} {x : Int32} : ev d 57 24 L (.int x :: st) h = if ¬ x = 0 then ev d 57 33 L st h else ev d 57 27 L st h := ev_if (¬ x = 0) inferInstance rfl d_57_24 (by decide)
theorem d_57_27 : decode (cd 57) 27 = .ok (.aload_n 0, 1) := by rw [cd_57]; decide +kernel
theorem e_57_27 {d : Nat} {h : mM} {T : mLs} {x : Nat} {st : List Value} : ev d 57 27 ( some (.ref x) :: T) st h = ev d 57 28 ( some (.ref x) :: T) (.ref x :: st) h := ev_of d_57_27 rfl
theorem d_57_28 : decode (cd 57) 28 = .ok (.iconst 1, 1) := by rw [cd_57]; decide +kernel
theorem e_57_28 {d : Nat} {h : mM} {L : mLs} {st : List Value} : ev d 57 28 L st h = ev d 57 29 L (.int 1 :: st) h := ev_of d_57_28 rfl
theorem d_57_29 : decode (cd 57) 29 = .ok (.invokevirtual 83, 3) := by rw [cd_57]; decide +kernel
theorem e_57_29 {d : Nat} {h : mM} {L : mLs} {st : List Value} {a : Nat} {x0 : Int32} (hc : mCat st ≤ 8) : ev (d + 1) 57 29 L (.int x0 :: .ref a :: st) h = if mK h a = 9 then cV (ev d 64 0 [some (.ref a), some (.int x0)] [] h) (fun v h1 => ev (d + 1) 57 32 L (v ++ st) h1) else none := ev_cv (mj := 64) (as := [.int x0]) (rest := st) d_57_29 (by decide +kernel) rfl rfl (by show _ ≤ List.length _; simp only [List.length_cons]; have : na 64 = 1 := rfl; omega) rfl (Nat.le_of_ble_eq_true rfl) hc
theorem d_57_32 : decode (cd 57) 32 = .ok (.ireturn, 1) := by rw [cd_57]; decide +kernel
theorem e_57_32 {d : Nat} {h : mM} {L : mLs} {v : Int32} : ev d 57 32 L [.int v] h = some (some (.int v), h) := ev_ri d_57_32 (by decide +kernel)
theorem d_57_33 : decode (cd 57) 33 = .ok (.aload_n 0, 1) := by rw [cd_57]; decide +kernel
theorem e_57_33 {d : Nat} {h : mM} {T : mLs} {x : Nat} {st : List Value} : ev d 57 33 ( some (.ref x) :: T) st h = ev d 57 34 ( some (.ref x) :: T) (.ref x :: st) h := ev_of d_57_33 rfl
theorem d_57_34 : decode (cd 57) 34 = .ok (.getfield 37, 3) := by rw [cd_57]; decide +kernel
theorem e_57_34 {d : Nat} {h : mM} {L : mLs} {st : List Value} {a : Nat} : ev d 57 34 L (.ref a :: st) h = if mK h a = 9 then oB (mR h a 3) (fun b => ev d 57 37 L (.ref b :: st) h) else none := ev_gR d_57_34 (by decide +kernel) (by decide +kernel)
theorem d_57_37 : decode (cd 57) 37 = .ok (.iload_n 1, 1) := by rw [cd_57]; decide +kernel
theorem e_57_37 {d : Nat} {h : mM} {o0 : Option Value} {T : mLs} {x : Int32} {st : List Value} : ev d 57 37 (o0 :: some (.int x) :: T) st h = ev d 57 38 (o0 :: some (.int x) :: T) (.int x :: st) h := ev_of d_57_37 rfl
theorem d_57_38 : decode (cd 57) 38 = .ok (.iload_n 2, 1) := by rw [cd_57]; decide +kernel
theorem e_57_38 {d : Nat} {h : mM} {o0 o1 : Option Value} {T : mLs} {x : Int32} {st : List Value} : ev d 57 38 (o0 :: o1 :: some (.int x) :: T) st h = ev d 57 39 (o0 :: o1 :: some (.int x) :: T) (.int x :: st) h := ev_of d_57_38 rfl
theorem d_57_39 : decode (cd 57) 39 = .ok (.aload_n 0, 1) := by rw [cd_57]; decide +kernel
theorem e_57_39 {d : Nat} {h : mM} {T : mLs} {x : Nat} {st : List Value} : ev d 57 39 ( some (.ref x) :: T) st h = ev d 57 40 ( some (.ref x) :: T) (.ref x :: st) h := ev_of d_57_39 rfl
theorem d_57_40 : decode (cd 57) 40 = .ok (.getfield 57, 3) := by rw [cd_57]; decide +kernel
theorem e_57_40 {d : Nat} {h : mM} {L : mLs} {st : List Value} {a : Nat} : ev d 57 40 L (.ref a :: st) h = if mK h a = 9 then ev d 57 43 L (.int (mI h a 9) :: st) h else none := ev_gI d_57_40 (by decide +kernel) (by decide +kernel)
theorem d_57_43 : decode (cd 57) 43 = .ok (.aload_n 0, 1) := by rw [cd_57]; decide +kernel
theorem e_57_43 {d : Nat} {h : mM} {T : mLs} {x : Nat} {st : List Value} : ev d 57 43 ( some (.ref x) :: T) st h = ev d 57 44 ( some (.ref x) :: T) (.ref x :: st) h := ev_of d_57_43 rfl
theorem d_57_44 : decode (cd 57) 44 = .ok (.getfield 41, 3) := by rw [cd_57]; decide +kernel
theorem e_57_44 {d : Nat} {h : mM} {L : mLs} {st : List Value} {a : Nat} : ev d 57 44 L (.ref a :: st) h = if mK h a = 9 then oB (mR h a 4) (fun b => ev d 57 47 L (.ref b :: st) h) else none := ev_gR d_57_44 (by decide +kernel) (by decide +kernel)
theorem d_57_47 : decode (cd 57) 47 = .ok (.invokevirtual 271, 3) := by rw [cd_57]; decide +kernel
theorem e_57_47 {d : Nat} {h : mM} {L : mLs} {st : List Value} {a : Nat} {x0 : Int32} {x1 : Int32} {x2 : Int32} {x3 : Nat} (hc : mCat st ≤ 8) : ev (d + 1) 57 47 L (.ref x3 :: .int x2 :: .int x1 :: .int x0 :: .ref a :: st) h = if mK h a = 5 then cV (ev d 22 0 [some (.ref a), some (.int x0), some (.int x1), some (.int x2), some (.ref x3)] [] h) (fun v h1 => ev (d + 1) 57 50 L (v ++ st) h1) else none := ev_cv (mj := 22) (as := [.int x0, .int x1, .int x2, .ref x3]) (rest := st) d_57_47 (by decide +kernel) rfl rfl (by show _ ≤ List.length _; simp only [List.length_cons]; have : na 22 = 4 := rfl; omega) rfl (Nat.le_of_ble_eq_true rfl) hc
theorem d_57_50 : decode (cd 57) 50 = .ok (.aload_n 0, 1) := by rw [cd_57]; decide +kernel
theorem e_57_50 {d : Nat} {h : mM} {T : mLs} {x : Nat} {st : List Value} : ev d 57 50 ( some (.ref x) :: T) st h = ev d 57 51 ( some (.ref x) :: T) (.ref x :: st) h := ev_of d_57_50 rfl
theorem d_57_51 : decode (cd 57) 51 = .ok (.getfield 37, 3) := by rw [cd_57]; decide +kernel
theorem e_57_51 {d : Nat} {h : mM} {L : mLs} {st : List Value} {a : Nat} : ev d 57 51 L (.ref a :: st) h = if mK h a = 9 then oB (mR h a 3) (fun b => ev d 57 54 L (.ref b :: st) h) else none := ev_gR d_57_51 (by decide +kernel) (by decide +kernel)
theorem d_57_54 : decode (cd 57) 54 = .ok (.iconst 0, 1) := by rw [cd_57]; decide +kernel
theorem e_57_54 {d : Nat} {h : mM} {L : mLs} {st : List Value} : ev d 57 54 L st h = ev d 57 55 L (.int 0 :: st) h := ev_of d_57_54 rfl
theorem d_57_55 : decode (cd 57) 55 = .ok (.iconst 0, 1) := by rw [cd_57]; decide +kernel
theorem e_57_55 {d : Nat} {h : mM} {L : mLs} {st : List Value} : ev d 57 55 L st h = ev d 57 56 L (.int 0 :: st) h := ev_of d_57_55 rfl
theorem d_57_56 : decode (cd 57) 56 = .ok (.iconst 0, 1) := by rw [cd_57]; decide +kernel
theorem e_57_56 {d : Nat} {h : mM} {L : mLs} {st : List Value} : ev d 57 56 L st h = ev d 57 57 L (.int 0 :: st) h := ev_of d_57_56 rfl
theorem d_57_57 : decode (cd 57) 57 = .ok (.invokestatic 275, 3) := by rw [cd_57]; decide +kernel
theorem e_57_57 {d : Nat} {h : mM} {L : mLs} {st : List Value} {x0 : Nat} {x1 : Int32} {x2 : Int32} {x3 : Int32} (hc : mCat st ≤ 8) : ev (d + 1) 57 57 L (.int x3 :: .int x2 :: .int x1 :: .ref x0 :: st) h = cV (ev d 76 0 [some (.ref x0), some (.int x1), some (.int x2), some (.int x3), none] [] h) (fun v h1 => ev (d + 1) 57 60 L (v ++ st) h1) := ev_cs (kd := 1) (mj := 76) (as := [.ref x0, .int x1, .int x2, .int x3]) (rest := st) d_57_57 (by decide +kernel) (by decide) rfl rfl (by show _ ≤ List.length _; simp only [List.length_cons]; have : na 76 = 4 := rfl; omega) rfl (Nat.le_of_ble_eq_true rfl) hc
theorem d_57_60 : decode (cd 57) 60 = .ok (.iload_n 3, 1) := by rw [cd_57]; decide +kernel
theorem e_57_60 {d : Nat} {h : mM} {o0 o1 o2 : Option Value} {T : mLs} {x : Int32} {st : List Value} : ev d 57 60 (o0 :: o1 :: o2 :: some (.int x) :: T) st h = ev d 57 61 (o0 :: o1 :: o2 :: some (.int x) :: T) (.int x :: st) h := ev_of d_57_60 rfl
theorem d_57_61 : decode (cd 57) 61 = .ok (.ifCond .ne 13, 3) := by rw [cd_57]; decide +kernel
theorem e_57_61 {d : Nat} {h : mM} {L : mLs} {st : List Value} {x : Int32} : ev d 57 61 L (.int x :: st) h = if ¬ x = 0 then ev d 57 74 L st h else ev d 57 64 L st h := ev_if (¬ x = 0) inferInstance rfl d_57_61 (by decide)
theorem d_57_64 : decode (cd 57) 64 = .ok (.aload_n 0, 1) := by rw [cd_57]; decide +kernel
theorem e_57_64 {d : Nat} {h : mM} {T : mLs} {x : Nat} {st : List Value} : ev d 57 64 ( some (.ref x) :: T) st h = ev d 57 65 ( some (.ref x) :: T) (.ref x :: st) h := ev_of d_57_64 rfl
theorem d_57_65 : decode (cd 57) 65 = .ok (.getfield 37, 3) := by rw [cd_57]; decide +kernel
theorem e_57_65 {d : Nat} {h : mM} {L : mLs} {st : List Value} {a : Nat} : ev d 57 65 L (.ref a :: st) h = if mK h a = 9 then oB (mR h a 3) (fun b => ev d 57 68 L (.ref b :: st) h) else none := ev_gR d_57_65 (by decide +kernel) (by decide +kernel)
theorem d_57_68 : decode (cd 57) 68 = .ok (.getfield 279, 3) := by rw [cd_57]; decide +kernel
theorem e_57_68 {d : Nat} {h : mM} {L : mLs} {st : List Value} {a : Nat} : ev d 57 68 L (.ref a :: st) h = if mK h a = 5 then ev d 57 71 L (.int (mI h a 6) :: st) h else none := ev_gI d_57_68 (by decide +kernel) (by decide +kernel)
theorem d_57_71 : decode (cd 57) 71 = .ok (.goto 10, 3) := by rw [cd_57]; decide +kernel
theorem e_57_71 {d : Nat} {h : mM} {L : mLs} {st : List Value} : ev d 57 71 L st h = ev d 57 81 L st h := ev_go d_57_71 (by decide)
theorem d_57_74 : decode (cd 57) 74 = .ok (.aload_n 0, 1) := by rw [cd_57]; decide +kernel
theorem e_57_74 {d : Nat} {h : mM} {T : mLs} {x : Nat} {st : List Value} : ev d 57 74 ( some (.ref x) :: T) st h = ev d 57 75 ( some (.ref x) :: T) (.ref x :: st) h := ev_of d_57_74 rfl
theorem d_57_75 : decode (cd 57) 75 = .ok (.getfield 37, 3) := by rw [cd_57]; decide +kernel
theorem e_57_75 {d : Nat} {h : mM} {L : mLs} {st : List Value} {a : Nat} : ev d 57 75 L (.ref a :: st) h = if mK h a = 9 then oB (mR h a 3) (fun b => ev d 57 78 L (.ref b :: st) h) else none := ev_gR d_57_75 (by decide +kernel) (by decide +kernel)
theorem d_57_78 : decode (cd 57) 78 = .ok (.getfield 282, 3) := by rw [cd_57]; decide +kernel
theorem e_57_78 {d : Nat} {h : mM} {L : mLs} {st : List Value} {a : Nat} : ev d 57 78 L (.ref a :: st) h = if mK h a = 5 then ev d 57 81 L (.int (mI h a 7) :: st) h else none := ev_gI d_57_78 (by decide +kernel) (by decide +kernel)
theorem d_57_81 : decode (cd 57) 81 = .ok (.ireturn, 1) := by rw [cd_57]; decide +kernel
theorem e_57_81 {d : Nat} {h : mM} {L : mLs} {v : Int32} : ev d 57 81 L [.int v] h = some (some (.int v), h) := ev_ri d_57_81 (by decide +kernel)
-- 58: TideMill.ahead
theorem cd_58 : cd 58 = prog_1_method_22_code := rfl
theorem d_58_0 : decode (cd 58) 0 = .ok (.aload_n 0, 1) := by rw [cd_58]; decide +kernel
theorem e_58_0 {d : Nat} {h : mM} {T : mLs} {x : Nat} {st : List Value} : ev d 58 0 ( some (.ref x) :: T) st h = ev d 58 1 ( some (.ref x) :: T) (.ref x :: st) h := ev_of d_58_0 rfl
theorem d_58_1 : decode (cd 58) 1 = .ok (.iload_n 1, 1) := by rw [cd_58]; decide +kernel
theorem e_58_1 {d : Nat} {h : mM} {o0 : Option Value} {T : mLs} {x : Int32} {st : List Value} : ev d 58 1 (o0 :: some (.int x) :: T) st h = ev d 58 2 (o0 :: some (.int x) :: T) (.int x :: st) h := ev_of d_58_1 rfl
theorem d_58_2 : decode (cd 58) 2 = .ok (.invokevirtual 118, 3) := by rw [cd_58]; decide +kernel
theorem e_58_2 {d : Nat} {h : mM} {L : mLs} {st : List Value} {a : Nat} {x0 : Int32} (hc : mCat st ≤ 8) : ev (d + 1) 58 2 L (.int x0 :: .ref a :: st) h = if mK h a = 9 then cV (ev d 70 0 [some (.ref a), some (.int x0)] [] h) (fun v h1 => ev (d + 1) 58 5 L (v ++ st) h1) else none := ev_cv (mj := 70) (as := [.int x0]) (rest := st) d_58_2 (by decide +kernel) rfl rfl (by show _ ≤ List.length _; simp only [List.length_cons]; have : na 70 = 1 := rfl; omega) rfl (Nat.le_of_ble_eq_true rfl) hc
theorem d_58_5 : decode (cd 58) 5 = .ok (.ifCond .eq 13, 3) := by rw [cd_58]; decide +kernel
theorem e_58_5 {d : Nat} {h : mM} {L : mLs} {st : List Value} {x : Int32} : ev d 58 5 L (.int x :: st) h = if x = 0 then ev d 58 18 L st h else ev d 58 8 L st h := ev_if (x = 0) inferInstance rfl d_58_5 (by decide)
theorem d_58_8 : decode (cd 58) 8 = .ok (.iload_n 2, 1) := by rw [cd_58]; decide +kernel
theorem e_58_8 {d : Nat} {h : mM} {o0 o1 : Option Value} {T : mLs} {x : Int32} {st : List Value} : ev d 58 8 (o0 :: o1 :: some (.int x) :: T) st h = ev d 58 9 (o0 :: o1 :: some (.int x) :: T) (.int x :: st) h := ev_of d_58_8 rfl
theorem d_58_9 : decode (cd 58) 9 = .ok (.iconst 0, 1) := by rw [cd_58]; decide +kernel
theorem e_58_9 {d : Nat} {h : mM} {L : mLs} {st : List Value} : ev d 58 9 L st h = ev d 58 10 L (.int 0 :: st) h := ev_of d_58_9 rfl
theorem d_58_10 : decode (cd 58) 10 = .ok (.bipush 48, 2) := by rw [cd_58]; decide +kernel
theorem e_58_10 {d : Nat} {h : mM} {L : mLs} {st : List Value} : ev d 58 10 L st h = ev d 58 12 L (.int 48 :: st) h := ev_of d_58_10 rfl
theorem d_58_12 : decode (cd 58) 12 = .ok (.invokestatic 79, 3) := by rw [cd_58]; decide +kernel
theorem e_58_12 {d : Nat} {h : mM} {L : mLs} {st : List Value} {x0 : Int32} {x1 : Int32} {x2 : Int32} (hc : mCat st ≤ 8) : ev (d + 1) 58 12 L (.int x2 :: .int x1 :: .int x0 :: st) h = cV (ev d 65 0 [some (.int x0), some (.int x1), some (.int x2)] [] h) (fun v h1 => ev (d + 1) 58 15 L (v ++ st) h1) := ev_cs (kd := 1) (mj := 65) (as := [.int x0, .int x1, .int x2]) (rest := st) d_58_12 (by decide +kernel) (by decide) rfl rfl (by show _ ≤ List.length _; simp only [List.length_cons]; have : na 65 = 3 := rfl; omega) rfl (Nat.le_of_ble_eq_true rfl) hc
theorem d_58_15 : decode (cd 58) 15 = .ok (.ifCond .ne 9, 3) := by rw [cd_58]; decide +kernel
theorem e_58_15 {d : Nat} {h : mM} {L : mLs} {st : List Value} {x : Int32} : ev d 58 15 L (.int x :: st) h = if ¬ x = 0 then ev d 58 24 L st h else ev d 58 18 L st h := ev_if (¬ x = 0) inferInstance rfl d_58_15 (by decide)
theorem d_58_18 : decode (cd 58) 18 = .ok (.aload_n 0, 1) := by rw [cd_58]; decide +kernel
theorem e_58_18 {d : Nat} {h : mM} {T : mLs} {x : Nat} {st : List Value} : ev d 58 18 ( some (.ref x) :: T) st h = ev d 58 19 ( some (.ref x) :: T) (.ref x :: st) h := ev_of d_58_18 rfl
theorem d_58_19 : decode (cd 58) 19 = .ok (.iconst 1, 1) := by rw [cd_58]; decide +kernel
theorem e_58_19 {d : Nat} {h : mM} {L : mLs} {st : List Value} : ev d 58 19 L st h = ev d 58 20 L (.int 1 :: st) h := ev_of d_58_19 rfl
theorem d_58_20 : decode (cd 58) 20 = .ok (.invokevirtual 83, 3) := by rw [cd_58]; decide +kernel
theorem e_58_20 {d : Nat} {h : mM} {L : mLs} {st : List Value} {a : Nat} {x0 : Int32} (hc : mCat st ≤ 8) : ev (d + 1) 58 20 L (.int x0 :: .ref a :: st) h = if mK h a = 9 then cV (ev d 64 0 [some (.ref a), some (.int x0)] [] h) (fun v h1 => ev (d + 1) 58 23 L (v ++ st) h1) else none := ev_cv (mj := 64) (as := [.int x0]) (rest := st) d_58_20 (by decide +kernel) rfl rfl (by show _ ≤ List.length _; simp only [List.length_cons]; have : na 64 = 1 := rfl; omega) rfl (Nat.le_of_ble_eq_true rfl) hc
theorem d_58_23 : decode (cd 58) 23 = .ok (.ireturn, 1) := by rw [cd_58]; decide +kernel
theorem e_58_23 {d : Nat} {h : mM} {L : mLs} {v : Int32} : ev d 58 23 L [.int v] h = some (some (.int v), h) := ev_ri d_58_23 (by decide +kernel)
theorem d_58_24 : decode (cd 58) 24 = .ok (.aload_n 0, 1) := by rw [cd_58]; decide +kernel
theorem e_58_24 {d : Nat} {h : mM} {T : mLs} {x : Nat} {st : List Value} : ev d 58 24 ( some (.ref x) :: T) st h = ev d 58 25 ( some (.ref x) :: T) (.ref x :: st) h := ev_of d_58_24 rfl
theorem d_58_25 : decode (cd 58) 25 = .ok (.invokevirtual 266, 3) := by rw [cd_58]; decide +kernel
theorem e_58_25 {d : Nat} {h : mM} {L : mLs} {st : List Value} {a : Nat} (hc : mCat st ≤ 8) : ev (d + 1) 58 25 L (.ref a :: st) h = if mK h a = 9 then cV (ev d 75 0 [some (.ref a)] [] h) (fun v h1 => ev (d + 1) 58 28 L (v ++ st) h1) else none := ev_cv (mj := 75) (as := []) (rest := st) d_58_25 (by decide +kernel) rfl rfl (by show _ ≤ List.length _; simp only [List.length_cons]; have : na 75 = 0 := rfl; omega) rfl (Nat.le_of_ble_eq_true rfl) hc
theorem d_58_28 : decode (cd 58) 28 = .ok (.iconst 0, 1) := by rw [cd_58]; decide +kernel
theorem e_58_28 {d : Nat} {h : mM} {L : mLs} {st : List Value} : ev d 58 28 L st h = ev d 58 29 L (.int 0 :: st) h := ev_of d_58_28 rfl
theorem d_58_29 : decode (cd 58) 29 = .ok (.istore_n 3, 1) := by rw [cd_58]; decide +kernel
theorem e_58_29 {d : Nat} {h : mM} {o0 o1 o2 o3 : Option Value} {T : mLs} {x : Int32} {st : List Value} (hl : mLong o2 = false) : ev d 58 29 (o0 :: o1 :: o2 :: o3 :: T) (.int x :: st) h = ev d 58 30 (o0 :: o1 :: o2 :: some (.int x) :: T) st h := ev_st_in d_58_29 (by decide +kernel) (mS1_s (j := 2) hl)
theorem d_58_30 : decode (cd 58) 30 = .ok (.iload_n 3, 1) := by rw [cd_58]; decide +kernel
theorem e_58_30 {d : Nat} {h : mM} {o0 o1 o2 : Option Value} {T : mLs} {x : Int32} {st : List Value} : ev d 58 30 (o0 :: o1 :: o2 :: some (.int x) :: T) st h = ev d 58 31 (o0 :: o1 :: o2 :: some (.int x) :: T) (.int x :: st) h := ev_of d_58_30 rfl
theorem d_58_31 : decode (cd 58) 31 = .ok (.iload_n 2, 1) := by rw [cd_58]; decide +kernel
theorem e_58_31 {d : Nat} {h : mM} {o0 o1 : Option Value} {T : mLs} {x : Int32} {st : List Value} : ev d 58 31 (o0 :: o1 :: some (.int x) :: T) st h = ev d 58 32 (o0 :: o1 :: some (.int x) :: T) (.int x :: st) h := ev_of d_58_31 rfl
theorem d_58_32 : decode (cd 58) 32 = .ok (.if_icmp .ge 34, 3) := by rw [cd_58]; decide +kernel
theorem e_58_32 {d : Nat} {h : mM} {L : mLs} {st : List Value} {x y : Int32} : ev d 58 32 L (.int y :: .int x :: st) h = if y ≤ x then ev d 58 66 L st h else ev d 58 35 L st h := ev_ic (y ≤ x) inferInstance rfl d_58_32 (by decide)
theorem d_58_35 : decode (cd 58) 35 = .ok (.aload_n 0, 1) := by rw [cd_58]; decide +kernel
theorem e_58_35 {d : Nat} {h : mM} {T : mLs} {x : Nat} {st : List Value} : ev d 58 35 ( some (.ref x) :: T) st h = ev d 58 36 ( some (.ref x) :: T) (.ref x :: st) h := ev_of d_58_35 rfl
theorem d_58_36 : decode (cd 58) 36 = .ok (.getfield 28, 3) := by rw [cd_58]; decide +kernel
theorem e_58_36 {d : Nat} {h : mM} {L : mLs} {st : List Value} {a : Nat} : ev d 58 36 L (.ref a :: st) h = if mK h a = 9 then oB (mR h a 2) (fun b => ev d 58 39 L (.ref b :: st) h) else none := ev_gR d_58_36 (by decide +kernel) (by decide +kernel)
theorem d_58_39 : decode (cd 58) 39 = .ok (.aload_n 0, 1) := by rw [cd_58]; decide +kernel
theorem e_58_39 {d : Nat} {h : mM} {T : mLs} {x : Nat} {st : List Value} : ev d 58 39 ( some (.ref x) :: T) st h = ev d 58 40 ( some (.ref x) :: T) (.ref x :: st) h := ev_of d_58_39 rfl
theorem d_58_40 : decode (cd 58) 40 = .ok (.getfield 54, 3) := by rw [cd_58]; decide +kernel
theorem e_58_40 {d : Nat} {h : mM} {L : mLs} {st : List Value} {a : Nat} : ev d 58 40 L (.ref a :: st) h = if mK h a = 9 then oB (mR h a 8) (fun b => ev d 58 43 L (.ref b :: st) h) else none := ev_gR d_58_40 (by decide +kernel) (by decide +kernel)
theorem d_58_43 : decode (cd 58) 43 = .ok (.aload_n 0, 1) := by rw [cd_58]; decide +kernel
theorem e_58_43 {d : Nat} {h : mM} {T : mLs} {x : Nat} {st : List Value} : ev d 58 43 ( some (.ref x) :: T) st h = ev d 58 44 ( some (.ref x) :: T) (.ref x :: st) h := ev_of d_58_43 rfl
theorem d_58_44 : decode (cd 58) 44 = .ok (.getfield 10, 3) := by rw [cd_58]; decide +kernel
theorem e_58_44 {d : Nat} {h : mM} {L : mLs} {st : List Value} {a : Nat} : ev d 58 44 L (.ref a :: st) h = if mK h a = 9 then oB (mR h a 0) (fun b => ev d 58 47 L (.ref b :: st) h) else none := ev_gR d_58_44 (by decide +kernel) (by decide +kernel)
theorem d_58_47 : decode (cd 58) 47 = .ok (.aload_n 0, 1) := by rw [cd_58]; decide +kernel
theorem e_58_47 {d : Nat} {h : mM} {T : mLs} {x : Nat} {st : List Value} : ev d 58 47 ( some (.ref x) :: T) st h = ev d 58 48 ( some (.ref x) :: T) (.ref x :: st) h := ev_of d_58_47 rfl
theorem d_58_48 : decode (cd 58) 48 = .ok (.getfield 57, 3) := by rw [cd_58]; decide +kernel
theorem e_58_48 {d : Nat} {h : mM} {L : mLs} {st : List Value} {a : Nat} : ev d 58 48 L (.ref a :: st) h = if mK h a = 9 then ev d 58 51 L (.int (mI h a 9) :: st) h else none := ev_gI d_58_48 (by decide +kernel) (by decide +kernel)
theorem d_58_51 : decode (cd 58) 51 = .ok (.iload_n 3, 1) := by rw [cd_58]; decide +kernel
theorem e_58_51 {d : Nat} {h : mM} {o0 o1 o2 : Option Value} {T : mLs} {x : Int32} {st : List Value} : ev d 58 51 (o0 :: o1 :: o2 :: some (.int x) :: T) st h = ev d 58 52 (o0 :: o1 :: o2 :: some (.int x) :: T) (.int x :: st) h := ev_of d_58_51 rfl
theorem d_58_52 : decode (cd 58) 52 = .ok (.iadd, 1) := by rw [cd_58]; decide +kernel
theorem e_58_52 {d : Nat} {h : mM} {L : mLs} {st : List Value} {x y : Int32} : ev d 58 52 L (.int y :: .int x :: st) h = ev d 58 53 L (.int (x + y) :: st) h := ev_of d_58_52 rfl
theorem d_58_53 : decode (cd 58) 53 = .ok (.invokevirtual 93, 3) := by rw [cd_58]; decide +kernel
theorem e_58_53 {d : Nat} {h : mM} {L : mLs} {st : List Value} {a : Nat} {x0 : Int32} (hc : mCat st ≤ 8) : ev (d + 1) 58 53 L (.int x0 :: .ref a :: st) h = if mK h a = 7 then cV (ev d 31 0 [some (.ref a), some (.int x0)] [] h) (fun v h1 => ev (d + 1) 58 56 L (v ++ st) h1) else none := ev_cv (mj := 31) (as := [.int x0]) (rest := st) d_58_53 (by decide +kernel) rfl rfl (by show _ ≤ List.length _; simp only [List.length_cons]; have : na 31 = 1 := rfl; omega) rfl (Nat.le_of_ble_eq_true rfl) hc
theorem d_58_56 : decode (cd 58) 56 = .ok (.iconst (-1), 1) := by rw [cd_58]; decide +kernel
theorem e_58_56 {d : Nat} {h : mM} {L : mLs} {st : List Value} : ev d 58 56 L st h = ev d 58 57 L (.int (-1) :: st) h := ev_of d_58_56 rfl
theorem d_58_57 : decode (cd 58) 57 = .ok (.invokevirtual 256, 3) := by rw [cd_58]; decide +kernel
theorem e_58_57 {d : Nat} {h : mM} {L : mLs} {st : List Value} {a : Nat} {x0 : Nat} {x1 : Int32} {x2 : Int32} (hc : mCat st ≤ 8) : ev (d + 1) 58 57 L (.int x2 :: .int x1 :: .ref x0 :: .ref a :: st) h = if mK h a = 1 then cV (ev d 2 0 [some (.ref a), some (.ref x0), some (.int x1), some (.int x2)] [] h) (fun v h1 => ev (d + 1) 58 60 L (v ++ st) h1) else none := ev_cv (mj := 2) (as := [.ref x0, .int x1, .int x2]) (rest := st) d_58_57 (by decide +kernel) rfl rfl (by show _ ≤ List.length _; simp only [List.length_cons]; have : na 2 = 3 := rfl; omega) rfl (Nat.le_of_ble_eq_true rfl) hc
theorem d_58_60 : decode (cd 58) 60 = .ok (.iinc 3 1, 3) := by rw [cd_58]; decide +kernel
theorem e_58_60 {d : Nat} {h : mM} {o0 o1 o2 : Option Value} {T : mLs} {x : Int32} {st : List Value} (hl : mLong o2 = false) : ev d 58 60 (o0 :: o1 :: o2 :: some (.int x) :: T) st h = ev d 58 63 (o0 :: o1 :: o2 :: some (.int (x + 1)) :: T) st h := ev_inc d_58_60 (by decide +kernel) rfl rfl (mS1_s (j := 2) hl)
theorem d_58_63 : decode (cd 58) 63 = .ok (.goto (-33), 3) := by rw [cd_58]; decide +kernel
theorem e_58_63 {d : Nat} {h : mM} {L : mLs} {st : List Value} : ev d 58 63 L st h = ev d 58 30 L st h := ev_go d_58_63 (by decide)
theorem d_58_66 : decode (cd 58) 66 = .ok (.aload_n 0, 1) := by rw [cd_58]; decide +kernel
theorem e_58_66 {d : Nat} {h : mM} {T : mLs} {x : Nat} {st : List Value} : ev d 58 66 ( some (.ref x) :: T) st h = ev d 58 67 ( some (.ref x) :: T) (.ref x :: st) h := ev_of d_58_66 rfl
theorem d_58_67 : decode (cd 58) 67 = .ok (.getfield 19, 3) := by rw [cd_58]; decide +kernel
theorem e_58_67 {d : Nat} {h : mM} {L : mLs} {st : List Value} {a : Nat} : ev d 58 67 L (.ref a :: st) h = if mK h a = 9 then oB (mR h a 1) (fun b => ev d 58 70 L (.ref b :: st) h) else none := ev_gR d_58_67 (by decide +kernel) (by decide +kernel)
theorem d_58_70 : decode (cd 58) 70 = .ok (.getfield 103, 3) := by rw [cd_58]; decide +kernel
theorem e_58_70 {d : Nat} {h : mM} {L : mLs} {st : List Value} {a : Nat} : ev d 58 70 L (.ref a :: st) h = if mK h a = 8 then oB (mR h a 0) (fun b => ev d 58 73 L (.ref b :: st) h) else none := ev_gR d_58_70 (by decide +kernel) (by decide +kernel)
theorem d_58_73 : decode (cd 58) 73 = .ok (.iload_n 1, 1) := by rw [cd_58]; decide +kernel
theorem e_58_73 {d : Nat} {h : mM} {o0 : Option Value} {T : mLs} {x : Int32} {st : List Value} : ev d 58 73 (o0 :: some (.int x) :: T) st h = ev d 58 74 (o0 :: some (.int x) :: T) (.int x :: st) h := ev_of d_58_73 rfl
theorem d_58_74 : decode (cd 58) 74 = .ok (.aaload, 1) := by rw [cd_58]; decide +kernel
theorem e_58_74 {d : Nat} {h : mM} {L : mLs} {st : List Value} {a : Nat} {i : Int32} : ev d 58 74 L (.int i :: .ref a :: st) h = if (12 < mK h a ∧ mK h a < 19) ∧ ixOK i (mL h a) = true then oB (mR h a i.toNatClampNeg) (fun b => ev d 58 75 L (.ref b :: st) h) else none := ev_aa d_58_74
theorem d_58_75 : decode (cd 58) 75 = .ok (.aload_n 0, 1) := by rw [cd_58]; decide +kernel
theorem e_58_75 {d : Nat} {h : mM} {T : mLs} {x : Nat} {st : List Value} : ev d 58 75 ( some (.ref x) :: T) st h = ev d 58 76 ( some (.ref x) :: T) (.ref x :: st) h := ev_of d_58_75 rfl
theorem d_58_76 : decode (cd 58) 76 = .ok (.getfield 54, 3) := by rw [cd_58]; decide +kernel
theorem e_58_76 {d : Nat} {h : mM} {L : mLs} {st : List Value} {a : Nat} : ev d 58 76 L (.ref a :: st) h = if mK h a = 9 then oB (mR h a 8) (fun b => ev d 58 79 L (.ref b :: st) h) else none := ev_gR d_58_76 (by decide +kernel) (by decide +kernel)
theorem d_58_79 : decode (cd 58) 79 = .ok (.iload_n 1, 1) := by rw [cd_58]; decide +kernel
theorem e_58_79 {d : Nat} {h : mM} {o0 : Option Value} {T : mLs} {x : Int32} {st : List Value} : ev d 58 79 (o0 :: some (.int x) :: T) st h = ev d 58 80 (o0 :: some (.int x) :: T) (.int x :: st) h := ev_of d_58_79 rfl
theorem d_58_80 : decode (cd 58) 80 = .ok (.iaload, 1) := by rw [cd_58]; decide +kernel
theorem e_58_80 {d : Nat} {h : mM} {L : mLs} {st : List Value} {a : Nat} {i : Int32} : ev d 58 80 L (.int i :: .ref a :: st) h = if (mK h a = 11 ∨ mK h a = 19) ∧ ixOK i (mL h a) = true then ev d 58 81 L (.int (mI h a i.toNatClampNeg) :: st) h else none := ev_ia d_58_80
theorem d_58_81 : decode (cd 58) 81 = .ok (.invokevirtual 144, 3) := by rw [cd_58]; decide +kernel
theorem e_58_81 {d : Nat} {h : mM} {L : mLs} {st : List Value} {a : Nat} {x0 : Int32} (hc : mCat st ≤ 8) : ev (d + 1) 58 81 L (.int x0 :: .ref a :: st) h = if mK h a = 3 then cV (ev d 16 0 [some (.ref a), some (.int x0)] [] h) (fun v h1 => ev (d + 1) 58 84 L (v ++ st) h1) else none := ev_cv (mj := 16) (as := [.int x0]) (rest := st) d_58_81 (by decide +kernel) rfl rfl (by show _ ≤ List.length _; simp only [List.length_cons]; have : na 16 = 1 := rfl; omega) rfl (Nat.le_of_ble_eq_true rfl) hc
theorem d_58_84 : decode (cd 58) 84 = .ok (.ireturn, 1) := by rw [cd_58]; decide +kernel
theorem e_58_84 {d : Nat} {h : mM} {L : mLs} {v : Int32} : ev d 58 84 L [.int v] h = some (some (.int v), h) := ev_ri d_58_84 (by decide +kernel)
-- 59: TideMill.all
theorem cd_59 : cd 59 = prog_1_method_23_code := rfl
theorem d_59_0 : decode (cd 59) 0 = .ok (.iload_n 1, 1) := by rw [cd_59]; decide +kernel
theorem e_59_0 {d : Nat} {h : mM} {o0 : Option Value} {T : mLs} {x : Int32} {st : List Value} : ev d 59 0 (o0 :: some (.int x) :: T) st h = ev d 59 1 (o0 :: some (.int x) :: T) (.int x :: st) h := ev_of d_59_0 rfl
theorem d_59_1 : decode (cd 59) 1 = .ok (.tableswitch 69 0 5 #[39, 44, 49, 54, 59, 64], 39) := by rw [cd_59]; decide +kernel
theorem e_59_1 {d : Nat} {h : mM} {L : mLs} {st : List Value} {x : Int32} : ev d 59 1 L (.int x :: st) h = tsF (fun t => ev d 59 t L st h) x [40, 45, 50, 55, 60, 65] 0 (ev d 59 70 L st h) := ev_ts _ d_59_1 (by decide) (by decide) (by decide)
theorem d_59_40 : decode (cd 59) 40 = .ok (.aload_n 0, 1) := by rw [cd_59]; decide +kernel
theorem e_59_40 {d : Nat} {h : mM} {T : mLs} {x : Nat} {st : List Value} : ev d 59 40 ( some (.ref x) :: T) st h = ev d 59 41 ( some (.ref x) :: T) (.ref x :: st) h := ev_of d_59_40 rfl
theorem d_59_41 : decode (cd 59) 41 = .ok (.invokevirtual 285, 3) := by rw [cd_59]; decide +kernel
theorem e_59_41 {d : Nat} {h : mM} {L : mLs} {st : List Value} {a : Nat} (hc : mCat st ≤ 8) : ev (d + 1) 59 41 L (.ref a :: st) h = if mK h a = 9 then cV (ev d 72 0 [some (.ref a), none, none] [] h) (fun v h1 => ev (d + 1) 59 44 L (v ++ st) h1) else none := ev_cv (mj := 72) (as := []) (rest := st) d_59_41 (by decide +kernel) rfl rfl (by show _ ≤ List.length _; simp only [List.length_cons]; have : na 72 = 0 := rfl; omega) rfl (Nat.le_of_ble_eq_true rfl) hc
theorem d_59_44 : decode (cd 59) 44 = .ok (.ireturn, 1) := by rw [cd_59]; decide +kernel
theorem e_59_44 {d : Nat} {h : mM} {L : mLs} {v : Int32} : ev d 59 44 L [.int v] h = some (some (.int v), h) := ev_ri d_59_44 (by decide +kernel)
theorem d_59_45 : decode (cd 59) 45 = .ok (.aload_n 0, 1) := by rw [cd_59]; decide +kernel
theorem e_59_45 {d : Nat} {h : mM} {T : mLs} {x : Nat} {st : List Value} : ev d 59 45 ( some (.ref x) :: T) st h = ev d 59 46 ( some (.ref x) :: T) (.ref x :: st) h := ev_of d_59_45 rfl
theorem d_59_46 : decode (cd 59) 46 = .ok (.getfield 64, 3) := by rw [cd_59]; decide +kernel
theorem e_59_46 {d : Nat} {h : mM} {L : mLs} {st : List Value} {a : Nat} : ev d 59 46 L (.ref a :: st) h = if mK h a = 9 then ev d 59 49 L (.int (mI h a 11) :: st) h else none := ev_gI d_59_46 (by decide +kernel) (by decide +kernel)
theorem d_59_49 : decode (cd 59) 49 = .ok (.ireturn, 1) := by rw [cd_59]; decide +kernel
theorem e_59_49 {d : Nat} {h : mM} {L : mLs} {v : Int32} : ev d 59 49 L [.int v] h = some (some (.int v), h) := ev_ri d_59_49 (by decide +kernel)
theorem d_59_50 : decode (cd 59) 50 = .ok (.aload_n 0, 1) := by rw [cd_59]; decide +kernel
theorem e_59_50 {d : Nat} {h : mM} {T : mLs} {x : Nat} {st : List Value} : ev d 59 50 ( some (.ref x) :: T) st h = ev d 59 51 ( some (.ref x) :: T) (.ref x :: st) h := ev_of d_59_50 rfl
theorem d_59_51 : decode (cd 59) 51 = .ok (.getfield 67, 3) := by rw [cd_59]; decide +kernel
theorem e_59_51 {d : Nat} {h : mM} {L : mLs} {st : List Value} {a : Nat} : ev d 59 51 L (.ref a :: st) h = if mK h a = 9 then ev d 59 54 L (.int (mI h a 12) :: st) h else none := ev_gI d_59_51 (by decide +kernel) (by decide +kernel)
theorem d_59_54 : decode (cd 59) 54 = .ok (.ireturn, 1) := by rw [cd_59]; decide +kernel
theorem e_59_54 {d : Nat} {h : mM} {L : mLs} {v : Int32} : ev d 59 54 L [.int v] h = some (some (.int v), h) := ev_ri d_59_54 (by decide +kernel)
theorem d_59_55 : decode (cd 59) 55 = .ok (.aload_n 0, 1) := by rw [cd_59]; decide +kernel
theorem e_59_55 {d : Nat} {h : mM} {T : mLs} {x : Nat} {st : List Value} : ev d 59 55 ( some (.ref x) :: T) st h = ev d 59 56 ( some (.ref x) :: T) (.ref x :: st) h := ev_of d_59_55 rfl
theorem d_59_56 : decode (cd 59) 56 = .ok (.getfield 70, 3) := by rw [cd_59]; decide +kernel
theorem e_59_56 {d : Nat} {h : mM} {L : mLs} {st : List Value} {a : Nat} : ev d 59 56 L (.ref a :: st) h = if mK h a = 9 then ev d 59 59 L (.int (mI h a 13) :: st) h else none := ev_gI d_59_56 (by decide +kernel) (by decide +kernel)
theorem d_59_59 : decode (cd 59) 59 = .ok (.ireturn, 1) := by rw [cd_59]; decide +kernel
theorem e_59_59 {d : Nat} {h : mM} {L : mLs} {v : Int32} : ev d 59 59 L [.int v] h = some (some (.int v), h) := ev_ri d_59_59 (by decide +kernel)
theorem d_59_60 : decode (cd 59) 60 = .ok (.aload_n 0, 1) := by rw [cd_59]; decide +kernel
theorem e_59_60 {d : Nat} {h : mM} {T : mLs} {x : Nat} {st : List Value} : ev d 59 60 ( some (.ref x) :: T) st h = ev d 59 61 ( some (.ref x) :: T) (.ref x :: st) h := ev_of d_59_60 rfl
theorem d_59_61 : decode (cd 59) 61 = .ok (.getfield 73, 3) := by rw [cd_59]; decide +kernel
theorem e_59_61 {d : Nat} {h : mM} {L : mLs} {st : List Value} {a : Nat} : ev d 59 61 L (.ref a :: st) h = if mK h a = 9 then ev d 59 64 L (.int (mI h a 14) :: st) h else none := ev_gI d_59_61 (by decide +kernel) (by decide +kernel)
theorem d_59_64 : decode (cd 59) 64 = .ok (.ireturn, 1) := by rw [cd_59]; decide +kernel
theorem e_59_64 {d : Nat} {h : mM} {L : mLs} {v : Int32} : ev d 59 64 L [.int v] h = some (some (.int v), h) := ev_ri d_59_64 (by decide +kernel)
theorem d_59_65 : decode (cd 59) 65 = .ok (.aload_n 0, 1) := by rw [cd_59]; decide +kernel
theorem e_59_65 {d : Nat} {h : mM} {T : mLs} {x : Nat} {st : List Value} : ev d 59 65 ( some (.ref x) :: T) st h = ev d 59 66 ( some (.ref x) :: T) (.ref x :: st) h := ev_of d_59_65 rfl
theorem d_59_66 : decode (cd 59) 66 = .ok (.getfield 76, 3) := by rw [cd_59]; decide +kernel
theorem e_59_66 {d : Nat} {h : mM} {L : mLs} {st : List Value} {a : Nat} : ev d 59 66 L (.ref a :: st) h = if mK h a = 9 then ev d 59 69 L (.int (mI h a 15) :: st) h else none := ev_gI d_59_66 (by decide +kernel) (by decide +kernel)
theorem d_59_69 : decode (cd 59) 69 = .ok (.ireturn, 1) := by rw [cd_59]; decide +kernel
theorem e_59_69 {d : Nat} {h : mM} {L : mLs} {v : Int32} : ev d 59 69 L [.int v] h = some (some (.int v), h) := ev_ri d_59_69 (by decide +kernel)
theorem d_59_70 : decode (cd 59) 70 = .ok (.aload_n 0, 1) := by rw [cd_59]; decide +kernel
theorem e_59_70 {d : Nat} {h : mM} {T : mLs} {x : Nat} {st : List Value} : ev d 59 70 ( some (.ref x) :: T) st h = ev d 59 71 ( some (.ref x) :: T) (.ref x :: st) h := ev_of d_59_70 rfl
theorem d_59_71 : decode (cd 59) 71 = .ok (.iconst 1, 1) := by rw [cd_59]; decide +kernel
theorem e_59_71 {d : Nat} {h : mM} {L : mLs} {st : List Value} : ev d 59 71 L st h = ev d 59 72 L (.int 1 :: st) h := ev_of d_59_71 rfl
theorem d_59_72 : decode (cd 59) 72 = .ok (.invokevirtual 83, 3) := by rw [cd_59]; decide +kernel
theorem e_59_72 {d : Nat} {h : mM} {L : mLs} {st : List Value} {a : Nat} {x0 : Int32} (hc : mCat st ≤ 8) : ev (d + 1) 59 72 L (.int x0 :: .ref a :: st) h = if mK h a = 9 then cV (ev d 64 0 [some (.ref a), some (.int x0)] [] h) (fun v h1 => ev (d + 1) 59 75 L (v ++ st) h1) else none := ev_cv (mj := 64) (as := [.int x0]) (rest := st) d_59_72 (by decide +kernel) rfl rfl (by show _ ≤ List.length _; simp only [List.length_cons]; have : na 64 = 1 := rfl; omega) rfl (Nat.le_of_ble_eq_true rfl) hc
theorem d_59_75 : decode (cd 59) 75 = .ok (.ireturn, 1) := by rw [cd_59]; decide +kernel
theorem e_59_75 {d : Nat} {h : mM} {L : mLs} {v : Int32} : ev d 59 75 L [.int v] h = some (some (.int v), h) := ev_ri d_59_75 (by decide +kernel)
-- 60: TideMill.tell
theorem cd_60 : cd 60 = prog_1_method_24_code := rfl
theorem d_60_0 : decode (cd 60) 0 = .ok (.aload_n 0, 1) := by rw [cd_60]; decide +kernel
theorem e_60_0 {d : Nat} {h : mM} {T : mLs} {x : Nat} {st : List Value} : ev d 60 0 ( some (.ref x) :: T) st h = ev d 60 1 ( some (.ref x) :: T) (.ref x :: st) h := ev_of d_60_0 rfl
theorem d_60_1 : decode (cd 60) 1 = .ok (.getfield 61, 3) := by rw [cd_60]; decide +kernel
theorem e_60_1 {d : Nat} {h : mM} {L : mLs} {st : List Value} {a : Nat} : ev d 60 1 L (.ref a :: st) h = if mK h a = 9 then ev d 60 4 L (.int (mI h a 10) :: st) h else none := ev_gI d_60_1 (by decide +kernel) (by decide +kernel)
theorem d_60_4 : decode (cd 60) 4 = .ok (.bipush 24, 2) := by rw [cd_60]; decide +kernel
theorem e_60_4 {d : Nat} {h : mM} {L : mLs} {st : List Value} : ev d 60 4 L st h = ev d 60 6 L (.int 24 :: st) h := ev_of d_60_4 rfl
theorem d_60_6 : decode (cd 60) 6 = .ok (.if_icmp .lt 9, 3) := by rw [cd_60]; decide +kernel
theorem e_60_6 {d : Nat} {h : mM} {L : mLs} {st : List Value} {x y : Int32} : ev d 60 6 L (.int y :: .int x :: st) h = if x < y then ev d 60 15 L st h else ev d 60 9 L st h := ev_ic (x < y) inferInstance rfl d_60_6 (by decide)
theorem d_60_9 : decode (cd 60) 9 = .ok (.aload_n 0, 1) := by rw [cd_60]; decide +kernel
theorem e_60_9 {d : Nat} {h : mM} {T : mLs} {x : Nat} {st : List Value} : ev d 60 9 ( some (.ref x) :: T) st h = ev d 60 10 ( some (.ref x) :: T) (.ref x :: st) h := ev_of d_60_9 rfl
theorem d_60_10 : decode (cd 60) 10 = .ok (.iconst 4, 1) := by rw [cd_60]; decide +kernel
theorem e_60_10 {d : Nat} {h : mM} {L : mLs} {st : List Value} : ev d 60 10 L st h = ev d 60 11 L (.int 4 :: st) h := ev_of d_60_10 rfl
theorem d_60_11 : decode (cd 60) 11 = .ok (.invokevirtual 83, 3) := by rw [cd_60]; decide +kernel
theorem e_60_11 {d : Nat} {h : mM} {L : mLs} {st : List Value} {a : Nat} {x0 : Int32} (hc : mCat st ≤ 8) : ev (d + 1) 60 11 L (.int x0 :: .ref a :: st) h = if mK h a = 9 then cV (ev d 64 0 [some (.ref a), some (.int x0)] [] h) (fun v h1 => ev (d + 1) 60 14 L (v ++ st) h1) else none := ev_cv (mj := 64) (as := [.int x0]) (rest := st) d_60_11 (by decide +kernel) rfl rfl (by show _ ≤ List.length _; simp only [List.length_cons]; have : na 64 = 1 := rfl; omega) rfl (Nat.le_of_ble_eq_true rfl) hc
theorem d_60_14 : decode (cd 60) 14 = .ok (.ireturn, 1) := by rw [cd_60]; decide +kernel
theorem e_60_14 {d : Nat} {h : mM} {L : mLs} {v : Int32} : ev d 60 14 L [.int v] h = some (some (.int v), h) := ev_ri d_60_14 (by decide +kernel)
theorem d_60_15 : decode (cd 60) 15 = .ok (.aload_n 0, 1) := by rw [cd_60]; decide +kernel
theorem e_60_15 {d : Nat} {h : mM} {T : mLs} {x : Nat} {st : List Value} : ev d 60 15 ( some (.ref x) :: T) st h = ev d 60 16 ( some (.ref x) :: T) (.ref x :: st) h := ev_of d_60_15 rfl
theorem d_60_16 : decode (cd 60) 16 = .ok (.getfield 48, 3) := by rw [cd_60]; decide +kernel
theorem e_60_16 {d : Nat} {h : mM} {L : mLs} {st : List Value} {a : Nat} : ev d 60 16 L (.ref a :: st) h = if mK h a = 9 then oB (mR h a 6) (fun b => ev d 60 19 L (.ref b :: st) h) else none := ev_gR d_60_16 (by decide +kernel) (by decide +kernel)
theorem d_60_19 : decode (cd 60) 19 = .ok (.aload_n 0, 1) := by rw [cd_60]; decide +kernel
theorem e_60_19 {d : Nat} {h : mM} {T : mLs} {x : Nat} {st : List Value} : ev d 60 19 ( some (.ref x) :: T) st h = ev d 60 20 ( some (.ref x) :: T) (.ref x :: st) h := ev_of d_60_19 rfl
theorem d_60_20 : decode (cd 60) 20 = .ok (.getfield 61, 3) := by rw [cd_60]; decide +kernel
theorem e_60_20 {d : Nat} {h : mM} {L : mLs} {st : List Value} {a : Nat} : ev d 60 20 L (.ref a :: st) h = if mK h a = 9 then ev d 60 23 L (.int (mI h a 10) :: st) h else none := ev_gI d_60_20 (by decide +kernel) (by decide +kernel)
theorem d_60_23 : decode (cd 60) 23 = .ok (.iload_n 1, 1) := by rw [cd_60]; decide +kernel
theorem e_60_23 {d : Nat} {h : mM} {o0 : Option Value} {T : mLs} {x : Int32} {st : List Value} : ev d 60 23 (o0 :: some (.int x) :: T) st h = ev d 60 24 (o0 :: some (.int x) :: T) (.int x :: st) h := ev_of d_60_23 rfl
theorem d_60_24 : decode (cd 60) 24 = .ok (.iastore, 1) := by rw [cd_60]; decide +kernel
theorem e_60_24 {d : Nat} {h : mM} {L : mLs} {st : List Value} {a : Nat} {i v : Int32} : ev d 60 24 L (.int v :: .int i :: .ref a :: st) h = if mK h a = 11 ∧ ixOK i (mL h a) = true then ev d 60 25 L st (wI h a i.toNatClampNeg v) else none := ev_is d_60_24
theorem d_60_25 : decode (cd 60) 25 = .ok (.aload_n 0, 1) := by rw [cd_60]; decide +kernel
theorem e_60_25 {d : Nat} {h : mM} {T : mLs} {x : Nat} {st : List Value} : ev d 60 25 ( some (.ref x) :: T) st h = ev d 60 26 ( some (.ref x) :: T) (.ref x :: st) h := ev_of d_60_25 rfl
theorem d_60_26 : decode (cd 60) 26 = .ok (.dup, 1) := by rw [cd_60]; decide +kernel
theorem e_60_26r {d : Nat} {h : mM} {L : mLs} {st : List Value} {a : Nat} : ev d 60 26 L (.ref a :: st) h = ev d 60 27 L (.ref a :: .ref a :: st) h := ev_of d_60_26 rfl
theorem e_60_26i {d : Nat} {h : mM} {L : mLs} {st : List Value} {x : Int32} : ev d 60 26 L (.int x :: st) h = ev d 60 27 L (.int x :: .int x :: st) h := ev_of d_60_26 rfl
theorem d_60_27 : decode (cd 60) 27 = .ok (.getfield 61, 3) := by rw [cd_60]; decide +kernel
theorem e_60_27 {d : Nat} {h : mM} {L : mLs} {st : List Value} {a : Nat} : ev d 60 27 L (.ref a :: st) h = if mK h a = 9 then ev d 60 30 L (.int (mI h a 10) :: st) h else none := ev_gI d_60_27 (by decide +kernel) (by decide +kernel)
theorem d_60_30 : decode (cd 60) 30 = .ok (.iconst 1, 1) := by rw [cd_60]; decide +kernel
theorem e_60_30 {d : Nat} {h : mM} {L : mLs} {st : List Value} : ev d 60 30 L st h = ev d 60 31 L (.int 1 :: st) h := ev_of d_60_30 rfl
theorem d_60_31 : decode (cd 60) 31 = .ok (.iadd, 1) := by rw [cd_60]; decide +kernel
theorem e_60_31 {d : Nat} {h : mM} {L : mLs} {st : List Value} {x y : Int32} : ev d 60 31 L (.int y :: .int x :: st) h = ev d 60 32 L (.int (x + y) :: st) h := ev_of d_60_31 rfl
theorem d_60_32 : decode (cd 60) 32 = .ok (.putfield 61, 3) := by rw [cd_60]; decide +kernel
theorem e_60_32 {d : Nat} {h : mM} {L : mLs} {st : List Value} {a : Nat} {v : Int32} : ev d 60 32 L (.int v :: .ref a :: st) h = if mK h a = 9 then ev d 60 35 L st (wI h a 10 v) else none := ev_pI d_60_32 (by decide +kernel) (by decide +kernel) (by decide +kernel)
theorem d_60_35 : decode (cd 60) 35 = .ok (.aload_n 0, 1) := by rw [cd_60]; decide +kernel
theorem e_60_35 {d : Nat} {h : mM} {T : mLs} {x : Nat} {st : List Value} : ev d 60 35 ( some (.ref x) :: T) st h = ev d 60 36 ( some (.ref x) :: T) (.ref x :: st) h := ev_of d_60_35 rfl
theorem d_60_36 : decode (cd 60) 36 = .ok (.getfield 61, 3) := by rw [cd_60]; decide +kernel
theorem e_60_36 {d : Nat} {h : mM} {L : mLs} {st : List Value} {a : Nat} : ev d 60 36 L (.ref a :: st) h = if mK h a = 9 then ev d 60 39 L (.int (mI h a 10) :: st) h else none := ev_gI d_60_36 (by decide +kernel) (by decide +kernel)
theorem d_60_39 : decode (cd 60) 39 = .ok (.ireturn, 1) := by rw [cd_60]; decide +kernel
theorem e_60_39 {d : Nat} {h : mM} {L : mLs} {v : Int32} : ev d 60 39 L [.int v] h = some (some (.int v), h) := ev_ri d_60_39 (by decide +kernel)
-- 61: TideMill.check
theorem cd_61 : cd 61 = prog_1_method_25_code := rfl
theorem d_61_0 : decode (cd 61) 0 = .ok (.aload_n 0, 1) := by rw [cd_61]; decide +kernel
theorem e_61_0 {d : Nat} {h : mM} {T : mLs} {x : Nat} {st : List Value} : ev d 61 0 ( some (.ref x) :: T) st h = ev d 61 1 ( some (.ref x) :: T) (.ref x :: st) h := ev_of d_61_0 rfl
theorem d_61_1 : decode (cd 61) 1 = .ok (.getfield 61, 3) := by rw [cd_61]; decide +kernel
theorem e_61_1 {d : Nat} {h : mM} {L : mLs} {st : List Value} {a : Nat} : ev d 61 1 L (.ref a :: st) h = if mK h a = 9 then ev d 61 4 L (.int (mI h a 10) :: st) h else none := ev_gI d_61_1 (by decide +kernel) (by decide +kernel)
theorem d_61_4 : decode (cd 61) 4 = .ok (.istore_n 2, 1) := by rw [cd_61]; decide +kernel
theorem e_61_4 {d : Nat} {h : mM} {o0 o1 o2 : Option Value} {T : mLs} {x : Int32} {st : List Value} (hl : mLong o1 = false) : ev d 61 4 (o0 :: o1 :: o2 :: T) (.int x :: st) h = ev d 61 5 (o0 :: o1 :: some (.int x) :: T) st h := ev_st_in d_61_4 (by decide +kernel) (mS1_s (j := 1) hl)
theorem d_61_5 : decode (cd 61) 5 = .ok (.aload_n 0, 1) := by rw [cd_61]; decide +kernel
theorem e_61_5 {d : Nat} {h : mM} {T : mLs} {x : Nat} {st : List Value} : ev d 61 5 ( some (.ref x) :: T) st h = ev d 61 6 ( some (.ref x) :: T) (.ref x :: st) h := ev_of d_61_5 rfl
theorem d_61_6 : decode (cd 61) 6 = .ok (.iconst 0, 1) := by rw [cd_61]; decide +kernel
theorem e_61_6 {d : Nat} {h : mM} {L : mLs} {st : List Value} : ev d 61 6 L st h = ev d 61 7 L (.int 0 :: st) h := ev_of d_61_6 rfl
theorem d_61_7 : decode (cd 61) 7 = .ok (.putfield 61, 3) := by rw [cd_61]; decide +kernel
theorem e_61_7 {d : Nat} {h : mM} {L : mLs} {st : List Value} {a : Nat} {v : Int32} : ev d 61 7 L (.int v :: .ref a :: st) h = if mK h a = 9 then ev d 61 10 L st (wI h a 10 v) else none := ev_pI d_61_7 (by decide +kernel) (by decide +kernel) (by decide +kernel)
theorem d_61_10 : decode (cd 61) 10 = .ok (.aload_n 0, 1) := by rw [cd_61]; decide +kernel
theorem e_61_10 {d : Nat} {h : mM} {T : mLs} {x : Nat} {st : List Value} : ev d 61 10 ( some (.ref x) :: T) st h = ev d 61 11 ( some (.ref x) :: T) (.ref x :: st) h := ev_of d_61_10 rfl
theorem d_61_11 : decode (cd 61) 11 = .ok (.iload_n 1, 1) := by rw [cd_61]; decide +kernel
theorem e_61_11 {d : Nat} {h : mM} {o0 : Option Value} {T : mLs} {x : Int32} {st : List Value} : ev d 61 11 (o0 :: some (.int x) :: T) st h = ev d 61 12 (o0 :: some (.int x) :: T) (.int x :: st) h := ev_of d_61_11 rfl
theorem d_61_12 : decode (cd 61) 12 = .ok (.invokevirtual 118, 3) := by rw [cd_61]; decide +kernel
theorem e_61_12 {d : Nat} {h : mM} {L : mLs} {st : List Value} {a : Nat} {x0 : Int32} (hc : mCat st ≤ 8) : ev (d + 1) 61 12 L (.int x0 :: .ref a :: st) h = if mK h a = 9 then cV (ev d 70 0 [some (.ref a), some (.int x0)] [] h) (fun v h1 => ev (d + 1) 61 15 L (v ++ st) h1) else none := ev_cv (mj := 70) (as := [.int x0]) (rest := st) d_61_12 (by decide +kernel) rfl rfl (by show _ ≤ List.length _; simp only [List.length_cons]; have : na 70 = 1 := rfl; omega) rfl (Nat.le_of_ble_eq_true rfl) hc
theorem d_61_15 : decode (cd 61) 15 = .ok (.ifCond .ne 9, 3) := by rw [cd_61]; decide +kernel
theorem e_61_15 {d : Nat} {h : mM} {L : mLs} {st : List Value} {x : Int32} : ev d 61 15 L (.int x :: st) h = if ¬ x = 0 then ev d 61 24 L st h else ev d 61 18 L st h := ev_if (¬ x = 0) inferInstance rfl d_61_15 (by decide)
theorem d_61_18 : decode (cd 61) 18 = .ok (.aload_n 0, 1) := by rw [cd_61]; decide +kernel
theorem e_61_18 {d : Nat} {h : mM} {T : mLs} {x : Nat} {st : List Value} : ev d 61 18 ( some (.ref x) :: T) st h = ev d 61 19 ( some (.ref x) :: T) (.ref x :: st) h := ev_of d_61_18 rfl
theorem d_61_19 : decode (cd 61) 19 = .ok (.iconst 1, 1) := by rw [cd_61]; decide +kernel
theorem e_61_19 {d : Nat} {h : mM} {L : mLs} {st : List Value} : ev d 61 19 L st h = ev d 61 20 L (.int 1 :: st) h := ev_of d_61_19 rfl
theorem d_61_20 : decode (cd 61) 20 = .ok (.invokevirtual 83, 3) := by rw [cd_61]; decide +kernel
theorem e_61_20 {d : Nat} {h : mM} {L : mLs} {st : List Value} {a : Nat} {x0 : Int32} (hc : mCat st ≤ 8) : ev (d + 1) 61 20 L (.int x0 :: .ref a :: st) h = if mK h a = 9 then cV (ev d 64 0 [some (.ref a), some (.int x0)] [] h) (fun v h1 => ev (d + 1) 61 23 L (v ++ st) h1) else none := ev_cv (mj := 64) (as := [.int x0]) (rest := st) d_61_20 (by decide +kernel) rfl rfl (by show _ ≤ List.length _; simp only [List.length_cons]; have : na 64 = 1 := rfl; omega) rfl (Nat.le_of_ble_eq_true rfl) hc
theorem d_61_23 : decode (cd 61) 23 = .ok (.ireturn, 1) := by rw [cd_61]; decide +kernel
theorem e_61_23 {d : Nat} {h : mM} {L : mLs} {v : Int32} : ev d 61 23 L [.int v] h = some (some (.int v), h) := ev_ri d_61_23 (by decide +kernel)
theorem d_61_24 : decode (cd 61) 24 = .ok (.aload_n 0, 1) := by rw [cd_61]; decide +kernel
theorem e_61_24 {d : Nat} {h : mM} {T : mLs} {x : Nat} {st : List Value} : ev d 61 24 ( some (.ref x) :: T) st h = ev d 61 25 ( some (.ref x) :: T) (.ref x :: st) h := ev_of d_61_24 rfl
theorem d_61_25 : decode (cd 61) 25 = .ok (.invokevirtual 266, 3) := by rw [cd_61]; decide +kernel
theorem e_61_25 {d : Nat} {h : mM} {L : mLs} {st : List Value} {a : Nat} (hc : mCat st ≤ 8) : ev (d + 1) 61 25 L (.ref a :: st) h = if mK h a = 9 then cV (ev d 75 0 [some (.ref a)] [] h) (fun v h1 => ev (d + 1) 61 28 L (v ++ st) h1) else none := ev_cv (mj := 75) (as := []) (rest := st) d_61_25 (by decide +kernel) rfl rfl (by show _ ≤ List.length _; simp only [List.length_cons]; have : na 75 = 0 := rfl; omega) rfl (Nat.le_of_ble_eq_true rfl) hc
theorem d_61_28 : decode (cd 61) 28 = .ok (.iconst 0, 1) := by rw [cd_61]; decide +kernel
theorem e_61_28 {d : Nat} {h : mM} {L : mLs} {st : List Value} : ev d 61 28 L st h = ev d 61 29 L (.int 0 :: st) h := ev_of d_61_28 rfl
theorem d_61_29 : decode (cd 61) 29 = .ok (.istore_n 3, 1) := by rw [cd_61]; decide +kernel
theorem e_61_29 {d : Nat} {h : mM} {o0 o1 o2 o3 : Option Value} {T : mLs} {x : Int32} {st : List Value} (hl : mLong o2 = false) : ev d 61 29 (o0 :: o1 :: o2 :: o3 :: T) (.int x :: st) h = ev d 61 30 (o0 :: o1 :: o2 :: some (.int x) :: T) st h := ev_st_in d_61_29 (by decide +kernel) (mS1_s (j := 2) hl)
theorem d_61_30 : decode (cd 61) 30 = .ok (.iload_n 3, 1) := by rw [cd_61]; decide +kernel
theorem e_61_30 {d : Nat} {h : mM} {o0 o1 o2 : Option Value} {T : mLs} {x : Int32} {st : List Value} : ev d 61 30 (o0 :: o1 :: o2 :: some (.int x) :: T) st h = ev d 61 31 (o0 :: o1 :: o2 :: some (.int x) :: T) (.int x :: st) h := ev_of d_61_30 rfl
theorem d_61_31 : decode (cd 61) 31 = .ok (.iload_n 2, 1) := by rw [cd_61]; decide +kernel
theorem e_61_31 {d : Nat} {h : mM} {o0 o1 : Option Value} {T : mLs} {x : Int32} {st : List Value} : ev d 61 31 (o0 :: o1 :: some (.int x) :: T) st h = ev d 61 32 (o0 :: o1 :: some (.int x) :: T) (.int x :: st) h := ev_of d_61_31 rfl
theorem d_61_32 : decode (cd 61) 32 = .ok (.if_icmp .ge 65, 3) := by rw [cd_61]; decide +kernel
theorem e_61_32 {d : Nat} {h : mM} {L : mLs} {st : List Value} {x y : Int32} : ev d 61 32 L (.int y :: .int x :: st) h = if y ≤ x then ev d 61 97 L st h else ev d 61 35 L st h := ev_ic (y ≤ x) inferInstance rfl d_61_32 (by decide)
theorem d_61_35 : decode (cd 61) 35 = .ok (.aload_n 0, 1) := by rw [cd_61]; decide +kernel
theorem e_61_35 {d : Nat} {h : mM} {T : mLs} {x : Nat} {st : List Value} : ev d 61 35 ( some (.ref x) :: T) st h = ev d 61 36 ( some (.ref x) :: T) (.ref x :: st) h := ev_of d_61_35 rfl
theorem d_61_36 : decode (cd 61) 36 = .ok (.getfield 28, 3) := by rw [cd_61]; decide +kernel
theorem e_61_36 {d : Nat} {h : mM} {L : mLs} {st : List Value} {a : Nat} : ev d 61 36 L (.ref a :: st) h = if mK h a = 9 then oB (mR h a 2) (fun b => ev d 61 39 L (.ref b :: st) h) else none := ev_gR d_61_36 (by decide +kernel) (by decide +kernel)
theorem d_61_39 : decode (cd 61) 39 = .ok (.aload_n 0, 1) := by rw [cd_61]; decide +kernel
theorem e_61_39 {d : Nat} {h : mM} {T : mLs} {x : Nat} {st : List Value} : ev d 61 39 ( some (.ref x) :: T) st h = ev d 61 40 ( some (.ref x) :: T) (.ref x :: st) h := ev_of d_61_39 rfl
theorem d_61_40 : decode (cd 61) 40 = .ok (.getfield 54, 3) := by rw [cd_61]; decide +kernel
theorem e_61_40 {d : Nat} {h : mM} {L : mLs} {st : List Value} {a : Nat} : ev d 61 40 L (.ref a :: st) h = if mK h a = 9 then oB (mR h a 8) (fun b => ev d 61 43 L (.ref b :: st) h) else none := ev_gR d_61_40 (by decide +kernel) (by decide +kernel)
theorem d_61_43 : decode (cd 61) 43 = .ok (.aload_n 0, 1) := by rw [cd_61]; decide +kernel
theorem e_61_43 {d : Nat} {h : mM} {T : mLs} {x : Nat} {st : List Value} : ev d 61 43 ( some (.ref x) :: T) st h = ev d 61 44 ( some (.ref x) :: T) (.ref x :: st) h := ev_of d_61_43 rfl
theorem d_61_44 : decode (cd 61) 44 = .ok (.getfield 10, 3) := by rw [cd_61]; decide +kernel
theorem e_61_44 {d : Nat} {h : mM} {L : mLs} {st : List Value} {a : Nat} : ev d 61 44 L (.ref a :: st) h = if mK h a = 9 then oB (mR h a 0) (fun b => ev d 61 47 L (.ref b :: st) h) else none := ev_gR d_61_44 (by decide +kernel) (by decide +kernel)
theorem d_61_47 : decode (cd 61) 47 = .ok (.aload_n 0, 1) := by rw [cd_61]; decide +kernel
theorem e_61_47 {d : Nat} {h : mM} {T : mLs} {x : Nat} {st : List Value} : ev d 61 47 ( some (.ref x) :: T) st h = ev d 61 48 ( some (.ref x) :: T) (.ref x :: st) h := ev_of d_61_47 rfl
theorem d_61_48 : decode (cd 61) 48 = .ok (.getfield 57, 3) := by rw [cd_61]; decide +kernel
theorem e_61_48 {d : Nat} {h : mM} {L : mLs} {st : List Value} {a : Nat} : ev d 61 48 L (.ref a :: st) h = if mK h a = 9 then ev d 61 51 L (.int (mI h a 9) :: st) h else none := ev_gI d_61_48 (by decide +kernel) (by decide +kernel)
theorem d_61_51 : decode (cd 61) 51 = .ok (.iload_n 3, 1) := by rw [cd_61]; decide +kernel
theorem e_61_51 {d : Nat} {h : mM} {o0 o1 o2 : Option Value} {T : mLs} {x : Int32} {st : List Value} : ev d 61 51 (o0 :: o1 :: o2 :: some (.int x) :: T) st h = ev d 61 52 (o0 :: o1 :: o2 :: some (.int x) :: T) (.int x :: st) h := ev_of d_61_51 rfl
theorem d_61_52 : decode (cd 61) 52 = .ok (.iadd, 1) := by rw [cd_61]; decide +kernel
theorem e_61_52 {d : Nat} {h : mM} {L : mLs} {st : List Value} {x y : Int32} : ev d 61 52 L (.int y :: .int x :: st) h = ev d 61 53 L (.int (x + y) :: st) h := ev_of d_61_52 rfl
theorem d_61_53 : decode (cd 61) 53 = .ok (.invokevirtual 93, 3) := by rw [cd_61]; decide +kernel
theorem e_61_53 {d : Nat} {h : mM} {L : mLs} {st : List Value} {a : Nat} {x0 : Int32} (hc : mCat st ≤ 8) : ev (d + 1) 61 53 L (.int x0 :: .ref a :: st) h = if mK h a = 7 then cV (ev d 31 0 [some (.ref a), some (.int x0)] [] h) (fun v h1 => ev (d + 1) 61 56 L (v ++ st) h1) else none := ev_cv (mj := 31) (as := [.int x0]) (rest := st) d_61_53 (by decide +kernel) rfl rfl (by show _ ≤ List.length _; simp only [List.length_cons]; have : na 31 = 1 := rfl; omega) rfl (Nat.le_of_ble_eq_true rfl) hc
theorem d_61_56 : decode (cd 61) 56 = .ok (.iconst (-1), 1) := by rw [cd_61]; decide +kernel
theorem e_61_56 {d : Nat} {h : mM} {L : mLs} {st : List Value} : ev d 61 56 L st h = ev d 61 57 L (.int (-1) :: st) h := ev_of d_61_56 rfl
theorem d_61_57 : decode (cd 61) 57 = .ok (.invokevirtual 256, 3) := by rw [cd_61]; decide +kernel
theorem e_61_57 {d : Nat} {h : mM} {L : mLs} {st : List Value} {a : Nat} {x0 : Nat} {x1 : Int32} {x2 : Int32} (hc : mCat st ≤ 8) : ev (d + 1) 61 57 L (.int x2 :: .int x1 :: .ref x0 :: .ref a :: st) h = if mK h a = 1 then cV (ev d 2 0 [some (.ref a), some (.ref x0), some (.int x1), some (.int x2)] [] h) (fun v h1 => ev (d + 1) 61 60 L (v ++ st) h1) else none := ev_cv (mj := 2) (as := [.ref x0, .int x1, .int x2]) (rest := st) d_61_57 (by decide +kernel) rfl rfl (by show _ ≤ List.length _; simp only [List.length_cons]; have : na 2 = 3 := rfl; omega) rfl (Nat.le_of_ble_eq_true rfl) hc
theorem d_61_60 : decode (cd 61) 60 = .ok (.aload_n 0, 1) := by rw [cd_61]; decide +kernel
theorem e_61_60 {d : Nat} {h : mM} {T : mLs} {x : Nat} {st : List Value} : ev d 61 60 ( some (.ref x) :: T) st h = ev d 61 61 ( some (.ref x) :: T) (.ref x :: st) h := ev_of d_61_60 rfl
theorem d_61_61 : decode (cd 61) 61 = .ok (.getfield 19, 3) := by rw [cd_61]; decide +kernel
theorem e_61_61 {d : Nat} {h : mM} {L : mLs} {st : List Value} {a : Nat} : ev d 61 61 L (.ref a :: st) h = if mK h a = 9 then oB (mR h a 1) (fun b => ev d 61 64 L (.ref b :: st) h) else none := ev_gR d_61_61 (by decide +kernel) (by decide +kernel)
theorem d_61_64 : decode (cd 61) 64 = .ok (.getfield 103, 3) := by rw [cd_61]; decide +kernel
theorem e_61_64 {d : Nat} {h : mM} {L : mLs} {st : List Value} {a : Nat} : ev d 61 64 L (.ref a :: st) h = if mK h a = 8 then oB (mR h a 0) (fun b => ev d 61 67 L (.ref b :: st) h) else none := ev_gR d_61_64 (by decide +kernel) (by decide +kernel)
theorem d_61_67 : decode (cd 61) 67 = .ok (.iload_n 1, 1) := by rw [cd_61]; decide +kernel
theorem e_61_67 {d : Nat} {h : mM} {o0 : Option Value} {T : mLs} {x : Int32} {st : List Value} : ev d 61 67 (o0 :: some (.int x) :: T) st h = ev d 61 68 (o0 :: some (.int x) :: T) (.int x :: st) h := ev_of d_61_67 rfl
theorem d_61_68 : decode (cd 61) 68 = .ok (.aaload, 1) := by rw [cd_61]; decide +kernel
theorem e_61_68 {d : Nat} {h : mM} {L : mLs} {st : List Value} {a : Nat} {i : Int32} : ev d 61 68 L (.int i :: .ref a :: st) h = if (12 < mK h a ∧ mK h a < 19) ∧ ixOK i (mL h a) = true then oB (mR h a i.toNatClampNeg) (fun b => ev d 61 69 L (.ref b :: st) h) else none := ev_aa d_61_68
theorem d_61_69 : decode (cd 61) 69 = .ok (.aload_n 0, 1) := by rw [cd_61]; decide +kernel
theorem e_61_69 {d : Nat} {h : mM} {T : mLs} {x : Nat} {st : List Value} : ev d 61 69 ( some (.ref x) :: T) st h = ev d 61 70 ( some (.ref x) :: T) (.ref x :: st) h := ev_of d_61_69 rfl
theorem d_61_70 : decode (cd 61) 70 = .ok (.getfield 54, 3) := by rw [cd_61]; decide +kernel
theorem e_61_70 {d : Nat} {h : mM} {L : mLs} {st : List Value} {a : Nat} : ev d 61 70 L (.ref a :: st) h = if mK h a = 9 then oB (mR h a 8) (fun b => ev d 61 73 L (.ref b :: st) h) else none := ev_gR d_61_70 (by decide +kernel) (by decide +kernel)
theorem d_61_73 : decode (cd 61) 73 = .ok (.iload_n 1, 1) := by rw [cd_61]; decide +kernel
theorem e_61_73 {d : Nat} {h : mM} {o0 : Option Value} {T : mLs} {x : Int32} {st : List Value} : ev d 61 73 (o0 :: some (.int x) :: T) st h = ev d 61 74 (o0 :: some (.int x) :: T) (.int x :: st) h := ev_of d_61_73 rfl
theorem d_61_74 : decode (cd 61) 74 = .ok (.iaload, 1) := by rw [cd_61]; decide +kernel
theorem e_61_74 {d : Nat} {h : mM} {L : mLs} {st : List Value} {a : Nat} {i : Int32} : ev d 61 74 L (.int i :: .ref a :: st) h = if (mK h a = 11 ∨ mK h a = 19) ∧ ixOK i (mL h a) = true then ev d 61 75 L (.int (mI h a i.toNatClampNeg) :: st) h else none := ev_ia d_61_74
theorem d_61_75 : decode (cd 61) 75 = .ok (.invokevirtual 144, 3) := by rw [cd_61]; decide +kernel
theorem e_61_75 {d : Nat} {h : mM} {L : mLs} {st : List Value} {a : Nat} {x0 : Int32} (hc : mCat st ≤ 8) : ev (d + 1) 61 75 L (.int x0 :: .ref a :: st) h = if mK h a = 3 then cV (ev d 16 0 [some (.ref a), some (.int x0)] [] h) (fun v h1 => ev (d + 1) 61 78 L (v ++ st) h1) else none := ev_cv (mj := 16) (as := [.int x0]) (rest := st) d_61_75 (by decide +kernel) rfl rfl (by show _ ≤ List.length _; simp only [List.length_cons]; have : na 16 = 1 := rfl; omega) rfl (Nat.le_of_ble_eq_true rfl) hc
theorem d_61_78 : decode (cd 61) 78 = .ok (.aload_n 0, 1) := by rw [cd_61]; decide +kernel
theorem e_61_78 {d : Nat} {h : mM} {T : mLs} {x : Nat} {st : List Value} : ev d 61 78 ( some (.ref x) :: T) st h = ev d 61 79 ( some (.ref x) :: T) (.ref x :: st) h := ev_of d_61_78 rfl
theorem d_61_79 : decode (cd 61) 79 = .ok (.getfield 48, 3) := by rw [cd_61]; decide +kernel
theorem e_61_79 {d : Nat} {h : mM} {L : mLs} {st : List Value} {a : Nat} : ev d 61 79 L (.ref a :: st) h = if mK h a = 9 then oB (mR h a 6) (fun b => ev d 61 82 L (.ref b :: st) h) else none := ev_gR d_61_79 (by decide +kernel) (by decide +kernel)
theorem d_61_82 : decode (cd 61) 82 = .ok (.iload_n 3, 1) := by rw [cd_61]; decide +kernel
theorem e_61_82 {d : Nat} {h : mM} {o0 o1 o2 : Option Value} {T : mLs} {x : Int32} {st : List Value} : ev d 61 82 (o0 :: o1 :: o2 :: some (.int x) :: T) st h = ev d 61 83 (o0 :: o1 :: o2 :: some (.int x) :: T) (.int x :: st) h := ev_of d_61_82 rfl
theorem d_61_83 : decode (cd 61) 83 = .ok (.iaload, 1) := by rw [cd_61]; decide +kernel
theorem e_61_83 {d : Nat} {h : mM} {L : mLs} {st : List Value} {a : Nat} {i : Int32} : ev d 61 83 L (.int i :: .ref a :: st) h = if (mK h a = 11 ∨ mK h a = 19) ∧ ixOK i (mL h a) = true then ev d 61 84 L (.int (mI h a i.toNatClampNeg) :: st) h else none := ev_ia d_61_83
theorem d_61_84 : decode (cd 61) 84 = .ok (.if_icmp .eq 7, 3) := by rw [cd_61]; decide +kernel
theorem e_61_84 {d : Nat} {h : mM} {L : mLs} {st : List Value} {x y : Int32} : ev d 61 84 L (.int y :: .int x :: st) h = if x = y then ev d 61 91 L st h else ev d 61 87 L st h := ev_ic (x = y) inferInstance rfl d_61_84 (by decide)
theorem d_61_87 : decode (cd 61) 87 = .ok (.iconst 1, 1) := by rw [cd_61]; decide +kernel
theorem e_61_87 {d : Nat} {h : mM} {L : mLs} {st : List Value} : ev d 61 87 L st h = ev d 61 88 L (.int 1 :: st) h := ev_of d_61_87 rfl
theorem d_61_88 : decode (cd 61) 88 = .ok (.iload_n 3, 1) := by rw [cd_61]; decide +kernel
theorem e_61_88 {d : Nat} {h : mM} {o0 o1 o2 : Option Value} {T : mLs} {x : Int32} {st : List Value} : ev d 61 88 (o0 :: o1 :: o2 :: some (.int x) :: T) st h = ev d 61 89 (o0 :: o1 :: o2 :: some (.int x) :: T) (.int x :: st) h := ev_of d_61_88 rfl
theorem d_61_89 : decode (cd 61) 89 = .ok (.iadd, 1) := by rw [cd_61]; decide +kernel
theorem e_61_89 {d : Nat} {h : mM} {L : mLs} {st : List Value} {x y : Int32} : ev d 61 89 L (.int y :: .int x :: st) h = ev d 61 90 L (.int (x + y) :: st) h := ev_of d_61_89 rfl
theorem d_61_90 : decode (cd 61) 90 = .ok (.ireturn, 1) := by rw [cd_61]; decide +kernel
theorem e_61_90 {d : Nat} {h : mM} {L : mLs} {v : Int32} : ev d 61 90 L [.int v] h = some (some (.int v), h) := ev_ri d_61_90 (by decide +kernel)
theorem d_61_91 : decode (cd 61) 91 = .ok (.iinc 3 1, 3) := by rw [cd_61]; decide +kernel
theorem e_61_91 {d : Nat} {h : mM} {o0 o1 o2 : Option Value} {T : mLs} {x : Int32} {st : List Value} (hl : mLong o2 = false) : ev d 61 91 (o0 :: o1 :: o2 :: some (.int x) :: T) st h = ev d 61 94 (o0 :: o1 :: o2 :: some (.int (x + 1)) :: T) st h := ev_inc d_61_91 (by decide +kernel) rfl rfl (mS1_s (j := 2) hl)
theorem d_61_94 : decode (cd 61) 94 = .ok (.goto (-64), 3) := by rw [cd_61]; decide +kernel
theorem e_61_94 {d : Nat} {h : mM} {L : mLs} {st : List Value} : ev d 61 94 L st h = ev d 61 30 L st h := ev_go d_61_94 (by decide)
theorem d_61_97 : decode (cd 61) 97 = .ok (.iconst 0, 1) := by rw [cd_61]; decide +kernel
theorem e_61_97 {d : Nat} {h : mM} {L : mLs} {st : List Value} : ev d 61 97 L st h = ev d 61 98 L (.int 0 :: st) h := ev_of d_61_97 rfl
theorem d_61_98 : decode (cd 61) 98 = .ok (.ireturn, 1) := by rw [cd_61]; decide +kernel
theorem e_61_98 {d : Nat} {h : mM} {L : mLs} {v : Int32} : ev d 61 98 L [.int v] h = some (some (.int v), h) := ev_ri d_61_98 (by decide +kernel)
-- 62: TideMill.count
theorem cd_62 : cd 62 = prog_1_method_26_code := rfl
theorem d_62_0 : decode (cd 62) 0 = .ok (.iload_n 1, 1) := by rw [cd_62]; decide +kernel
theorem e_62_0 {d : Nat} {h : mM} {o0 : Option Value} {T : mLs} {x : Int32} {st : List Value} : ev d 62 0 (o0 :: some (.int x) :: T) st h = ev d 62 1 (o0 :: some (.int x) :: T) (.int x :: st) h := ev_of d_62_0 rfl
theorem d_62_1 : decode (cd 62) 1 = .ok (.tableswitch 93 0 6 #[43, 51, 59, 67, 72, 80, 85], 43) := by rw [cd_62]; decide +kernel
theorem e_62_1 {d : Nat} {h : mM} {L : mLs} {st : List Value} {x : Int32} : ev d 62 1 L (.int x :: st) h = tsF (fun t => ev d 62 t L st h) x [44, 52, 60, 68, 73, 81, 86] 0 (ev d 62 94 L st h) := ev_ts _ d_62_1 (by decide) (by decide) (by decide)
theorem d_62_44 : decode (cd 62) 44 = .ok (.aload_n 0, 1) := by rw [cd_62]; decide +kernel
theorem e_62_44 {d : Nat} {h : mM} {T : mLs} {x : Nat} {st : List Value} : ev d 62 44 ( some (.ref x) :: T) st h = ev d 62 45 ( some (.ref x) :: T) (.ref x :: st) h := ev_of d_62_44 rfl
theorem d_62_45 : decode (cd 62) 45 = .ok (.getfield 19, 3) := by rw [cd_62]; decide +kernel
theorem e_62_45 {d : Nat} {h : mM} {L : mLs} {st : List Value} {a : Nat} : ev d 62 45 L (.ref a :: st) h = if mK h a = 9 then oB (mR h a 1) (fun b => ev d 62 48 L (.ref b :: st) h) else none := ev_gR d_62_45 (by decide +kernel) (by decide +kernel)
theorem d_62_48 : decode (cd 62) 48 = .ok (.getfield 100, 3) := by rw [cd_62]; decide +kernel
theorem e_62_48 {d : Nat} {h : mM} {L : mLs} {st : List Value} {a : Nat} : ev d 62 48 L (.ref a :: st) h = if mK h a = 8 then ev d 62 51 L (.int (mI h a 4) :: st) h else none := ev_gI d_62_48 (by decide +kernel) (by decide +kernel)
theorem d_62_51 : decode (cd 62) 51 = .ok (.ireturn, 1) := by rw [cd_62]; decide +kernel
theorem e_62_51 {d : Nat} {h : mM} {L : mLs} {v : Int32} : ev d 62 51 L [.int v] h = some (some (.int v), h) := ev_ri d_62_51 (by decide +kernel)
theorem d_62_52 : decode (cd 62) 52 = .ok (.aload_n 0, 1) := by rw [cd_62]; decide +kernel
theorem e_62_52 {d : Nat} {h : mM} {T : mLs} {x : Nat} {st : List Value} : ev d 62 52 ( some (.ref x) :: T) st h = ev d 62 53 ( some (.ref x) :: T) (.ref x :: st) h := ev_of d_62_52 rfl
theorem d_62_53 : decode (cd 62) 53 = .ok (.getfield 19, 3) := by rw [cd_62]; decide +kernel
theorem e_62_53 {d : Nat} {h : mM} {L : mLs} {st : List Value} {a : Nat} : ev d 62 53 L (.ref a :: st) h = if mK h a = 9 then oB (mR h a 1) (fun b => ev d 62 56 L (.ref b :: st) h) else none := ev_gR d_62_53 (by decide +kernel) (by decide +kernel)
theorem d_62_56 : decode (cd 62) 56 = .ok (.getfield 128, 3) := by rw [cd_62]; decide +kernel
theorem e_62_56 {d : Nat} {h : mM} {L : mLs} {st : List Value} {a : Nat} : ev d 62 56 L (.ref a :: st) h = if mK h a = 8 then ev d 62 59 L (.int (mI h a 5) :: st) h else none := ev_gI d_62_56 (by decide +kernel) (by decide +kernel)
theorem d_62_59 : decode (cd 62) 59 = .ok (.ireturn, 1) := by rw [cd_62]; decide +kernel
theorem e_62_59 {d : Nat} {h : mM} {L : mLs} {v : Int32} : ev d 62 59 L [.int v] h = some (some (.int v), h) := ev_ri d_62_59 (by decide +kernel)
theorem d_62_60 : decode (cd 62) 60 = .ok (.aload_n 0, 1) := by rw [cd_62]; decide +kernel
theorem e_62_60 {d : Nat} {h : mM} {T : mLs} {x : Nat} {st : List Value} : ev d 62 60 ( some (.ref x) :: T) st h = ev d 62 61 ( some (.ref x) :: T) (.ref x :: st) h := ev_of d_62_60 rfl
theorem d_62_61 : decode (cd 62) 61 = .ok (.getfield 19, 3) := by rw [cd_62]; decide +kernel
theorem e_62_61 {d : Nat} {h : mM} {L : mLs} {st : List Value} {a : Nat} : ev d 62 61 L (.ref a :: st) h = if mK h a = 9 then oB (mR h a 1) (fun b => ev d 62 64 L (.ref b :: st) h) else none := ev_gR d_62_61 (by decide +kernel) (by decide +kernel)
theorem d_62_64 : decode (cd 62) 64 = .ok (.getfield 157, 3) := by rw [cd_62]; decide +kernel
theorem e_62_64 {d : Nat} {h : mM} {L : mLs} {st : List Value} {a : Nat} : ev d 62 64 L (.ref a :: st) h = if mK h a = 8 then ev d 62 67 L (.int (mI h a 6) :: st) h else none := ev_gI d_62_64 (by decide +kernel) (by decide +kernel)
theorem d_62_67 : decode (cd 62) 67 = .ok (.ireturn, 1) := by rw [cd_62]; decide +kernel
theorem e_62_67 {d : Nat} {h : mM} {L : mLs} {v : Int32} : ev d 62 67 L [.int v] h = some (some (.int v), h) := ev_ri d_62_67 (by decide +kernel)
theorem d_62_68 : decode (cd 62) 68 = .ok (.aload_n 0, 1) := by rw [cd_62]; decide +kernel
theorem e_62_68 {d : Nat} {h : mM} {T : mLs} {x : Nat} {st : List Value} : ev d 62 68 ( some (.ref x) :: T) st h = ev d 62 69 ( some (.ref x) :: T) (.ref x :: st) h := ev_of d_62_68 rfl
theorem d_62_69 : decode (cd 62) 69 = .ok (.getfield 57, 3) := by rw [cd_62]; decide +kernel
theorem e_62_69 {d : Nat} {h : mM} {L : mLs} {st : List Value} {a : Nat} : ev d 62 69 L (.ref a :: st) h = if mK h a = 9 then ev d 62 72 L (.int (mI h a 9) :: st) h else none := ev_gI d_62_69 (by decide +kernel) (by decide +kernel)
theorem d_62_72 : decode (cd 62) 72 = .ok (.ireturn, 1) := by rw [cd_62]; decide +kernel
theorem e_62_72 {d : Nat} {h : mM} {L : mLs} {v : Int32} : ev d 62 72 L [.int v] h = some (some (.int v), h) := ev_ri d_62_72 (by decide +kernel)
theorem d_62_73 : decode (cd 62) 73 = .ok (.aload_n 0, 1) := by rw [cd_62]; decide +kernel
theorem e_62_73 {d : Nat} {h : mM} {T : mLs} {x : Nat} {st : List Value} : ev d 62 73 ( some (.ref x) :: T) st h = ev d 62 74 ( some (.ref x) :: T) (.ref x :: st) h := ev_of d_62_73 rfl
theorem d_62_74 : decode (cd 62) 74 = .ok (.getfield 19, 3) := by rw [cd_62]; decide +kernel
theorem e_62_74 {d : Nat} {h : mM} {L : mLs} {st : List Value} {a : Nat} : ev d 62 74 L (.ref a :: st) h = if mK h a = 9 then oB (mR h a 1) (fun b => ev d 62 77 L (.ref b :: st) h) else none := ev_gR d_62_74 (by decide +kernel) (by decide +kernel)
theorem d_62_77 : decode (cd 62) 77 = .ok (.invokevirtual 288, 3) := by rw [cd_62]; decide +kernel
theorem e_62_77 {d : Nat} {h : mM} {L : mLs} {st : List Value} {a : Nat} (hc : mCat st ≤ 8) : ev (d + 1) 62 77 L (.ref a :: st) h = if mK h a = 8 then cV (ev d 35 0 [some (.ref a), none, none] [] h) (fun v h1 => ev (d + 1) 62 80 L (v ++ st) h1) else none := ev_cv (mj := 35) (as := []) (rest := st) d_62_77 (by decide +kernel) rfl rfl (by show _ ≤ List.length _; simp only [List.length_cons]; have : na 35 = 0 := rfl; omega) rfl (Nat.le_of_ble_eq_true rfl) hc
theorem d_62_80 : decode (cd 62) 80 = .ok (.ireturn, 1) := by rw [cd_62]; decide +kernel
theorem e_62_80 {d : Nat} {h : mM} {L : mLs} {v : Int32} : ev d 62 80 L [.int v] h = some (some (.int v), h) := ev_ri d_62_80 (by decide +kernel)
theorem d_62_81 : decode (cd 62) 81 = .ok (.aload_n 0, 1) := by rw [cd_62]; decide +kernel
theorem e_62_81 {d : Nat} {h : mM} {T : mLs} {x : Nat} {st : List Value} : ev d 62 81 ( some (.ref x) :: T) st h = ev d 62 82 ( some (.ref x) :: T) (.ref x :: st) h := ev_of d_62_81 rfl
theorem d_62_82 : decode (cd 62) 82 = .ok (.getfield 61, 3) := by rw [cd_62]; decide +kernel
theorem e_62_82 {d : Nat} {h : mM} {L : mLs} {st : List Value} {a : Nat} : ev d 62 82 L (.ref a :: st) h = if mK h a = 9 then ev d 62 85 L (.int (mI h a 10) :: st) h else none := ev_gI d_62_82 (by decide +kernel) (by decide +kernel)
theorem d_62_85 : decode (cd 62) 85 = .ok (.ireturn, 1) := by rw [cd_62]; decide +kernel
theorem e_62_85 {d : Nat} {h : mM} {L : mLs} {v : Int32} : ev d 62 85 L [.int v] h = some (some (.int v), h) := ev_ri d_62_85 (by decide +kernel)
theorem d_62_86 : decode (cd 62) 86 = .ok (.aload_n 0, 1) := by rw [cd_62]; decide +kernel
theorem e_62_86 {d : Nat} {h : mM} {T : mLs} {x : Nat} {st : List Value} : ev d 62 86 ( some (.ref x) :: T) st h = ev d 62 87 ( some (.ref x) :: T) (.ref x :: st) h := ev_of d_62_86 rfl
theorem d_62_87 : decode (cd 62) 87 = .ok (.getfield 10, 3) := by rw [cd_62]; decide +kernel
theorem e_62_87 {d : Nat} {h : mM} {L : mLs} {st : List Value} {a : Nat} : ev d 62 87 L (.ref a :: st) h = if mK h a = 9 then oB (mR h a 0) (fun b => ev d 62 90 L (.ref b :: st) h) else none := ev_gR d_62_87 (by decide +kernel) (by decide +kernel)
theorem d_62_90 : decode (cd 62) 90 = .ok (.getfield 87, 3) := by rw [cd_62]; decide +kernel
theorem e_62_90 {d : Nat} {h : mM} {L : mLs} {st : List Value} {a : Nat} : ev d 62 90 L (.ref a :: st) h = if mK h a = 7 then ev d 62 93 L (.int (mI h a 1) :: st) h else none := ev_gI d_62_90 (by decide +kernel) (by decide +kernel)
theorem d_62_93 : decode (cd 62) 93 = .ok (.ireturn, 1) := by rw [cd_62]; decide +kernel
theorem e_62_93 {d : Nat} {h : mM} {L : mLs} {v : Int32} : ev d 62 93 L [.int v] h = some (some (.int v), h) := ev_ri d_62_93 (by decide +kernel)
theorem d_62_94 : decode (cd 62) 94 = .ok (.aload_n 0, 1) := by rw [cd_62]; decide +kernel
theorem e_62_94 {d : Nat} {h : mM} {T : mLs} {x : Nat} {st : List Value} : ev d 62 94 ( some (.ref x) :: T) st h = ev d 62 95 ( some (.ref x) :: T) (.ref x :: st) h := ev_of d_62_94 rfl
theorem d_62_95 : decode (cd 62) 95 = .ok (.iconst 1, 1) := by rw [cd_62]; decide +kernel
theorem e_62_95 {d : Nat} {h : mM} {L : mLs} {st : List Value} : ev d 62 95 L st h = ev d 62 96 L (.int 1 :: st) h := ev_of d_62_95 rfl
theorem d_62_96 : decode (cd 62) 96 = .ok (.invokevirtual 83, 3) := by rw [cd_62]; decide +kernel
theorem e_62_96 {d : Nat} {h : mM} {L : mLs} {st : List Value} {a : Nat} {x0 : Int32} (hc : mCat st ≤ 8) : ev (d + 1) 62 96 L (.int x0 :: .ref a :: st) h = if mK h a = 9 then cV (ev d 64 0 [some (.ref a), some (.int x0)] [] h) (fun v h1 => ev (d + 1) 62 99 L (v ++ st) h1) else none := ev_cv (mj := 64) (as := [.int x0]) (rest := st) d_62_96 (by decide +kernel) rfl rfl (by show _ ≤ List.length _; simp only [List.length_cons]; have : na 64 = 1 := rfl; omega) rfl (Nat.le_of_ble_eq_true rfl) hc
theorem d_62_99 : decode (cd 62) 99 = .ok (.ireturn, 1) := by rw [cd_62]; decide +kernel
theorem e_62_99 {d : Nat} {h : mM} {L : mLs} {v : Int32} : ev d 62 99 L [.int v] h = some (some (.int v), h) := ev_ri d_62_99 (by decide +kernel)
-- 63: TideMill.found
theorem cd_63 : cd 63 = prog_1_method_27_code := rfl
theorem d_63_0 : decode (cd 63) 0 = .ok (.iload_n 1, 1) := by rw [cd_63]; decide +kernel
theorem e_63_0 {d : Nat} {h : mM} {o0 : Option Value} {T : mLs} {x : Int32} {st : List Value} : ev d 63 0 (o0 :: some (.int x) :: T) st h = ev d 63 1 (o0 :: some (.int x) :: T) (.int x :: st) h := ev_of d_63_0 rfl
theorem d_63_1 : decode (cd 63) 1 = .ok (.iconst 1, 1) := by rw [cd_63]; decide +kernel
theorem e_63_1 {d : Nat} {h : mM} {L : mLs} {st : List Value} : ev d 63 1 L st h = ev d 63 2 L (.int 1 :: st) h := ev_of d_63_1 rfl
theorem d_63_2 : decode (cd 63) 2 = .ok (.iconst 5, 1) := by rw [cd_63]; decide +kernel
theorem e_63_2 {d : Nat} {h : mM} {L : mLs} {st : List Value} : ev d 63 2 L st h = ev d 63 3 L (.int 5 :: st) h := ev_of d_63_2 rfl
theorem d_63_3 : decode (cd 63) 3 = .ok (.invokestatic 79, 3) := by rw [cd_63]; decide +kernel
theorem e_63_3 {d : Nat} {h : mM} {L : mLs} {st : List Value} {x0 : Int32} {x1 : Int32} {x2 : Int32} (hc : mCat st ≤ 8) : ev (d + 1) 63 3 L (.int x2 :: .int x1 :: .int x0 :: st) h = cV (ev d 65 0 [some (.int x0), some (.int x1), some (.int x2)] [] h) (fun v h1 => ev (d + 1) 63 6 L (v ++ st) h1) := ev_cs (kd := 1) (mj := 65) (as := [.int x0, .int x1, .int x2]) (rest := st) d_63_3 (by decide +kernel) (by decide) rfl rfl (by show _ ≤ List.length _; simp only [List.length_cons]; have : na 65 = 3 := rfl; omega) rfl (Nat.le_of_ble_eq_true rfl) hc
theorem d_63_6 : decode (cd 63) 6 = .ok (.ifCond .eq 12, 3) := by rw [cd_63]; decide +kernel
theorem e_63_6 {d : Nat} {h : mM} {L : mLs} {st : List Value} {x : Int32} : ev d 63 6 L (.int x :: st) h = if x = 0 then ev d 63 18 L st h else ev d 63 9 L st h := ev_if (x = 0) inferInstance rfl d_63_6 (by decide)
theorem d_63_9 : decode (cd 63) 9 = .ok (.aload_n 0, 1) := by rw [cd_63]; decide +kernel
theorem e_63_9 {d : Nat} {h : mM} {T : mLs} {x : Nat} {st : List Value} : ev d 63 9 ( some (.ref x) :: T) st h = ev d 63 10 ( some (.ref x) :: T) (.ref x :: st) h := ev_of d_63_9 rfl
theorem d_63_10 : decode (cd 63) 10 = .ok (.getfield 51, 3) := by rw [cd_63]; decide +kernel
theorem e_63_10 {d : Nat} {h : mM} {L : mLs} {st : List Value} {a : Nat} : ev d 63 10 L (.ref a :: st) h = if mK h a = 9 then oB (mR h a 7) (fun b => ev d 63 13 L (.ref b :: st) h) else none := ev_gR d_63_10 (by decide +kernel) (by decide +kernel)
theorem d_63_13 : decode (cd 63) 13 = .ok (.iload_n 1, 1) := by rw [cd_63]; decide +kernel
theorem e_63_13 {d : Nat} {h : mM} {o0 : Option Value} {T : mLs} {x : Int32} {st : List Value} : ev d 63 13 (o0 :: some (.int x) :: T) st h = ev d 63 14 (o0 :: some (.int x) :: T) (.int x :: st) h := ev_of d_63_13 rfl
theorem d_63_14 : decode (cd 63) 14 = .ok (.iaload, 1) := by rw [cd_63]; decide +kernel
theorem e_63_14 {d : Nat} {h : mM} {L : mLs} {st : List Value} {a : Nat} {i : Int32} : ev d 63 14 L (.int i :: .ref a :: st) h = if (mK h a = 11 ∨ mK h a = 19) ∧ ixOK i (mL h a) = true then ev d 63 15 L (.int (mI h a i.toNatClampNeg) :: st) h else none := ev_ia d_63_14
theorem d_63_15 : decode (cd 63) 15 = .ok (.goto 8, 3) := by rw [cd_63]; decide +kernel
theorem e_63_15 {d : Nat} {h : mM} {L : mLs} {st : List Value} : ev d 63 15 L st h = ev d 63 23 L st h := ev_go d_63_15 (by decide)
theorem d_63_18 : decode (cd 63) 18 = .ok (.aload_n 0, 1) := by rw [cd_63]; decide +kernel
theorem e_63_18 {d : Nat} {h : mM} {T : mLs} {x : Nat} {st : List Value} : ev d 63 18 ( some (.ref x) :: T) st h = ev d 63 19 ( some (.ref x) :: T) (.ref x :: st) h := ev_of d_63_18 rfl
theorem d_63_19 : decode (cd 63) 19 = .ok (.iconst 1, 1) := by rw [cd_63]; decide +kernel
theorem e_63_19 {d : Nat} {h : mM} {L : mLs} {st : List Value} : ev d 63 19 L st h = ev d 63 20 L (.int 1 :: st) h := ev_of d_63_19 rfl
theorem d_63_20 : decode (cd 63) 20 = .ok (.invokevirtual 83, 3) := by rw [cd_63]; decide +kernel
theorem e_63_20 {d : Nat} {h : mM} {L : mLs} {st : List Value} {a : Nat} {x0 : Int32} (hc : mCat st ≤ 8) : ev (d + 1) 63 20 L (.int x0 :: .ref a :: st) h = if mK h a = 9 then cV (ev d 64 0 [some (.ref a), some (.int x0)] [] h) (fun v h1 => ev (d + 1) 63 23 L (v ++ st) h1) else none := ev_cv (mj := 64) (as := [.int x0]) (rest := st) d_63_20 (by decide +kernel) rfl rfl (by show _ ≤ List.length _; simp only [List.length_cons]; have : na 64 = 1 := rfl; omega) rfl (Nat.le_of_ble_eq_true rfl) hc
theorem d_63_23 : decode (cd 63) 23 = .ok (.ireturn, 1) := by rw [cd_63]; decide +kernel
theorem e_63_23 {d : Nat} {h : mM} {L : mLs} {v : Int32} : ev d 63 23 L [.int v] h = some (some (.int v), h) := ev_ri d_63_23 (by decide +kernel)
-- 64: TideMill.finding
theorem cd_64 : cd 64 = prog_1_method_28_code := rfl
theorem d_64_0 : decode (cd 64) 0 = .ok (.aload_n 0, 1) := by rw [cd_64]; decide +kernel
theorem e_64_0 {d : Nat} {h : mM} {T : mLs} {x : Nat} {st : List Value} : ev d 64 0 ( some (.ref x) :: T) st h = ev d 64 1 ( some (.ref x) :: T) (.ref x :: st) h := ev_of d_64_0 rfl
theorem d_64_1 : decode (cd 64) 1 = .ok (.getfield 51, 3) := by rw [cd_64]; decide +kernel
theorem e_64_1 {d : Nat} {h : mM} {L : mLs} {st : List Value} {a : Nat} : ev d 64 1 L (.ref a :: st) h = if mK h a = 9 then oB (mR h a 7) (fun b => ev d 64 4 L (.ref b :: st) h) else none := ev_gR d_64_1 (by decide +kernel) (by decide +kernel)
theorem d_64_4 : decode (cd 64) 4 = .ok (.iload_n 1, 1) := by rw [cd_64]; decide +kernel
theorem e_64_4 {d : Nat} {h : mM} {o0 : Option Value} {T : mLs} {x : Int32} {st : List Value} : ev d 64 4 (o0 :: some (.int x) :: T) st h = ev d 64 5 (o0 :: some (.int x) :: T) (.int x :: st) h := ev_of d_64_4 rfl
theorem d_64_5 : decode (cd 64) 5 = .ok (.dup2, 1) := by rw [cd_64]; decide +kernel
theorem e_64_5 {d : Nat} {h : mM} {L : mLs} {st : List Value} {a : Nat} {i : Int32} : ev d 64 5 L (.int i :: .ref a :: st) h = ev d 64 6 L (.int i :: .ref a :: .int i :: .ref a :: st) h := ev_of d_64_5 rfl
theorem d_64_6 : decode (cd 64) 6 = .ok (.iaload, 1) := by rw [cd_64]; decide +kernel
theorem e_64_6 {d : Nat} {h : mM} {L : mLs} {st : List Value} {a : Nat} {i : Int32} : ev d 64 6 L (.int i :: .ref a :: st) h = if (mK h a = 11 ∨ mK h a = 19) ∧ ixOK i (mL h a) = true then ev d 64 7 L (.int (mI h a i.toNatClampNeg) :: st) h else none := ev_ia d_64_6
theorem d_64_7 : decode (cd 64) 7 = .ok (.iconst 1, 1) := by rw [cd_64]; decide +kernel
theorem e_64_7 {d : Nat} {h : mM} {L : mLs} {st : List Value} : ev d 64 7 L st h = ev d 64 8 L (.int 1 :: st) h := ev_of d_64_7 rfl
theorem d_64_8 : decode (cd 64) 8 = .ok (.iadd, 1) := by rw [cd_64]; decide +kernel
theorem e_64_8 {d : Nat} {h : mM} {L : mLs} {st : List Value} {x y : Int32} : ev d 64 8 L (.int y :: .int x :: st) h = ev d 64 9 L (.int (x + y) :: st) h := ev_of d_64_8 rfl
theorem d_64_9 : decode (cd 64) 9 = .ok (.iastore, 1) := by rw [cd_64]; decide +kernel
theorem e_64_9 {d : Nat} {h : mM} {L : mLs} {st : List Value} {a : Nat} {i v : Int32} : ev d 64 9 L (.int v :: .int i :: .ref a :: st) h = if mK h a = 11 ∧ ixOK i (mL h a) = true then ev d 64 10 L st (wI h a i.toNatClampNeg v) else none := ev_is d_64_9
theorem d_64_10 : decode (cd 64) 10 = .ok (.ldc_w 291, 3) := by rw [cd_64]; decide +kernel
theorem e_64_10 {d : Nat} {h : mM} {L : mLs} {st : List Value} : ev d 64 10 L st h = ev d 64 13 L (.int (-1000000000) :: st) h := ev_of d_64_10 rfl
theorem d_64_13 : decode (cd 64) 13 = .ok (.iload_n 1, 1) := by rw [cd_64]; decide +kernel
theorem e_64_13 {d : Nat} {h : mM} {o0 : Option Value} {T : mLs} {x : Int32} {st : List Value} : ev d 64 13 (o0 :: some (.int x) :: T) st h = ev d 64 14 (o0 :: some (.int x) :: T) (.int x :: st) h := ev_of d_64_13 rfl
theorem d_64_14 : decode (cd 64) 14 = .ok (.isub, 1) := by rw [cd_64]; decide +kernel
theorem e_64_14 {d : Nat} {h : mM} {L : mLs} {st : List Value} {x y : Int32} : ev d 64 14 L (.int y :: .int x :: st) h = ev d 64 15 L (.int (x - y) :: st) h := ev_of d_64_14 rfl
theorem d_64_15 : decode (cd 64) 15 = .ok (.ireturn, 1) := by rw [cd_64]; decide +kernel
theorem e_64_15 {d : Nat} {h : mM} {L : mLs} {v : Int32} : ev d 64 15 L [.int v] h = some (some (.int v), h) := ev_ri d_64_15 (by decide +kernel)
-- 65: TideMill.isWithin
theorem cd_65 : cd 65 = prog_1_method_29_code := rfl
theorem d_65_0 : decode (cd 65) 0 = .ok (.iload_n 0, 1) := by rw [cd_65]; decide +kernel
theorem e_65_0 {d : Nat} {h : mM} {T : mLs} {x : Int32} {st : List Value} : ev d 65 0 ( some (.int x) :: T) st h = ev d 65 1 ( some (.int x) :: T) (.int x :: st) h := ev_of d_65_0 rfl
theorem d_65_1 : decode (cd 65) 1 = .ok (.iload_n 1, 1) := by rw [cd_65]; decide +kernel
theorem e_65_1 {d : Nat} {h : mM} {o0 : Option Value} {T : mLs} {x : Int32} {st : List Value} : ev d 65 1 (o0 :: some (.int x) :: T) st h = ev d 65 2 (o0 :: some (.int x) :: T) (.int x :: st) h := ev_of d_65_1 rfl
theorem d_65_2 : decode (cd 65) 2 = .ok (.if_icmp .lt 12, 3) := by rw [cd_65]; decide +kernel
theorem e_65_2 {d : Nat} {h : mM} {L : mLs} {st : List Value} {x y : Int32} : ev d 65 2 L (.int y :: .int x :: st) h = if x < y then ev d 65 14 L st h else ev d 65 5 L st h := ev_ic (x < y) inferInstance rfl d_65_2 (by decide)
theorem d_65_5 : decode (cd 65) 5 = .ok (.iload_n 0, 1) := by rw [cd_65]; decide +kernel
theorem e_65_5 {d : Nat} {h : mM} {T : mLs} {x : Int32} {st : List Value} : ev d 65 5 ( some (.int x) :: T) st h = ev d 65 6 ( some (.int x) :: T) (.int x :: st) h := ev_of d_65_5 rfl
theorem d_65_6 : decode (cd 65) 6 = .ok (.iload_n 2, 1) := by rw [cd_65]; decide +kernel
theorem e_65_6 {d : Nat} {h : mM} {o0 o1 : Option Value} {T : mLs} {x : Int32} {st : List Value} : ev d 65 6 (o0 :: o1 :: some (.int x) :: T) st h = ev d 65 7 (o0 :: o1 :: some (.int x) :: T) (.int x :: st) h := ev_of d_65_6 rfl
theorem d_65_7 : decode (cd 65) 7 = .ok (.if_icmp .gt 7, 3) := by rw [cd_65]; decide +kernel
theorem e_65_7 {d : Nat} {h : mM} {L : mLs} {st : List Value} {x y : Int32} : ev d 65 7 L (.int y :: .int x :: st) h = if y < x then ev d 65 14 L st h else ev d 65 10 L st h := ev_ic (y < x) inferInstance rfl d_65_7 (by decide)
theorem d_65_10 : decode (cd 65) 10 = .ok (.iconst 1, 1) := by rw [cd_65]; decide +kernel
theorem e_65_10 {d : Nat} {h : mM} {L : mLs} {st : List Value} : ev d 65 10 L st h = ev d 65 11 L (.int 1 :: st) h := ev_of d_65_10 rfl
theorem d_65_11 : decode (cd 65) 11 = .ok (.goto 4, 3) := by rw [cd_65]; decide +kernel
theorem e_65_11 {d : Nat} {h : mM} {L : mLs} {st : List Value} : ev d 65 11 L st h = ev d 65 15 L st h := ev_go d_65_11 (by decide)
theorem d_65_14 : decode (cd 65) 14 = .ok (.iconst 0, 1) := by rw [cd_65]; decide +kernel
theorem e_65_14 {d : Nat} {h : mM} {L : mLs} {st : List Value} : ev d 65 14 L st h = ev d 65 15 L (.int 0 :: st) h := ev_of d_65_14 rfl
theorem d_65_15 : decode (cd 65) 15 = .ok (.ireturn, 1) := by rw [cd_65]; decide +kernel
theorem e_65_15 {d : Nat} {h : mM} {L : mLs} {v : Int32} : ev d 65 15 L [.int v] h = if mZO v = true then some (some (.int v), h) else none := ev_rz d_65_15 (by decide +kernel)
-- 66: TideMill.isWidth
theorem cd_66 : cd 66 = prog_1_method_30_code := rfl
theorem d_66_0 : decode (cd 66) 0 = .ok (.iload_n 0, 1) := by rw [cd_66]; decide +kernel
theorem e_66_0 {d : Nat} {h : mM} {T : mLs} {x : Int32} {st : List Value} : ev d 66 0 ( some (.int x) :: T) st h = ev d 66 1 ( some (.int x) :: T) (.int x :: st) h := ev_of d_66_0 rfl
theorem d_66_1 : decode (cd 66) 1 = .ok (.iconst 0, 1) := by rw [cd_66]; decide +kernel
theorem e_66_1 {d : Nat} {h : mM} {L : mLs} {st : List Value} : ev d 66 1 L st h = ev d 66 2 L (.int 0 :: st) h := ev_of d_66_1 rfl
theorem d_66_2 : decode (cd 66) 2 = .ok (.sipush 200, 3) := by rw [cd_66]; decide +kernel
theorem e_66_2 {d : Nat} {h : mM} {L : mLs} {st : List Value} : ev d 66 2 L st h = ev d 66 5 L (.int 200 :: st) h := ev_of d_66_2 rfl
theorem d_66_5 : decode (cd 66) 5 = .ok (.invokestatic 79, 3) := by rw [cd_66]; decide +kernel
theorem e_66_5 {d : Nat} {h : mM} {L : mLs} {st : List Value} {x0 : Int32} {x1 : Int32} {x2 : Int32} (hc : mCat st ≤ 8) : ev (d + 1) 66 5 L (.int x2 :: .int x1 :: .int x0 :: st) h = cV (ev d 65 0 [some (.int x0), some (.int x1), some (.int x2)] [] h) (fun v h1 => ev (d + 1) 66 8 L (v ++ st) h1) := ev_cs (kd := 1) (mj := 65) (as := [.int x0, .int x1, .int x2]) (rest := st) d_66_5 (by decide +kernel) (by decide) rfl rfl (by show _ ≤ List.length _; simp only [List.length_cons]; have : na 65 = 3 := rfl; omega) rfl (Nat.le_of_ble_eq_true rfl) hc
theorem d_66_8 : decode (cd 66) 8 = .ok (.ireturn, 1) := by rw [cd_66]; decide +kernel
theorem e_66_8 {d : Nat} {h : mM} {L : mLs} {v : Int32} : ev d 66 8 L [.int v] h = if mZO v = true then some (some (.int v), h) else none := ev_rz d_66_8 (by decide +kernel)
-- 67: TideMill.isKind
theorem cd_67 : cd 67 = prog_1_method_31_code := rfl
theorem d_67_0 : decode (cd 67) 0 = .ok (.iload_n 0, 1) := by rw [cd_67]; decide +kernel
theorem e_67_0 {d : Nat} {h : mM} {T : mLs} {x : Int32} {st : List Value} : ev d 67 0 ( some (.int x) :: T) st h = ev d 67 1 ( some (.int x) :: T) (.int x :: st) h := ev_of d_67_0 rfl
theorem d_67_1 : decode (cd 67) 1 = .ok (.iconst 0, 1) := by rw [cd_67]; decide +kernel
theorem e_67_1 {d : Nat} {h : mM} {L : mLs} {st : List Value} : ev d 67 1 L st h = ev d 67 2 L (.int 0 :: st) h := ev_of d_67_1 rfl
theorem d_67_2 : decode (cd 67) 2 = .ok (.iconst 2, 1) := by rw [cd_67]; decide +kernel
theorem e_67_2 {d : Nat} {h : mM} {L : mLs} {st : List Value} : ev d 67 2 L st h = ev d 67 3 L (.int 2 :: st) h := ev_of d_67_2 rfl
theorem d_67_3 : decode (cd 67) 3 = .ok (.invokestatic 79, 3) := by rw [cd_67]; decide +kernel
theorem e_67_3 {d : Nat} {h : mM} {L : mLs} {st : List Value} {x0 : Int32} {x1 : Int32} {x2 : Int32} (hc : mCat st ≤ 8) : ev (d + 1) 67 3 L (.int x2 :: .int x1 :: .int x0 :: st) h = cV (ev d 65 0 [some (.int x0), some (.int x1), some (.int x2)] [] h) (fun v h1 => ev (d + 1) 67 6 L (v ++ st) h1) := ev_cs (kd := 1) (mj := 65) (as := [.int x0, .int x1, .int x2]) (rest := st) d_67_3 (by decide +kernel) (by decide) rfl rfl (by show _ ≤ List.length _; simp only [List.length_cons]; have : na 65 = 3 := rfl; omega) rfl (Nat.le_of_ble_eq_true rfl) hc
theorem d_67_6 : decode (cd 67) 6 = .ok (.ireturn, 1) := by rw [cd_67]; decide +kernel
theorem e_67_6 {d : Nat} {h : mM} {L : mLs} {v : Int32} : ev d 67 6 L [.int v] h = if mZO v = true then some (some (.int v), h) else none := ev_rz d_67_6 (by decide +kernel)
-- 68: TideMill.isCustomer
theorem cd_68 : cd 68 = prog_1_method_32_code := rfl
theorem d_68_0 : decode (cd 68) 0 = .ok (.iload_n 0, 1) := by rw [cd_68]; decide +kernel
theorem e_68_0 {d : Nat} {h : mM} {T : mLs} {x : Int32} {st : List Value} : ev d 68 0 ( some (.int x) :: T) st h = ev d 68 1 ( some (.int x) :: T) (.int x :: st) h := ev_of d_68_0 rfl
theorem d_68_1 : decode (cd 68) 1 = .ok (.iconst 0, 1) := by rw [cd_68]; decide +kernel
theorem e_68_1 {d : Nat} {h : mM} {L : mLs} {st : List Value} : ev d 68 1 L st h = ev d 68 2 L (.int 0 :: st) h := ev_of d_68_1 rfl
theorem d_68_2 : decode (cd 68) 2 = .ok (.bipush 9, 2) := by rw [cd_68]; decide +kernel
theorem e_68_2 {d : Nat} {h : mM} {L : mLs} {st : List Value} : ev d 68 2 L st h = ev d 68 4 L (.int 9 :: st) h := ev_of d_68_2 rfl
theorem d_68_4 : decode (cd 68) 4 = .ok (.invokestatic 79, 3) := by rw [cd_68]; decide +kernel
theorem e_68_4 {d : Nat} {h : mM} {L : mLs} {st : List Value} {x0 : Int32} {x1 : Int32} {x2 : Int32} (hc : mCat st ≤ 8) : ev (d + 1) 68 4 L (.int x2 :: .int x1 :: .int x0 :: st) h = cV (ev d 65 0 [some (.int x0), some (.int x1), some (.int x2)] [] h) (fun v h1 => ev (d + 1) 68 7 L (v ++ st) h1) := ev_cs (kd := 1) (mj := 65) (as := [.int x0, .int x1, .int x2]) (rest := st) d_68_4 (by decide +kernel) (by decide) rfl rfl (by show _ ≤ List.length _; simp only [List.length_cons]; have : na 65 = 3 := rfl; omega) rfl (Nat.le_of_ble_eq_true rfl) hc
theorem d_68_7 : decode (cd 68) 7 = .ok (.ireturn, 1) := by rw [cd_68]; decide +kernel
theorem e_68_7 {d : Nat} {h : mM} {L : mLs} {v : Int32} : ev d 68 7 L [.int v] h = if mZO v = true then some (some (.int v), h) else none := ev_rz d_68_7 (by decide +kernel)
-- 69: TideMill.isCustomerOfKind
theorem cd_69 : cd 69 = prog_1_method_33_code := rfl
theorem d_69_0 : decode (cd 69) 0 = .ok (.iload_n 1, 1) := by rw [cd_69]; decide +kernel
theorem e_69_0 {d : Nat} {h : mM} {o0 : Option Value} {T : mLs} {x : Int32} {st : List Value} : ev d 69 0 (o0 :: some (.int x) :: T) st h = ev d 69 1 (o0 :: some (.int x) :: T) (.int x :: st) h := ev_of d_69_0 rfl
theorem d_69_1 : decode (cd 69) 1 = .ok (.iconst 1, 1) := by rw [cd_69]; decide +kernel
theorem e_69_1 {d : Nat} {h : mM} {L : mLs} {st : List Value} : ev d 69 1 L st h = ev d 69 2 L (.int 1 :: st) h := ev_of d_69_1 rfl
theorem d_69_2 : decode (cd 69) 2 = .ok (.if_icmp .ne 10, 3) := by rw [cd_69]; decide +kernel
theorem e_69_2 {d : Nat} {h : mM} {L : mLs} {st : List Value} {x y : Int32} : ev d 69 2 L (.int y :: .int x :: st) h = if ¬ x = y then ev d 69 12 L st h else ev d 69 5 L st h := ev_ic (¬ x = y) inferInstance rfl d_69_2 (by decide)
theorem d_69_5 : decode (cd 69) 5 = .ok (.iload_n 0, 1) := by rw [cd_69]; decide +kernel
theorem e_69_5 {d : Nat} {h : mM} {T : mLs} {x : Int32} {st : List Value} : ev d 69 5 ( some (.int x) :: T) st h = ev d 69 6 ( some (.int x) :: T) (.int x :: st) h := ev_of d_69_5 rfl
theorem d_69_6 : decode (cd 69) 6 = .ok (.invokestatic 216, 3) := by rw [cd_69]; decide +kernel
theorem e_69_6 {d : Nat} {h : mM} {L : mLs} {st : List Value} {x0 : Int32} (hc : mCat st ≤ 8) : ev (d + 1) 69 6 L (.int x0 :: st) h = cV (ev d 68 0 [some (.int x0)] [] h) (fun v h1 => ev (d + 1) 69 9 L (v ++ st) h1) := ev_cs (kd := 1) (mj := 68) (as := [.int x0]) (rest := st) d_69_6 (by decide +kernel) (by decide) rfl rfl (by show _ ≤ List.length _; simp only [List.length_cons]; have : na 68 = 1 := rfl; omega) rfl (Nat.le_of_ble_eq_true rfl) hc
theorem d_69_9 : decode (cd 69) 9 = .ok (.goto 12, 3) := by rw [cd_69]; decide +kernel
theorem e_69_9 {d : Nat} {h : mM} {L : mLs} {st : List Value} : ev d 69 9 L st h = ev d 69 21 L st h := ev_go d_69_9 (by decide)
theorem d_69_12 : decode (cd 69) 12 = .ok (.iload_n 0, 1) := by rw [cd_69]; decide +kernel
theorem e_69_12 {d : Nat} {h : mM} {T : mLs} {x : Int32} {st : List Value} : ev d 69 12 ( some (.int x) :: T) st h = ev d 69 13 ( some (.int x) :: T) (.int x :: st) h := ev_of d_69_12 rfl
theorem d_69_13 : decode (cd 69) 13 = .ok (.ifCond .ne 7, 3) := by rw [cd_69]; decide +kernel
theorem e_69_13 {d : Nat} {h : mM} {L : mLs} {st : List Value} {x : Int32} : ev d 69 13 L (.int x :: st) h = if ¬ x = 0 then ev d 69 20 L st h else ev d 69 16 L st h := ev_if (¬ x = 0) inferInstance rfl d_69_13 (by decide)
theorem d_69_16 : decode (cd 69) 16 = .ok (.iconst 1, 1) := by rw [cd_69]; decide +kernel
theorem e_69_16 {d : Nat} {h : mM} {L : mLs} {st : List Value} : ev d 69 16 L st h = ev d 69 17 L (.int 1 :: st) h := ev_of d_69_16 rfl
theorem d_69_17 : decode (cd 69) 17 = .ok (.goto 4, 3) := by rw [cd_69]; decide +kernel
theorem e_69_17 {d : Nat} {h : mM} {L : mLs} {st : List Value} : ev d 69 17 L st h = ev d 69 21 L st h := ev_go d_69_17 (by decide)
theorem d_69_20 : decode (cd 69) 20 = .ok (.iconst 0, 1) := by rw [cd_69]; decide +kernel
theorem e_69_20 {d : Nat} {h : mM} {L : mLs} {st : List Value} : ev d 69 20 L st h = ev d 69 21 L (.int 0 :: st) h := ev_of d_69_20 rfl
theorem d_69_21 : decode (cd 69) 21 = .ok (.ireturn, 1) := by rw [cd_69]; decide +kernel
theorem e_69_21 {d : Nat} {h : mM} {L : mLs} {v : Int32} : ev d 69 21 L [.int v] h = if mZO v = true then some (some (.int v), h) else none := ev_rz d_69_21 (by decide +kernel)
-- 70: TideMill.isPond
theorem cd_70 : cd 70 = prog_1_method_34_code := rfl
theorem d_70_0 : decode (cd 70) 0 = .ok (.iload_n 1, 1) := by rw [cd_70]; decide +kernel
theorem e_70_0 {d : Nat} {h : mM} {o0 : Option Value} {T : mLs} {x : Int32} {st : List Value} : ev d 70 0 (o0 :: some (.int x) :: T) st h = ev d 70 1 (o0 :: some (.int x) :: T) (.int x :: st) h := ev_of d_70_0 rfl
theorem d_70_1 : decode (cd 70) 1 = .ok (.iconst 0, 1) := by rw [cd_70]; decide +kernel
theorem e_70_1 {d : Nat} {h : mM} {L : mLs} {st : List Value} : ev d 70 1 L st h = ev d 70 2 L (.int 0 :: st) h := ev_of d_70_1 rfl
theorem d_70_2 : decode (cd 70) 2 = .ok (.aload_n 0, 1) := by rw [cd_70]; decide +kernel
theorem e_70_2 {d : Nat} {h : mM} {T : mLs} {x : Nat} {st : List Value} : ev d 70 2 ( some (.ref x) :: T) st h = ev d 70 3 ( some (.ref x) :: T) (.ref x :: st) h := ev_of d_70_2 rfl
theorem d_70_3 : decode (cd 70) 3 = .ok (.getfield 19, 3) := by rw [cd_70]; decide +kernel
theorem e_70_3 {d : Nat} {h : mM} {L : mLs} {st : List Value} {a : Nat} : ev d 70 3 L (.ref a :: st) h = if mK h a = 9 then oB (mR h a 1) (fun b => ev d 70 6 L (.ref b :: st) h) else none := ev_gR d_70_3 (by decide +kernel) (by decide +kernel)
theorem d_70_6 : decode (cd 70) 6 = .ok (.getfield 100, 3) := by rw [cd_70]; decide +kernel
theorem e_70_6 {d : Nat} {h : mM} {L : mLs} {st : List Value} {a : Nat} : ev d 70 6 L (.ref a :: st) h = if mK h a = 8 then ev d 70 9 L (.int (mI h a 4) :: st) h else none := ev_gI d_70_6 (by decide +kernel) (by decide +kernel)
theorem d_70_9 : decode (cd 70) 9 = .ok (.iconst 1, 1) := by rw [cd_70]; decide +kernel
theorem e_70_9 {d : Nat} {h : mM} {L : mLs} {st : List Value} : ev d 70 9 L st h = ev d 70 10 L (.int 1 :: st) h := ev_of d_70_9 rfl
theorem d_70_10 : decode (cd 70) 10 = .ok (.isub, 1) := by rw [cd_70]; decide +kernel
theorem e_70_10 {d : Nat} {h : mM} {L : mLs} {st : List Value} {x y : Int32} : ev d 70 10 L (.int y :: .int x :: st) h = ev d 70 11 L (.int (x - y) :: st) h := ev_of d_70_10 rfl
theorem d_70_11 : decode (cd 70) 11 = .ok (.invokestatic 79, 3) := by rw [cd_70]; decide +kernel
theorem e_70_11 {d : Nat} {h : mM} {L : mLs} {st : List Value} {x0 : Int32} {x1 : Int32} {x2 : Int32} (hc : mCat st ≤ 8) : ev (d + 1) 70 11 L (.int x2 :: .int x1 :: .int x0 :: st) h = cV (ev d 65 0 [some (.int x0), some (.int x1), some (.int x2)] [] h) (fun v h1 => ev (d + 1) 70 14 L (v ++ st) h1) := ev_cs (kd := 1) (mj := 65) (as := [.int x0, .int x1, .int x2]) (rest := st) d_70_11 (by decide +kernel) (by decide) rfl rfl (by show _ ≤ List.length _; simp only [List.length_cons]; have : na 65 = 3 := rfl; omega) rfl (Nat.le_of_ble_eq_true rfl) hc
theorem d_70_14 : decode (cd 70) 14 = .ok (.ireturn, 1) := by rw [cd_70]; decide +kernel
theorem e_70_14 {d : Nat} {h : mM} {L : mLs} {v : Int32} : ev d 70 14 L [.int v] h = if mZO v = true then some (some (.int v), h) else none := ev_rz d_70_14 (by decide +kernel)
-- 71: TideMill.isMill
theorem cd_71 : cd 71 = prog_1_method_35_code := rfl
theorem d_71_0 : decode (cd 71) 0 = .ok (.iload_n 1, 1) := by rw [cd_71]; decide +kernel
theorem e_71_0 {d : Nat} {h : mM} {o0 : Option Value} {T : mLs} {x : Int32} {st : List Value} : ev d 71 0 (o0 :: some (.int x) :: T) st h = ev d 71 1 (o0 :: some (.int x) :: T) (.int x :: st) h := ev_of d_71_0 rfl
theorem d_71_1 : decode (cd 71) 1 = .ok (.iconst 0, 1) := by rw [cd_71]; decide +kernel
theorem e_71_1 {d : Nat} {h : mM} {L : mLs} {st : List Value} : ev d 71 1 L st h = ev d 71 2 L (.int 0 :: st) h := ev_of d_71_1 rfl
theorem d_71_2 : decode (cd 71) 2 = .ok (.aload_n 0, 1) := by rw [cd_71]; decide +kernel
theorem e_71_2 {d : Nat} {h : mM} {T : mLs} {x : Nat} {st : List Value} : ev d 71 2 ( some (.ref x) :: T) st h = ev d 71 3 ( some (.ref x) :: T) (.ref x :: st) h := ev_of d_71_2 rfl
theorem d_71_3 : decode (cd 71) 3 = .ok (.getfield 19, 3) := by rw [cd_71]; decide +kernel
theorem e_71_3 {d : Nat} {h : mM} {L : mLs} {st : List Value} {a : Nat} : ev d 71 3 L (.ref a :: st) h = if mK h a = 9 then oB (mR h a 1) (fun b => ev d 71 6 L (.ref b :: st) h) else none := ev_gR d_71_3 (by decide +kernel) (by decide +kernel)
theorem d_71_6 : decode (cd 71) 6 = .ok (.getfield 157, 3) := by rw [cd_71]; decide +kernel
theorem e_71_6 {d : Nat} {h : mM} {L : mLs} {st : List Value} {a : Nat} : ev d 71 6 L (.ref a :: st) h = if mK h a = 8 then ev d 71 9 L (.int (mI h a 6) :: st) h else none := ev_gI d_71_6 (by decide +kernel) (by decide +kernel)
theorem d_71_9 : decode (cd 71) 9 = .ok (.iconst 1, 1) := by rw [cd_71]; decide +kernel
theorem e_71_9 {d : Nat} {h : mM} {L : mLs} {st : List Value} : ev d 71 9 L st h = ev d 71 10 L (.int 1 :: st) h := ev_of d_71_9 rfl
theorem d_71_10 : decode (cd 71) 10 = .ok (.isub, 1) := by rw [cd_71]; decide +kernel
theorem e_71_10 {d : Nat} {h : mM} {L : mLs} {st : List Value} {x y : Int32} : ev d 71 10 L (.int y :: .int x :: st) h = ev d 71 11 L (.int (x - y) :: st) h := ev_of d_71_10 rfl
theorem d_71_11 : decode (cd 71) 11 = .ok (.invokestatic 79, 3) := by rw [cd_71]; decide +kernel
theorem e_71_11 {d : Nat} {h : mM} {L : mLs} {st : List Value} {x0 : Int32} {x1 : Int32} {x2 : Int32} (hc : mCat st ≤ 8) : ev (d + 1) 71 11 L (.int x2 :: .int x1 :: .int x0 :: st) h = cV (ev d 65 0 [some (.int x0), some (.int x1), some (.int x2)] [] h) (fun v h1 => ev (d + 1) 71 14 L (v ++ st) h1) := ev_cs (kd := 1) (mj := 65) (as := [.int x0, .int x1, .int x2]) (rest := st) d_71_11 (by decide +kernel) (by decide) rfl rfl (by show _ ≤ List.length _; simp only [List.length_cons]; have : na 65 = 3 := rfl; omega) rfl (Nat.le_of_ble_eq_true rfl) hc
theorem d_71_14 : decode (cd 71) 14 = .ok (.ireturn, 1) := by rw [cd_71]; decide +kernel
theorem e_71_14 {d : Nat} {h : mM} {L : mLs} {v : Int32} : ev d 71 14 L [.int v] h = if mZO v = true then some (some (.int v), h) else none := ev_rz d_71_14 (by decide +kernel)
-- 72: TideMill.waterInPonds
theorem cd_72 : cd 72 = prog_1_method_36_code := rfl
theorem d_72_0 : decode (cd 72) 0 = .ok (.iconst 0, 1) := by rw [cd_72]; decide +kernel
theorem e_72_0 {d : Nat} {h : mM} {L : mLs} {st : List Value} : ev d 72 0 L st h = ev d 72 1 L (.int 0 :: st) h := ev_of d_72_0 rfl
theorem d_72_1 : decode (cd 72) 1 = .ok (.istore_n 1, 1) := by rw [cd_72]; decide +kernel
theorem e_72_1 {d : Nat} {h : mM} {o0 o1 : Option Value} {T : mLs} {x : Int32} {st : List Value} (hl : mLong o0 = false) : ev d 72 1 (o0 :: o1 :: T) (.int x :: st) h = ev d 72 2 (o0 :: some (.int x) :: T) st h := ev_st_in d_72_1 (by decide +kernel) (mS1_s (j := 0) hl)
theorem d_72_2 : decode (cd 72) 2 = .ok (.iconst 0, 1) := by rw [cd_72]; decide +kernel
theorem e_72_2 {d : Nat} {h : mM} {L : mLs} {st : List Value} : ev d 72 2 L st h = ev d 72 3 L (.int 0 :: st) h := ev_of d_72_2 rfl
theorem d_72_3 : decode (cd 72) 3 = .ok (.istore_n 2, 1) := by rw [cd_72]; decide +kernel
theorem e_72_3 {d : Nat} {h : mM} {o0 o1 o2 : Option Value} {T : mLs} {x : Int32} {st : List Value} (hl : mLong o1 = false) : ev d 72 3 (o0 :: o1 :: o2 :: T) (.int x :: st) h = ev d 72 4 (o0 :: o1 :: some (.int x) :: T) st h := ev_st_in d_72_3 (by decide +kernel) (mS1_s (j := 1) hl)
theorem d_72_4 : decode (cd 72) 4 = .ok (.iload_n 2, 1) := by rw [cd_72]; decide +kernel
theorem e_72_4 {d : Nat} {h : mM} {o0 o1 : Option Value} {T : mLs} {x : Int32} {st : List Value} : ev d 72 4 (o0 :: o1 :: some (.int x) :: T) st h = ev d 72 5 (o0 :: o1 :: some (.int x) :: T) (.int x :: st) h := ev_of d_72_4 rfl
theorem d_72_5 : decode (cd 72) 5 = .ok (.aload_n 0, 1) := by rw [cd_72]; decide +kernel
theorem e_72_5 {d : Nat} {h : mM} {T : mLs} {x : Nat} {st : List Value} : ev d 72 5 ( some (.ref x) :: T) st h = ev d 72 6 ( some (.ref x) :: T) (.ref x :: st) h := ev_of d_72_5 rfl
theorem d_72_6 : decode (cd 72) 6 = .ok (.getfield 19, 3) := by rw [cd_72]; decide +kernel
theorem e_72_6 {d : Nat} {h : mM} {L : mLs} {st : List Value} {a : Nat} : ev d 72 6 L (.ref a :: st) h = if mK h a = 9 then oB (mR h a 1) (fun b => ev d 72 9 L (.ref b :: st) h) else none := ev_gR d_72_6 (by decide +kernel) (by decide +kernel)
theorem d_72_9 : decode (cd 72) 9 = .ok (.getfield 100, 3) := by rw [cd_72]; decide +kernel
theorem e_72_9 {d : Nat} {h : mM} {L : mLs} {st : List Value} {a : Nat} : ev d 72 9 L (.ref a :: st) h = if mK h a = 8 then ev d 72 12 L (.int (mI h a 4) :: st) h else none := ev_gI d_72_9 (by decide +kernel) (by decide +kernel)
theorem d_72_12 : decode (cd 72) 12 = .ok (.if_icmp .ge 18, 3) := by rw [cd_72]; decide +kernel
theorem e_72_12 {d : Nat} {h : mM} {L : mLs} {st : List Value} {x y : Int32} : ev d 72 12 L (.int y :: .int x :: st) h = if y ≤ x then ev d 72 30 L st h else ev d 72 15 L st h := ev_ic (y ≤ x) inferInstance rfl d_72_12 (by decide)
theorem d_72_15 : decode (cd 72) 15 = .ok (.iload_n 1, 1) := by rw [cd_72]; decide +kernel
theorem e_72_15 {d : Nat} {h : mM} {o0 : Option Value} {T : mLs} {x : Int32} {st : List Value} : ev d 72 15 (o0 :: some (.int x) :: T) st h = ev d 72 16 (o0 :: some (.int x) :: T) (.int x :: st) h := ev_of d_72_15 rfl
theorem d_72_16 : decode (cd 72) 16 = .ok (.aload_n 0, 1) := by rw [cd_72]; decide +kernel
theorem e_72_16 {d : Nat} {h : mM} {T : mLs} {x : Nat} {st : List Value} : ev d 72 16 ( some (.ref x) :: T) st h = ev d 72 17 ( some (.ref x) :: T) (.ref x :: st) h := ev_of d_72_16 rfl
theorem d_72_17 : decode (cd 72) 17 = .ok (.getfield 41, 3) := by rw [cd_72]; decide +kernel
theorem e_72_17 {d : Nat} {h : mM} {L : mLs} {st : List Value} {a : Nat} : ev d 72 17 L (.ref a :: st) h = if mK h a = 9 then oB (mR h a 4) (fun b => ev d 72 20 L (.ref b :: st) h) else none := ev_gR d_72_17 (by decide +kernel) (by decide +kernel)
theorem d_72_20 : decode (cd 72) 20 = .ok (.iload_n 2, 1) := by rw [cd_72]; decide +kernel
theorem e_72_20 {d : Nat} {h : mM} {o0 o1 : Option Value} {T : mLs} {x : Int32} {st : List Value} : ev d 72 20 (o0 :: o1 :: some (.int x) :: T) st h = ev d 72 21 (o0 :: o1 :: some (.int x) :: T) (.int x :: st) h := ev_of d_72_20 rfl
theorem d_72_21 : decode (cd 72) 21 = .ok (.iaload, 1) := by rw [cd_72]; decide +kernel
theorem e_72_21 {d : Nat} {h : mM} {L : mLs} {st : List Value} {a : Nat} {i : Int32} : ev d 72 21 L (.int i :: .ref a :: st) h = if (mK h a = 11 ∨ mK h a = 19) ∧ ixOK i (mL h a) = true then ev d 72 22 L (.int (mI h a i.toNatClampNeg) :: st) h else none := ev_ia d_72_21
theorem d_72_22 : decode (cd 72) 22 = .ok (.iadd, 1) := by rw [cd_72]; decide +kernel
theorem e_72_22 {d : Nat} {h : mM} {L : mLs} {st : List Value} {x y : Int32} : ev d 72 22 L (.int y :: .int x :: st) h = ev d 72 23 L (.int (x + y) :: st) h := ev_of d_72_22 rfl
theorem d_72_23 : decode (cd 72) 23 = .ok (.istore_n 1, 1) := by rw [cd_72]; decide +kernel
theorem e_72_23 {d : Nat} {h : mM} {o0 o1 : Option Value} {T : mLs} {x : Int32} {st : List Value} (hl : mLong o0 = false) : ev d 72 23 (o0 :: o1 :: T) (.int x :: st) h = ev d 72 24 (o0 :: some (.int x) :: T) st h := ev_st_in d_72_23 (by decide +kernel) (mS1_s (j := 0) hl)
theorem d_72_24 : decode (cd 72) 24 = .ok (.iinc 2 1, 3) := by rw [cd_72]; decide +kernel
theorem e_72_24 {d : Nat} {h : mM} {o0 o1 : Option Value} {T : mLs} {x : Int32} {st : List Value} (hl : mLong o1 = false) : ev d 72 24 (o0 :: o1 :: some (.int x) :: T) st h = ev d 72 27 (o0 :: o1 :: some (.int (x + 1)) :: T) st h := ev_inc d_72_24 (by decide +kernel) rfl rfl (mS1_s (j := 1) hl)
theorem d_72_27 : decode (cd 72) 27 = .ok (.goto (-23), 3) := by rw [cd_72]; decide +kernel
theorem e_72_27 {d : Nat} {h : mM} {L : mLs} {st : List Value} : ev d 72 27 L st h = ev d 72 4 L st h := ev_go d_72_27 (by decide)
theorem d_72_30 : decode (cd 72) 30 = .ok (.iload_n 1, 1) := by rw [cd_72]; decide +kernel
theorem e_72_30 {d : Nat} {h : mM} {o0 : Option Value} {T : mLs} {x : Int32} {st : List Value} : ev d 72 30 (o0 :: some (.int x) :: T) st h = ev d 72 31 (o0 :: some (.int x) :: T) (.int x :: st) h := ev_of d_72_30 rfl
theorem d_72_31 : decode (cd 72) 31 = .ok (.ireturn, 1) := by rw [cd_72]; decide +kernel
theorem e_72_31 {d : Nat} {h : mM} {L : mLs} {v : Int32} : ev d 72 31 L [.int v] h = some (some (.int v), h) := ev_ri d_72_31 (by decide +kernel)
-- 73: TideMill.countWater
theorem cd_73 : cd 73 = prog_1_method_37_code := rfl
theorem d_73_0 : decode (cd 73) 0 = .ok (.aload_n 0, 1) := by rw [cd_73]; decide +kernel
theorem e_73_0 {d : Nat} {h : mM} {T : mLs} {x : Nat} {st : List Value} : ev d 73 0 ( some (.ref x) :: T) st h = ev d 73 1 ( some (.ref x) :: T) (.ref x :: st) h := ev_of d_73_0 rfl
theorem d_73_1 : decode (cd 73) 1 = .ok (.dup, 1) := by rw [cd_73]; decide +kernel
theorem e_73_1r {d : Nat} {h : mM} {L : mLs} {st : List Value} {a : Nat} : ev d 73 1 L (.ref a :: st) h = ev d 73 2 L (.ref a :: .ref a :: st) h := ev_of d_73_1 rfl
theorem e_73_1i {d : Nat} {h : mM} {L : mLs} {st : List Value} {x : Int32} : ev d 73 1 L (.int x :: st) h = ev d 73 2 L (.int x :: .int x :: st) h := ev_of d_73_1 rfl
theorem d_73_2 : decode (cd 73) 2 = .ok (.getfield 64, 3) := by rw [cd_73]; decide +kernel
theorem e_73_2 {d : Nat} {h : mM} {L : mLs} {st : List Value} {a : Nat} : ev d 73 2 L (.ref a :: st) h = if mK h a = 9 then ev d 73 5 L (.int (mI h a 11) :: st) h else none := ev_gI d_73_2 (by decide +kernel) (by decide +kernel)
theorem d_73_5 : decode (cd 73) 5 = .ok (.aload_n 0, 1) := by rw [cd_73]; decide +kernel
theorem e_73_5 {d : Nat} {h : mM} {T : mLs} {x : Nat} {st : List Value} : ev d 73 5 ( some (.ref x) :: T) st h = ev d 73 6 ( some (.ref x) :: T) (.ref x :: st) h := ev_of d_73_5 rfl
theorem d_73_6 : decode (cd 73) 6 = .ok (.getfield 28, 3) := by rw [cd_73]; decide +kernel
theorem e_73_6 {d : Nat} {h : mM} {L : mLs} {st : List Value} {a : Nat} : ev d 73 6 L (.ref a :: st) h = if mK h a = 9 then oB (mR h a 2) (fun b => ev d 73 9 L (.ref b :: st) h) else none := ev_gR d_73_6 (by decide +kernel) (by decide +kernel)
theorem d_73_9 : decode (cd 73) 9 = .ok (.getfield 292, 3) := by rw [cd_73]; decide +kernel
theorem e_73_9 {d : Nat} {h : mM} {L : mLs} {st : List Value} {a : Nat} : ev d 73 9 L (.ref a :: st) h = if mK h a = 1 then ev d 73 12 L (.int (mI h a 2) :: st) h else none := ev_gI d_73_9 (by decide +kernel) (by decide +kernel)
theorem d_73_12 : decode (cd 73) 12 = .ok (.iadd, 1) := by rw [cd_73]; decide +kernel
theorem e_73_12 {d : Nat} {h : mM} {L : mLs} {st : List Value} {x y : Int32} : ev d 73 12 L (.int y :: .int x :: st) h = ev d 73 13 L (.int (x + y) :: st) h := ev_of d_73_12 rfl
theorem d_73_13 : decode (cd 73) 13 = .ok (.putfield 64, 3) := by rw [cd_73]; decide +kernel
theorem e_73_13 {d : Nat} {h : mM} {L : mLs} {st : List Value} {a : Nat} {v : Int32} : ev d 73 13 L (.int v :: .ref a :: st) h = if mK h a = 9 then ev d 73 16 L st (wI h a 11 v) else none := ev_pI d_73_13 (by decide +kernel) (by decide +kernel) (by decide +kernel)
theorem d_73_16 : decode (cd 73) 16 = .ok (.aload_n 0, 1) := by rw [cd_73]; decide +kernel
theorem e_73_16 {d : Nat} {h : mM} {T : mLs} {x : Nat} {st : List Value} : ev d 73 16 ( some (.ref x) :: T) st h = ev d 73 17 ( some (.ref x) :: T) (.ref x :: st) h := ev_of d_73_16 rfl
theorem d_73_17 : decode (cd 73) 17 = .ok (.dup, 1) := by rw [cd_73]; decide +kernel
theorem e_73_17r {d : Nat} {h : mM} {L : mLs} {st : List Value} {a : Nat} : ev d 73 17 L (.ref a :: st) h = ev d 73 18 L (.ref a :: .ref a :: st) h := ev_of d_73_17 rfl
theorem e_73_17i {d : Nat} {h : mM} {L : mLs} {st : List Value} {x : Int32} : ev d 73 17 L (.int x :: st) h = ev d 73 18 L (.int x :: .int x :: st) h := ev_of d_73_17 rfl
theorem d_73_18 : decode (cd 73) 18 = .ok (.getfield 67, 3) := by rw [cd_73]; decide +kernel
theorem e_73_18 {d : Nat} {h : mM} {L : mLs} {st : List Value} {a : Nat} : ev d 73 18 L (.ref a :: st) h = if mK h a = 9 then ev d 73 21 L (.int (mI h a 12) :: st) h else none := ev_gI d_73_18 (by decide +kernel) (by decide +kernel)
theorem d_73_21 : decode (cd 73) 21 = .ok (.aload_n 0, 1) := by rw [cd_73]; decide +kernel
theorem e_73_21 {d : Nat} {h : mM} {T : mLs} {x : Nat} {st : List Value} : ev d 73 21 ( some (.ref x) :: T) st h = ev d 73 22 ( some (.ref x) :: T) (.ref x :: st) h := ev_of d_73_21 rfl
theorem d_73_22 : decode (cd 73) 22 = .ok (.getfield 28, 3) := by rw [cd_73]; decide +kernel
theorem e_73_22 {d : Nat} {h : mM} {L : mLs} {st : List Value} {a : Nat} : ev d 73 22 L (.ref a :: st) h = if mK h a = 9 then oB (mR h a 2) (fun b => ev d 73 25 L (.ref b :: st) h) else none := ev_gR d_73_22 (by decide +kernel) (by decide +kernel)
theorem d_73_25 : decode (cd 73) 25 = .ok (.getfield 293, 3) := by rw [cd_73]; decide +kernel
theorem e_73_25 {d : Nat} {h : mM} {L : mLs} {st : List Value} {a : Nat} : ev d 73 25 L (.ref a :: st) h = if mK h a = 1 then ev d 73 28 L (.int (mI h a 3) :: st) h else none := ev_gI d_73_25 (by decide +kernel) (by decide +kernel)
theorem d_73_28 : decode (cd 73) 28 = .ok (.iadd, 1) := by rw [cd_73]; decide +kernel
theorem e_73_28 {d : Nat} {h : mM} {L : mLs} {st : List Value} {x y : Int32} : ev d 73 28 L (.int y :: .int x :: st) h = ev d 73 29 L (.int (x + y) :: st) h := ev_of d_73_28 rfl
theorem d_73_29 : decode (cd 73) 29 = .ok (.putfield 67, 3) := by rw [cd_73]; decide +kernel
theorem e_73_29 {d : Nat} {h : mM} {L : mLs} {st : List Value} {a : Nat} {v : Int32} : ev d 73 29 L (.int v :: .ref a :: st) h = if mK h a = 9 then ev d 73 32 L st (wI h a 12 v) else none := ev_pI d_73_29 (by decide +kernel) (by decide +kernel) (by decide +kernel)
theorem d_73_32 : decode (cd 73) 32 = .ok (.aload_n 0, 1) := by rw [cd_73]; decide +kernel
theorem e_73_32 {d : Nat} {h : mM} {T : mLs} {x : Nat} {st : List Value} : ev d 73 32 ( some (.ref x) :: T) st h = ev d 73 33 ( some (.ref x) :: T) (.ref x :: st) h := ev_of d_73_32 rfl
theorem d_73_33 : decode (cd 73) 33 = .ok (.dup, 1) := by rw [cd_73]; decide +kernel
theorem e_73_33r {d : Nat} {h : mM} {L : mLs} {st : List Value} {a : Nat} : ev d 73 33 L (.ref a :: st) h = ev d 73 34 L (.ref a :: .ref a :: st) h := ev_of d_73_33 rfl
theorem e_73_33i {d : Nat} {h : mM} {L : mLs} {st : List Value} {x : Int32} : ev d 73 33 L (.int x :: st) h = ev d 73 34 L (.int x :: .int x :: st) h := ev_of d_73_33 rfl
theorem d_73_34 : decode (cd 73) 34 = .ok (.getfield 70, 3) := by rw [cd_73]; decide +kernel
theorem e_73_34 {d : Nat} {h : mM} {L : mLs} {st : List Value} {a : Nat} : ev d 73 34 L (.ref a :: st) h = if mK h a = 9 then ev d 73 37 L (.int (mI h a 13) :: st) h else none := ev_gI d_73_34 (by decide +kernel) (by decide +kernel)
theorem d_73_37 : decode (cd 73) 37 = .ok (.aload_n 0, 1) := by rw [cd_73]; decide +kernel
theorem e_73_37 {d : Nat} {h : mM} {T : mLs} {x : Nat} {st : List Value} : ev d 73 37 ( some (.ref x) :: T) st h = ev d 73 38 ( some (.ref x) :: T) (.ref x :: st) h := ev_of d_73_37 rfl
theorem d_73_38 : decode (cd 73) 38 = .ok (.getfield 28, 3) := by rw [cd_73]; decide +kernel
theorem e_73_38 {d : Nat} {h : mM} {L : mLs} {st : List Value} {a : Nat} : ev d 73 38 L (.ref a :: st) h = if mK h a = 9 then oB (mR h a 2) (fun b => ev d 73 41 L (.ref b :: st) h) else none := ev_gR d_73_38 (by decide +kernel) (by decide +kernel)
theorem d_73_41 : decode (cd 73) 41 = .ok (.getfield 294, 3) := by rw [cd_73]; decide +kernel
theorem e_73_41 {d : Nat} {h : mM} {L : mLs} {st : List Value} {a : Nat} : ev d 73 41 L (.ref a :: st) h = if mK h a = 1 then ev d 73 44 L (.int (mI h a 4) :: st) h else none := ev_gI d_73_41 (by decide +kernel) (by decide +kernel)
theorem d_73_44 : decode (cd 73) 44 = .ok (.iadd, 1) := by rw [cd_73]; decide +kernel
theorem e_73_44 {d : Nat} {h : mM} {L : mLs} {st : List Value} {x y : Int32} : ev d 73 44 L (.int y :: .int x :: st) h = ev d 73 45 L (.int (x + y) :: st) h := ev_of d_73_44 rfl
theorem d_73_45 : decode (cd 73) 45 = .ok (.putfield 70, 3) := by rw [cd_73]; decide +kernel
theorem e_73_45 {d : Nat} {h : mM} {L : mLs} {st : List Value} {a : Nat} {v : Int32} : ev d 73 45 L (.int v :: .ref a :: st) h = if mK h a = 9 then ev d 73 48 L st (wI h a 13 v) else none := ev_pI d_73_45 (by decide +kernel) (by decide +kernel) (by decide +kernel)
theorem d_73_48 : decode (cd 73) 48 = .ok (.aload_n 0, 1) := by rw [cd_73]; decide +kernel
theorem e_73_48 {d : Nat} {h : mM} {T : mLs} {x : Nat} {st : List Value} : ev d 73 48 ( some (.ref x) :: T) st h = ev d 73 49 ( some (.ref x) :: T) (.ref x :: st) h := ev_of d_73_48 rfl
theorem d_73_49 : decode (cd 73) 49 = .ok (.dup, 1) := by rw [cd_73]; decide +kernel
theorem e_73_49r {d : Nat} {h : mM} {L : mLs} {st : List Value} {a : Nat} : ev d 73 49 L (.ref a :: st) h = ev d 73 50 L (.ref a :: .ref a :: st) h := ev_of d_73_49 rfl
theorem e_73_49i {d : Nat} {h : mM} {L : mLs} {st : List Value} {x : Int32} : ev d 73 49 L (.int x :: st) h = ev d 73 50 L (.int x :: .int x :: st) h := ev_of d_73_49 rfl
theorem d_73_50 : decode (cd 73) 50 = .ok (.getfield 73, 3) := by rw [cd_73]; decide +kernel
theorem e_73_50 {d : Nat} {h : mM} {L : mLs} {st : List Value} {a : Nat} : ev d 73 50 L (.ref a :: st) h = if mK h a = 9 then ev d 73 53 L (.int (mI h a 14) :: st) h else none := ev_gI d_73_50 (by decide +kernel) (by decide +kernel)
theorem d_73_53 : decode (cd 73) 53 = .ok (.aload_n 0, 1) := by rw [cd_73]; decide +kernel
theorem e_73_53 {d : Nat} {h : mM} {T : mLs} {x : Nat} {st : List Value} : ev d 73 53 ( some (.ref x) :: T) st h = ev d 73 54 ( some (.ref x) :: T) (.ref x :: st) h := ev_of d_73_53 rfl
theorem d_73_54 : decode (cd 73) 54 = .ok (.getfield 28, 3) := by rw [cd_73]; decide +kernel
theorem e_73_54 {d : Nat} {h : mM} {L : mLs} {st : List Value} {a : Nat} : ev d 73 54 L (.ref a :: st) h = if mK h a = 9 then oB (mR h a 2) (fun b => ev d 73 57 L (.ref b :: st) h) else none := ev_gR d_73_54 (by decide +kernel) (by decide +kernel)
theorem d_73_57 : decode (cd 73) 57 = .ok (.getfield 295, 3) := by rw [cd_73]; decide +kernel
theorem e_73_57 {d : Nat} {h : mM} {L : mLs} {st : List Value} {a : Nat} : ev d 73 57 L (.ref a :: st) h = if mK h a = 1 then ev d 73 60 L (.int (mI h a 5) :: st) h else none := ev_gI d_73_57 (by decide +kernel) (by decide +kernel)
theorem d_73_60 : decode (cd 73) 60 = .ok (.iadd, 1) := by rw [cd_73]; decide +kernel
theorem e_73_60 {d : Nat} {h : mM} {L : mLs} {st : List Value} {x y : Int32} : ev d 73 60 L (.int y :: .int x :: st) h = ev d 73 61 L (.int (x + y) :: st) h := ev_of d_73_60 rfl
theorem d_73_61 : decode (cd 73) 61 = .ok (.putfield 73, 3) := by rw [cd_73]; decide +kernel
theorem e_73_61 {d : Nat} {h : mM} {L : mLs} {st : List Value} {a : Nat} {v : Int32} : ev d 73 61 L (.int v :: .ref a :: st) h = if mK h a = 9 then ev d 73 64 L st (wI h a 14 v) else none := ev_pI d_73_61 (by decide +kernel) (by decide +kernel) (by decide +kernel)
theorem d_73_64 : decode (cd 73) 64 = .ok (.return_, 1) := by rw [cd_73]; decide +kernel
theorem e_73_64 {d : Nat} {h : mM} {L : mLs} : ev d 73 64 L [] h = some (none, h) := ev_rv d_73_64 (by decide +kernel)
-- 74: TideMill.handOutGround
theorem cd_74 : cd 74 = prog_1_method_38_code := rfl
theorem d_74_0 : decode (cd 74) 0 = .ok (.iconst 0, 1) := by rw [cd_74]; decide +kernel
theorem e_74_0 {d : Nat} {h : mM} {L : mLs} {st : List Value} : ev d 74 0 L st h = ev d 74 1 L (.int 0 :: st) h := ev_of d_74_0 rfl
theorem d_74_1 : decode (cd 74) 1 = .ok (.istore_n 1, 1) := by rw [cd_74]; decide +kernel
theorem e_74_1 {d : Nat} {h : mM} {o0 o1 : Option Value} {T : mLs} {x : Int32} {st : List Value} (hl : mLong o0 = false) : ev d 74 1 (o0 :: o1 :: T) (.int x :: st) h = ev d 74 2 (o0 :: some (.int x) :: T) st h := ev_st_in d_74_1 (by decide +kernel) (mS1_s (j := 0) hl)
theorem d_74_2 : decode (cd 74) 2 = .ok (.iconst 0, 1) := by rw [cd_74]; decide +kernel
theorem e_74_2 {d : Nat} {h : mM} {L : mLs} {st : List Value} : ev d 74 2 L st h = ev d 74 3 L (.int 0 :: st) h := ev_of d_74_2 rfl
theorem d_74_3 : decode (cd 74) 3 = .ok (.istore_n 2, 1) := by rw [cd_74]; decide +kernel
theorem e_74_3 {d : Nat} {h : mM} {o0 o1 o2 : Option Value} {T : mLs} {x : Int32} {st : List Value} (hl : mLong o1 = false) : ev d 74 3 (o0 :: o1 :: o2 :: T) (.int x :: st) h = ev d 74 4 (o0 :: o1 :: some (.int x) :: T) st h := ev_st_in d_74_3 (by decide +kernel) (mS1_s (j := 1) hl)
theorem d_74_4 : decode (cd 74) 4 = .ok (.iload_n 2, 1) := by rw [cd_74]; decide +kernel
theorem e_74_4 {d : Nat} {h : mM} {o0 o1 : Option Value} {T : mLs} {x : Int32} {st : List Value} : ev d 74 4 (o0 :: o1 :: some (.int x) :: T) st h = ev d 74 5 (o0 :: o1 :: some (.int x) :: T) (.int x :: st) h := ev_of d_74_4 rfl
theorem d_74_5 : decode (cd 74) 5 = .ok (.aload_n 0, 1) := by rw [cd_74]; decide +kernel
theorem e_74_5 {d : Nat} {h : mM} {T : mLs} {x : Nat} {st : List Value} : ev d 74 5 ( some (.ref x) :: T) st h = ev d 74 6 ( some (.ref x) :: T) (.ref x :: st) h := ev_of d_74_5 rfl
theorem d_74_6 : decode (cd 74) 6 = .ok (.getfield 19, 3) := by rw [cd_74]; decide +kernel
theorem e_74_6 {d : Nat} {h : mM} {L : mLs} {st : List Value} {a : Nat} : ev d 74 6 L (.ref a :: st) h = if mK h a = 9 then oB (mR h a 1) (fun b => ev d 74 9 L (.ref b :: st) h) else none := ev_gR d_74_6 (by decide +kernel) (by decide +kernel)
theorem d_74_9 : decode (cd 74) 9 = .ok (.getfield 157, 3) := by rw [cd_74]; decide +kernel
theorem e_74_9 {d : Nat} {h : mM} {L : mLs} {st : List Value} {a : Nat} : ev d 74 9 L (.ref a :: st) h = if mK h a = 8 then ev d 74 12 L (.int (mI h a 6) :: st) h else none := ev_gI d_74_9 (by decide +kernel) (by decide +kernel)
theorem d_74_12 : decode (cd 74) 12 = .ok (.if_icmp .ge 76, 3) := by rw [cd_74]; decide +kernel
theorem e_74_12 {d : Nat} {h : mM} {L : mLs} {st : List Value} {x y : Int32} : ev d 74 12 L (.int y :: .int x :: st) h = if y ≤ x then ev d 74 88 L st h else ev d 74 15 L st h := ev_ic (y ≤ x) inferInstance rfl d_74_12 (by decide)
theorem d_74_15 : decode (cd 74) 15 = .ok (.aload_n 0, 1) := by rw [cd_74]; decide +kernel
theorem e_74_15 {d : Nat} {h : mM} {T : mLs} {x : Nat} {st : List Value} : ev d 74 15 ( some (.ref x) :: T) st h = ev d 74 16 ( some (.ref x) :: T) (.ref x :: st) h := ev_of d_74_15 rfl
theorem d_74_16 : decode (cd 74) 16 = .ok (.getfield 19, 3) := by rw [cd_74]; decide +kernel
theorem e_74_16 {d : Nat} {h : mM} {L : mLs} {st : List Value} {a : Nat} : ev d 74 16 L (.ref a :: st) h = if mK h a = 9 then oB (mR h a 1) (fun b => ev d 74 19 L (.ref b :: st) h) else none := ev_gR d_74_16 (by decide +kernel) (by decide +kernel)
theorem d_74_19 : decode (cd 74) 19 = .ok (.getfield 160, 3) := by rw [cd_74]; decide +kernel
theorem e_74_19 {d : Nat} {h : mM} {L : mLs} {st : List Value} {a : Nat} : ev d 74 19 L (.ref a :: st) h = if mK h a = 8 then oB (mR h a 2) (fun b => ev d 74 22 L (.ref b :: st) h) else none := ev_gR d_74_19 (by decide +kernel) (by decide +kernel)
theorem d_74_22 : decode (cd 74) 22 = .ok (.iload_n 2, 1) := by rw [cd_74]; decide +kernel
theorem e_74_22 {d : Nat} {h : mM} {o0 o1 : Option Value} {T : mLs} {x : Int32} {st : List Value} : ev d 74 22 (o0 :: o1 :: some (.int x) :: T) st h = ev d 74 23 (o0 :: o1 :: some (.int x) :: T) (.int x :: st) h := ev_of d_74_22 rfl
theorem d_74_23 : decode (cd 74) 23 = .ok (.aaload, 1) := by rw [cd_74]; decide +kernel
theorem e_74_23 {d : Nat} {h : mM} {L : mLs} {st : List Value} {a : Nat} {i : Int32} : ev d 74 23 L (.int i :: .ref a :: st) h = if (12 < mK h a ∧ mK h a < 19) ∧ ixOK i (mL h a) = true then oB (mR h a i.toNatClampNeg) (fun b => ev d 74 24 L (.ref b :: st) h) else none := ev_aa d_74_23
theorem d_74_24 : decode (cd 74) 24 = .ok (.astore_n 3, 1) := by rw [cd_74]; decide +kernel
theorem e_74_24 {d : Nat} {h : mM} {o0 o1 o2 o3 : Option Value} {T : mLs} {x : Nat} {st : List Value} (hl : mLong o2 = false) : ev d 74 24 (o0 :: o1 :: o2 :: o3 :: T) (.ref x :: st) h = ev d 74 25 (o0 :: o1 :: o2 :: some (.ref x) :: T) st h := ev_st_rn d_74_24 (by decide +kernel) (mS1_s (j := 2) hl)
theorem d_74_25 : decode (cd 74) 25 = .ok (.aload_n 3, 1) := by rw [cd_74]; decide +kernel
theorem e_74_25 {d : Nat} {h : mM} {o0 o1 o2 : Option Value} {T : mLs} {x : Nat} {st : List Value} : ev d 74 25 (o0 :: o1 :: o2 :: some (.ref x) :: T) st h = ev d 74 26 (o0 :: o1 :: o2 :: some (.ref x) :: T) (.ref x :: st) h := ev_of d_74_25 rfl
theorem d_74_26 : decode (cd 74) 26 = .ok (.getfield 164, 3) := by rw [cd_74]; decide +kernel
theorem e_74_26 {d : Nat} {h : mM} {L : mLs} {st : List Value} {a : Nat} : ev d 74 26 L (.ref a :: st) h = if mK h a = 2 then ev d 74 29 L (.int (mI h a 2) :: st) h else none := ev_gI d_74_26 (by decide +kernel) (by decide +kernel)
theorem d_74_29 : decode (cd 74) 29 = .ok (.iconst 2, 1) := by rw [cd_74]; decide +kernel
theorem e_74_29 {d : Nat} {h : mM} {L : mLs} {st : List Value} : ev d 74 29 L st h = ev d 74 30 L (.int 2 :: st) h := ev_of d_74_29 rfl
theorem d_74_30 : decode (cd 74) 30 = .ok (.if_icmp .ne 23, 3) := by rw [cd_74]; decide +kernel
theorem e_74_30 {d : Nat} {h : mM} {L : mLs} {st : List Value} {x y : Int32} : ev d 74 30 L (.int y :: .int x :: st) h = if ¬ x = y then ev d 74 53 L st h else ev d 74 33 L st h := ev_ic (¬ x = y) inferInstance rfl d_74_30 (by decide)
theorem d_74_33 : decode (cd 74) 33 = .ok (.aload_n 3, 1) := by rw [cd_74]; decide +kernel
theorem e_74_33 {d : Nat} {h : mM} {o0 o1 o2 : Option Value} {T : mLs} {x : Nat} {st : List Value} : ev d 74 33 (o0 :: o1 :: o2 :: some (.ref x) :: T) st h = ev d 74 34 (o0 :: o1 :: o2 :: some (.ref x) :: T) (.ref x :: st) h := ev_of d_74_33 rfl
theorem d_74_34 : decode (cd 74) 34 = .ok (.dup, 1) := by rw [cd_74]; decide +kernel
theorem e_74_34r {d : Nat} {h : mM} {L : mLs} {st : List Value} {a : Nat} : ev d 74 34 L (.ref a :: st) h = ev d 74 35 L (.ref a :: .ref a :: st) h := ev_of d_74_34 rfl
theorem e_74_34i {d : Nat} {h : mM} {L : mLs} {st : List Value} {x : Int32} : ev d 74 34 L (.int x :: st) h = ev d 74 35 L (.int x :: .int x :: st) h := ev_of d_74_34 rfl
theorem d_74_35 : decode (cd 74) 35 = .ok (.getfield 253, 3) := by rw [cd_74]; decide +kernel
theorem e_74_35 {d : Nat} {h : mM} {L : mLs} {st : List Value} {a : Nat} : ev d 74 35 L (.ref a :: st) h = if mK h a = 2 then ev d 74 38 L (.int (mI h a 14) :: st) h else none := ev_gI d_74_35 (by decide +kernel) (by decide +kernel)
theorem d_74_38 : decode (cd 74) 38 = .ok (.aload_n 0, 1) := by rw [cd_74]; decide +kernel
theorem e_74_38 {d : Nat} {h : mM} {T : mLs} {x : Nat} {st : List Value} : ev d 74 38 ( some (.ref x) :: T) st h = ev d 74 39 ( some (.ref x) :: T) (.ref x :: st) h := ev_of d_74_38 rfl
theorem d_74_39 : decode (cd 74) 39 = .ok (.getfield 28, 3) := by rw [cd_74]; decide +kernel
theorem e_74_39 {d : Nat} {h : mM} {L : mLs} {st : List Value} {a : Nat} : ev d 74 39 L (.ref a :: st) h = if mK h a = 9 then oB (mR h a 2) (fun b => ev d 74 42 L (.ref b :: st) h) else none := ev_gR d_74_39 (by decide +kernel) (by decide +kernel)
theorem d_74_42 : decode (cd 74) 42 = .ok (.iload_n 2, 1) := by rw [cd_74]; decide +kernel
theorem e_74_42 {d : Nat} {h : mM} {o0 o1 : Option Value} {T : mLs} {x : Int32} {st : List Value} : ev d 74 42 (o0 :: o1 :: some (.int x) :: T) st h = ev d 74 43 (o0 :: o1 :: some (.int x) :: T) (.int x :: st) h := ev_of d_74_42 rfl
theorem d_74_43 : decode (cd 74) 43 = .ok (.invokevirtual 296, 3) := by rw [cd_74]; decide +kernel
theorem e_74_43 {d : Nat} {h : mM} {L : mLs} {st : List Value} {a : Nat} {x0 : Int32} (hc : mCat st ≤ 8) : ev (d + 1) 74 43 L (.int x0 :: .ref a :: st) h = if mK h a = 1 then cV (ev d 10 0 [some (.ref a), some (.int x0), none, none] [] h) (fun v h1 => ev (d + 1) 74 46 L (v ++ st) h1) else none := ev_cv (mj := 10) (as := [.int x0]) (rest := st) d_74_43 (by decide +kernel) rfl rfl (by show _ ≤ List.length _; simp only [List.length_cons]; have : na 10 = 1 := rfl; omega) rfl (Nat.le_of_ble_eq_true rfl) hc
theorem d_74_46 : decode (cd 74) 46 = .ok (.iadd, 1) := by rw [cd_74]; decide +kernel
theorem e_74_46 {d : Nat} {h : mM} {L : mLs} {st : List Value} {x y : Int32} : ev d 74 46 L (.int y :: .int x :: st) h = ev d 74 47 L (.int (x + y) :: st) h := ev_of d_74_46 rfl
theorem d_74_47 : decode (cd 74) 47 = .ok (.putfield 253, 3) := by rw [cd_74]; decide +kernel
theorem e_74_47 {d : Nat} {h : mM} {L : mLs} {st : List Value} {a : Nat} {v : Int32} : ev d 74 47 L (.int v :: .ref a :: st) h = if mK h a = 2 then ev d 74 50 L st (wI h a 14 v) else none := ev_pI d_74_47 (by decide +kernel) (by decide +kernel) (by decide +kernel)
theorem d_74_50 : decode (cd 74) 50 = .ok (.goto 32, 3) := by rw [cd_74]; decide +kernel
theorem e_74_50 {d : Nat} {h : mM} {L : mLs} {st : List Value} : ev d 74 50 L st h = ev d 74 82 L st h := ev_go d_74_50 (by decide)
theorem d_74_53 : decode (cd 74) 53 = .ok (.aload_n 0, 1) := by rw [cd_74]; decide +kernel
theorem e_74_53 {d : Nat} {h : mM} {T : mLs} {x : Nat} {st : List Value} : ev d 74 53 ( some (.ref x) :: T) st h = ev d 74 54 ( some (.ref x) :: T) (.ref x :: st) h := ev_of d_74_53 rfl
theorem d_74_54 : decode (cd 74) 54 = .ok (.getfield 28, 3) := by rw [cd_74]; decide +kernel
theorem e_74_54 {d : Nat} {h : mM} {L : mLs} {st : List Value} {a : Nat} : ev d 74 54 L (.ref a :: st) h = if mK h a = 9 then oB (mR h a 2) (fun b => ev d 74 57 L (.ref b :: st) h) else none := ev_gR d_74_54 (by decide +kernel) (by decide +kernel)
theorem d_74_57 : decode (cd 74) 57 = .ok (.iload_n 2, 1) := by rw [cd_74]; decide +kernel
theorem e_74_57 {d : Nat} {h : mM} {o0 o1 : Option Value} {T : mLs} {x : Int32} {st : List Value} : ev d 74 57 (o0 :: o1 :: some (.int x) :: T) st h = ev d 74 58 (o0 :: o1 :: some (.int x) :: T) (.int x :: st) h := ev_of d_74_57 rfl
theorem d_74_58 : decode (cd 74) 58 = .ok (.invokevirtual 299, 3) := by rw [cd_74]; decide +kernel
theorem e_74_58 {d : Nat} {h : mM} {L : mLs} {st : List Value} {a : Nat} {x0 : Int32} (hc : mCat st ≤ 8) : ev (d + 1) 74 58 L (.int x0 :: .ref a :: st) h = if mK h a = 1 then cV (ev d 9 0 [some (.ref a), some (.int x0), none, none] [] h) (fun v h1 => ev (d + 1) 74 61 L (v ++ st) h1) else none := ev_cv (mj := 9) (as := [.int x0]) (rest := st) d_74_58 (by decide +kernel) rfl rfl (by show _ ≤ List.length _; simp only [List.length_cons]; have : na 9 = 1 := rfl; omega) rfl (Nat.le_of_ble_eq_true rfl) hc
theorem d_74_61 : decode (cd 74) 61 = .ok (.istore 4, 2) := by rw [cd_74]; decide +kernel
theorem e_74_61 {d : Nat} {h : mM} {o0 o1 o2 o3 o4 : Option Value} {T : mLs} {x : Int32} {st : List Value} (hl : mLong o3 = false) : ev d 74 61 (o0 :: o1 :: o2 :: o3 :: o4 :: T) (.int x :: st) h = ev d 74 63 (o0 :: o1 :: o2 :: o3 :: some (.int x) :: T) st h := ev_st_i d_74_61 (by decide +kernel) (mS1_s (j := 3) hl)
theorem d_74_63 : decode (cd 74) 63 = .ok (.aload_n 3, 1) := by rw [cd_74]; decide +kernel
theorem e_74_63 {d : Nat} {h : mM} {o0 o1 o2 : Option Value} {T : mLs} {x : Nat} {st : List Value} : ev d 74 63 (o0 :: o1 :: o2 :: some (.ref x) :: T) st h = ev d 74 64 (o0 :: o1 :: o2 :: some (.ref x) :: T) (.ref x :: st) h := ev_of d_74_63 rfl
theorem d_74_64 : decode (cd 74) 64 = .ok (.iload 4, 2) := by rw [cd_74]; decide +kernel
theorem e_74_64 {d : Nat} {h : mM} {o0 o1 o2 o3 : Option Value} {T : mLs} {x : Int32} {st : List Value} : ev d 74 64 (o0 :: o1 :: o2 :: o3 :: some (.int x) :: T) st h = ev d 74 66 (o0 :: o1 :: o2 :: o3 :: some (.int x) :: T) (.int x :: st) h := ev_of d_74_64 rfl
theorem d_74_66 : decode (cd 74) 66 = .ok (.aload_n 0, 1) := by rw [cd_74]; decide +kernel
theorem e_74_66 {d : Nat} {h : mM} {T : mLs} {x : Nat} {st : List Value} : ev d 74 66 ( some (.ref x) :: T) st h = ev d 74 67 ( some (.ref x) :: T) (.ref x :: st) h := ev_of d_74_66 rfl
theorem d_74_67 : decode (cd 74) 67 = .ok (.getfield 57, 3) := by rw [cd_74]; decide +kernel
theorem e_74_67 {d : Nat} {h : mM} {L : mLs} {st : List Value} {a : Nat} : ev d 74 67 L (.ref a :: st) h = if mK h a = 9 then ev d 74 70 L (.int (mI h a 9) :: st) h else none := ev_gI d_74_67 (by decide +kernel) (by decide +kernel)
theorem d_74_70 : decode (cd 74) 70 = .ok (.aload_n 0, 1) := by rw [cd_74]; decide +kernel
theorem e_74_70 {d : Nat} {h : mM} {T : mLs} {x : Nat} {st : List Value} : ev d 74 70 ( some (.ref x) :: T) st h = ev d 74 71 ( some (.ref x) :: T) (.ref x :: st) h := ev_of d_74_70 rfl
theorem d_74_71 : decode (cd 74) 71 = .ok (.getfield 45, 3) := by rw [cd_74]; decide +kernel
theorem e_74_71 {d : Nat} {h : mM} {L : mLs} {st : List Value} {a : Nat} : ev d 74 71 L (.ref a :: st) h = if mK h a = 9 then oB (mR h a 5) (fun b => ev d 74 74 L (.ref b :: st) h) else none := ev_gR d_74_71 (by decide +kernel) (by decide +kernel)
theorem d_74_74 : decode (cd 74) 74 = .ok (.invokevirtual 302, 3) := by rw [cd_74]; decide +kernel
theorem e_74_74 {d : Nat} {h : mM} {L : mLs} {st : List Value} {a : Nat} {x0 : Int32} {x1 : Int32} {x2 : Nat} (hc : mCat st ≤ 8) : ev (d + 1) 74 74 L (.ref x2 :: .int x1 :: .int x0 :: .ref a :: st) h = if mK h a = 2 then cV (ev d 13 0 [some (.ref a), some (.int x0), some (.int x1), some (.ref x2), none, none, none, none] [] h) (fun v h1 => ev (d + 1) 74 77 L (v ++ st) h1) else none := ev_cv (mj := 13) (as := [.int x0, .int x1, .ref x2]) (rest := st) d_74_74 (by decide +kernel) rfl rfl (by show _ ≤ List.length _; simp only [List.length_cons]; have : na 13 = 3 := rfl; omega) rfl (Nat.le_of_ble_eq_true rfl) hc
theorem d_74_77 : decode (cd 74) 77 = .ok (.iload_n 1, 1) := by rw [cd_74]; decide +kernel
theorem e_74_77 {d : Nat} {h : mM} {o0 : Option Value} {T : mLs} {x : Int32} {st : List Value} : ev d 74 77 (o0 :: some (.int x) :: T) st h = ev d 74 78 (o0 :: some (.int x) :: T) (.int x :: st) h := ev_of d_74_77 rfl
theorem d_74_78 : decode (cd 74) 78 = .ok (.iload 4, 2) := by rw [cd_74]; decide +kernel
theorem e_74_78 {d : Nat} {h : mM} {o0 o1 o2 o3 : Option Value} {T : mLs} {x : Int32} {st : List Value} : ev d 74 78 (o0 :: o1 :: o2 :: o3 :: some (.int x) :: T) st h = ev d 74 80 (o0 :: o1 :: o2 :: o3 :: some (.int x) :: T) (.int x :: st) h := ev_of d_74_78 rfl
theorem d_74_80 : decode (cd 74) 80 = .ok (.iadd, 1) := by rw [cd_74]; decide +kernel
theorem e_74_80 {d : Nat} {h : mM} {L : mLs} {st : List Value} {x y : Int32} : ev d 74 80 L (.int y :: .int x :: st) h = ev d 74 81 L (.int (x + y) :: st) h := ev_of d_74_80 rfl
theorem d_74_81 : decode (cd 74) 81 = .ok (.istore_n 1, 1) := by rw [cd_74]; decide +kernel
theorem e_74_81 {d : Nat} {h : mM} {o0 o1 : Option Value} {T : mLs} {x : Int32} {st : List Value} (hl : mLong o0 = false) : ev d 74 81 (o0 :: o1 :: T) (.int x :: st) h = ev d 74 82 (o0 :: some (.int x) :: T) st h := ev_st_in d_74_81 (by decide +kernel) (mS1_s (j := 0) hl)
theorem d_74_82 : decode (cd 74) 82 = .ok (.iinc 2 1, 3) := by rw [cd_74]; decide +kernel
theorem e_74_82 {d : Nat} {h : mM} {o0 o1 : Option Value} {T : mLs} {x : Int32} {st : List Value} (hl : mLong o1 = false) : ev d 74 82 (o0 :: o1 :: some (.int x) :: T) st h = ev d 74 85 (o0 :: o1 :: some (.int (x + 1)) :: T) st h := ev_inc d_74_82 (by decide +kernel) rfl rfl (mS1_s (j := 1) hl)
theorem d_74_85 : decode (cd 74) 85 = .ok (.goto (-81), 3) := by rw [cd_74]; decide +kernel
theorem e_74_85 {d : Nat} {h : mM} {L : mLs} {st : List Value} : ev d 74 85 L st h = ev d 74 4 L st h := ev_go d_74_85 (by decide)
theorem d_74_88 : decode (cd 74) 88 = .ok (.iload_n 1, 1) := by rw [cd_74]; decide +kernel
theorem e_74_88 {d : Nat} {h : mM} {o0 : Option Value} {T : mLs} {x : Int32} {st : List Value} : ev d 74 88 (o0 :: some (.int x) :: T) st h = ev d 74 89 (o0 :: some (.int x) :: T) (.int x :: st) h := ev_of d_74_88 rfl
theorem d_74_89 : decode (cd 74) 89 = .ok (.ireturn, 1) := by rw [cd_74]; decide +kernel
theorem e_74_89 {d : Nat} {h : mM} {L : mLs} {v : Int32} : ev d 74 89 L [.int v] h = some (some (.int v), h) := ev_ri d_74_89 (by decide +kernel)
-- 75: TideMill.startLater
theorem cd_75 : cd 75 = prog_1_method_39_code := rfl
theorem d_75_0 : decode (cd 75) 0 = .ok (.aload_n 0, 1) := by rw [cd_75]; decide +kernel
theorem e_75_0 {d : Nat} {h : mM} {T : mLs} {x : Nat} {st : List Value} : ev d 75 0 ( some (.ref x) :: T) st h = ev d 75 1 ( some (.ref x) :: T) (.ref x :: st) h := ev_of d_75_0 rfl
theorem d_75_1 : decode (cd 75) 1 = .ok (.getfield 41, 3) := by rw [cd_75]; decide +kernel
theorem e_75_1 {d : Nat} {h : mM} {L : mLs} {st : List Value} {a : Nat} : ev d 75 1 L (.ref a :: st) h = if mK h a = 9 then oB (mR h a 4) (fun b => ev d 75 4 L (.ref b :: st) h) else none := ev_gR d_75_1 (by decide +kernel) (by decide +kernel)
theorem d_75_4 : decode (cd 75) 4 = .ok (.iconst 0, 1) := by rw [cd_75]; decide +kernel
theorem e_75_4 {d : Nat} {h : mM} {L : mLs} {st : List Value} : ev d 75 4 L st h = ev d 75 5 L (.int 0 :: st) h := ev_of d_75_4 rfl
theorem d_75_5 : decode (cd 75) 5 = .ok (.aload_n 0, 1) := by rw [cd_75]; decide +kernel
theorem e_75_5 {d : Nat} {h : mM} {T : mLs} {x : Nat} {st : List Value} : ev d 75 5 ( some (.ref x) :: T) st h = ev d 75 6 ( some (.ref x) :: T) (.ref x :: st) h := ev_of d_75_5 rfl
theorem d_75_6 : decode (cd 75) 6 = .ok (.getfield 54, 3) := by rw [cd_75]; decide +kernel
theorem e_75_6 {d : Nat} {h : mM} {L : mLs} {st : List Value} {a : Nat} : ev d 75 6 L (.ref a :: st) h = if mK h a = 9 then oB (mR h a 8) (fun b => ev d 75 9 L (.ref b :: st) h) else none := ev_gR d_75_6 (by decide +kernel) (by decide +kernel)
theorem d_75_9 : decode (cd 75) 9 = .ok (.iconst 0, 1) := by rw [cd_75]; decide +kernel
theorem e_75_9 {d : Nat} {h : mM} {L : mLs} {st : List Value} : ev d 75 9 L st h = ev d 75 10 L (.int 0 :: st) h := ev_of d_75_9 rfl
theorem d_75_10 : decode (cd 75) 10 = .ok (.iconst 4, 1) := by rw [cd_75]; decide +kernel
theorem e_75_10 {d : Nat} {h : mM} {L : mLs} {st : List Value} : ev d 75 10 L st h = ev d 75 11 L (.int 4 :: st) h := ev_of d_75_10 rfl
theorem d_75_11 : decode (cd 75) 11 = .ok (.invokestatic 306, 3) := by rw [cd_75]; decide +kernel
theorem e_75_11 {d : Nat} {h : mM} {L : mLs} {st : List Value} {a b : Nat} {n dp sp : Int32} (hc : mCat st ≤ 8) : ev d 75 11 L (.int n :: .int dp :: .ref b :: .int sp :: .ref a :: st) h = if mK h a = 11 ∧ mK h b = 11 ∧ ¬ sp < 0 ∧ ¬ dp < 0 ∧ ¬ n < 0 ∧ sp.toNatClampNeg + n.toNatClampNeg ≤ mL h a ∧ dp.toNatClampNeg + n.toNatClampNeg ≤ mL h b then ev d 75 14 L st (wC h a b sp.toNatClampNeg dp.toNatClampNeg n.toNatClampNeg) else none := ev_cpy (mj := 0) d_75_11 (by decide +kernel) hc
theorem d_75_14 : decode (cd 75) 14 = .ok (.return_, 1) := by rw [cd_75]; decide +kernel
theorem e_75_14 {d : Nat} {h : mM} {L : mLs} : ev d 75 14 L [] h = some (none, h) := ev_rv d_75_14 (by decide +kernel)
-- 76: TideMill.searchFrom
theorem cd_76 : cd 76 = prog_1_method_40_code := rfl
theorem d_76_0 : decode (cd 76) 0 = .ok (.iload_n 1, 1) := by rw [cd_76]; decide +kernel
theorem e_76_0 {d : Nat} {h : mM} {o0 : Option Value} {T : mLs} {x : Int32} {st : List Value} : ev d 76 0 (o0 :: some (.int x) :: T) st h = ev d 76 1 (o0 :: some (.int x) :: T) (.int x :: st) h := ev_of d_76_0 rfl
theorem d_76_1 : decode (cd 76) 1 = .ok (.aload_n 0, 1) := by rw [cd_76]; decide +kernel
theorem e_76_1 {d : Nat} {h : mM} {T : mLs} {x : Nat} {st : List Value} : ev d 76 1 ( some (.ref x) :: T) st h = ev d 76 2 ( some (.ref x) :: T) (.ref x :: st) h := ev_of d_76_1 rfl
theorem d_76_2 : decode (cd 76) 2 = .ok (.getfield 312, 3) := by rw [cd_76]; decide +kernel
theorem e_76_2 {d : Nat} {h : mM} {L : mLs} {st : List Value} {a : Nat} : ev d 76 2 L (.ref a :: st) h = if mK h a = 5 then ev d 76 5 L (.int (mI h a 4) :: st) h else none := ev_gI d_76_2 (by decide +kernel) (by decide +kernel)
theorem d_76_5 : decode (cd 76) 5 = .ok (.if_icmp .ge 9, 3) := by rw [cd_76]; decide +kernel
theorem e_76_5 {d : Nat} {h : mM} {L : mLs} {st : List Value} {x y : Int32} : ev d 76 5 L (.int y :: .int x :: st) h = if y ≤ x then ev d 76 14 L st h else ev d 76 8 L st h := ev_ic (y ≤ x) inferInstance rfl d_76_5 (by decide)
theorem d_76_8 : decode (cd 76) 8 = .ok (.iload_n 1, 1) := by rw [cd_76]; decide +kernel
theorem e_76_8 {d : Nat} {h : mM} {o0 : Option Value} {T : mLs} {x : Int32} {st : List Value} : ev d 76 8 (o0 :: some (.int x) :: T) st h = ev d 76 9 (o0 :: some (.int x) :: T) (.int x :: st) h := ev_of d_76_8 rfl
theorem d_76_9 : decode (cd 76) 9 = .ok (.bipush 8, 2) := by rw [cd_76]; decide +kernel
theorem e_76_9 {d : Nat} {h : mM} {L : mLs} {st : List Value} : ev d 76 9 L st h = ev d 76 11 L (.int 8 :: st) h := ev_of d_76_9 rfl
theorem d_76_11 : decode (cd 76) 11 = .ok (.if_icmp .lt 10, 3) := by rw [cd_76]; decide +kernel
theorem e_76_11 {d : Nat} {h : mM} {L : mLs} {st : List Value} {x y : Int32} : ev d 76 11 L (.int y :: .int x :: st) h = if x < y then ev d 76 21 L st h else ev d 76 14 L st h := ev_ic (x < y) inferInstance rfl d_76_11 (by decide)
theorem d_76_14 : decode (cd 76) 14 = .ok (.aload_n 0, 1) := by rw [cd_76]; decide +kernel
theorem e_76_14 {d : Nat} {h : mM} {T : mLs} {x : Nat} {st : List Value} : ev d 76 14 ( some (.ref x) :: T) st h = ev d 76 15 ( some (.ref x) :: T) (.ref x :: st) h := ev_of d_76_14 rfl
theorem d_76_15 : decode (cd 76) 15 = .ok (.iload_n 2, 1) := by rw [cd_76]; decide +kernel
theorem e_76_15 {d : Nat} {h : mM} {o0 o1 : Option Value} {T : mLs} {x : Int32} {st : List Value} : ev d 76 15 (o0 :: o1 :: some (.int x) :: T) st h = ev d 76 16 (o0 :: o1 :: some (.int x) :: T) (.int x :: st) h := ev_of d_76_15 rfl
theorem d_76_16 : decode (cd 76) 16 = .ok (.iload_n 3, 1) := by rw [cd_76]; decide +kernel
theorem e_76_16 {d : Nat} {h : mM} {o0 o1 o2 : Option Value} {T : mLs} {x : Int32} {st : List Value} : ev d 76 16 (o0 :: o1 :: o2 :: some (.int x) :: T) st h = ev d 76 17 (o0 :: o1 :: o2 :: some (.int x) :: T) (.int x :: st) h := ev_of d_76_16 rfl
theorem d_76_17 : decode (cd 76) 17 = .ok (.invokevirtual 315, 3) := by rw [cd_76]; decide +kernel
theorem e_76_17 {d : Nat} {h : mM} {L : mLs} {st : List Value} {a : Nat} {x0 : Int32} {x1 : Int32} (hc : mCat st ≤ 8) : ev (d + 1) 76 17 L (.int x1 :: .int x0 :: .ref a :: st) h = if mK h a = 5 then cV (ev d 26 0 [some (.ref a), some (.int x0), some (.int x1), none, none] [] h) (fun v h1 => ev (d + 1) 76 20 L (v ++ st) h1) else none := ev_cv (mj := 26) (as := [.int x0, .int x1]) (rest := st) d_76_17 (by decide +kernel) rfl rfl (by show _ ≤ List.length _; simp only [List.length_cons]; have : na 26 = 2 := rfl; omega) rfl (Nat.le_of_ble_eq_true rfl) hc
theorem d_76_20 : decode (cd 76) 20 = .ok (.return_, 1) := by rw [cd_76]; decide +kernel
theorem e_76_20 {d : Nat} {h : mM} {L : mLs} : ev d 76 20 L [] h = some (none, h) := ev_rv d_76_20 (by decide +kernel)
theorem d_76_21 : decode (cd 76) 21 = .ok (.aload_n 0, 1) := by rw [cd_76]; decide +kernel
theorem e_76_21 {d : Nat} {h : mM} {T : mLs} {x : Nat} {st : List Value} : ev d 76 21 ( some (.ref x) :: T) st h = ev d 76 22 ( some (.ref x) :: T) (.ref x :: st) h := ev_of d_76_21 rfl
theorem d_76_22 : decode (cd 76) 22 = .ok (.iload_n 1, 1) := by rw [cd_76]; decide +kernel
theorem e_76_22 {d : Nat} {h : mM} {o0 : Option Value} {T : mLs} {x : Int32} {st : List Value} : ev d 76 22 (o0 :: some (.int x) :: T) st h = ev d 76 23 (o0 :: some (.int x) :: T) (.int x :: st) h := ev_of d_76_22 rfl
theorem d_76_23 : decode (cd 76) 23 = .ok (.iconst (-1), 1) := by rw [cd_76]; decide +kernel
theorem e_76_23 {d : Nat} {h : mM} {L : mLs} {st : List Value} : ev d 76 23 L st h = ev d 76 24 L (.int (-1) :: st) h := ev_of d_76_23 rfl
theorem d_76_24 : decode (cd 76) 24 = .ok (.invokevirtual 319, 3) := by rw [cd_76]; decide +kernel
theorem e_76_24 {d : Nat} {h : mM} {L : mLs} {st : List Value} {a : Nat} {x0 : Int32} {x1 : Int32} (hc : mCat st ≤ 8) : ev (d + 1) 76 24 L (.int x1 :: .int x0 :: .ref a :: st) h = if mK h a = 5 then cV (ev d 25 0 [some (.ref a), some (.int x0), some (.int x1)] [] h) (fun v h1 => ev (d + 1) 76 27 L (v ++ st) h1) else none := ev_cv (mj := 25) (as := [.int x0, .int x1]) (rest := st) d_76_24 (by decide +kernel) rfl rfl (by show _ ≤ List.length _; simp only [List.length_cons]; have : na 25 = 2 := rfl; omega) rfl (Nat.le_of_ble_eq_true rfl) hc
theorem d_76_27 : decode (cd 76) 27 = .ok (.istore 4, 2) := by rw [cd_76]; decide +kernel
theorem e_76_27 {d : Nat} {h : mM} {o0 o1 o2 o3 o4 : Option Value} {T : mLs} {x : Int32} {st : List Value} (hl : mLong o3 = false) : ev d 76 27 (o0 :: o1 :: o2 :: o3 :: o4 :: T) (.int x :: st) h = ev d 76 29 (o0 :: o1 :: o2 :: o3 :: some (.int x) :: T) st h := ev_st_i d_76_27 (by decide +kernel) (mS1_s (j := 3) hl)
theorem d_76_29 : decode (cd 76) 29 = .ok (.iload 4, 2) := by rw [cd_76]; decide +kernel
theorem e_76_29 {d : Nat} {h : mM} {o0 o1 o2 o3 : Option Value} {T : mLs} {x : Int32} {st : List Value} : ev d 76 29 (o0 :: o1 :: o2 :: o3 :: some (.int x) :: T) st h = ev d 76 31 (o0 :: o1 :: o2 :: o3 :: some (.int x) :: T) (.int x :: st) h := ev_of d_76_29 rfl
theorem d_76_31 : decode (cd 76) 31 = .ok (.ifCond .le 29, 3) := by rw [cd_76]; decide +kernel
theorem e_76_31 {d : Nat} {h : mM} {L : mLs} {st : List Value} {x : Int32} : ev d 76 31 L (.int x :: st) h = if x ≤ 0 then ev d 76 60 L st h else ev d 76 34 L st h := ev_if (x ≤ 0) inferInstance rfl d_76_31 (by decide)
theorem d_76_34 : decode (cd 76) 34 = .ok (.aload_n 0, 1) := by rw [cd_76]; decide +kernel
theorem e_76_34 {d : Nat} {h : mM} {T : mLs} {x : Nat} {st : List Value} : ev d 76 34 ( some (.ref x) :: T) st h = ev d 76 35 ( some (.ref x) :: T) (.ref x :: st) h := ev_of d_76_34 rfl
theorem d_76_35 : decode (cd 76) 35 = .ok (.iload_n 1, 1) := by rw [cd_76]; decide +kernel
theorem e_76_35 {d : Nat} {h : mM} {o0 : Option Value} {T : mLs} {x : Int32} {st : List Value} : ev d 76 35 (o0 :: some (.int x) :: T) st h = ev d 76 36 (o0 :: some (.int x) :: T) (.int x :: st) h := ev_of d_76_35 rfl
theorem d_76_36 : decode (cd 76) 36 = .ok (.iconst 1, 1) := by rw [cd_76]; decide +kernel
theorem e_76_36 {d : Nat} {h : mM} {L : mLs} {st : List Value} : ev d 76 36 L st h = ev d 76 37 L (.int 1 :: st) h := ev_of d_76_36 rfl
theorem d_76_37 : decode (cd 76) 37 = .ok (.iadd, 1) := by rw [cd_76]; decide +kernel
theorem e_76_37 {d : Nat} {h : mM} {L : mLs} {st : List Value} {x y : Int32} : ev d 76 37 L (.int y :: .int x :: st) h = ev d 76 38 L (.int (x + y) :: st) h := ev_of d_76_37 rfl
theorem d_76_38 : decode (cd 76) 38 = .ok (.iload_n 2, 1) := by rw [cd_76]; decide +kernel
theorem e_76_38 {d : Nat} {h : mM} {o0 o1 : Option Value} {T : mLs} {x : Int32} {st : List Value} : ev d 76 38 (o0 :: o1 :: some (.int x) :: T) st h = ev d 76 39 (o0 :: o1 :: some (.int x) :: T) (.int x :: st) h := ev_of d_76_38 rfl
theorem d_76_39 : decode (cd 76) 39 = .ok (.iconst 1, 1) := by rw [cd_76]; decide +kernel
theorem e_76_39 {d : Nat} {h : mM} {L : mLs} {st : List Value} : ev d 76 39 L st h = ev d 76 40 L (.int 1 :: st) h := ev_of d_76_39 rfl
theorem d_76_40 : decode (cd 76) 40 = .ok (.iload_n 1, 1) := by rw [cd_76]; decide +kernel
theorem e_76_40 {d : Nat} {h : mM} {o0 : Option Value} {T : mLs} {x : Int32} {st : List Value} : ev d 76 40 (o0 :: some (.int x) :: T) st h = ev d 76 41 (o0 :: some (.int x) :: T) (.int x :: st) h := ev_of d_76_40 rfl
theorem d_76_41 : decode (cd 76) 41 = .ok (.ishl, 1) := by rw [cd_76]; decide +kernel
theorem e_76_41 {d : Nat} {h : mM} {L : mLs} {st : List Value} {x y : Int32} : ev d 76 41 L (.int y :: .int x :: st) h = ev d 76 42 L (.int (x <<< (y &&& 31)) :: st) h := ev_of d_76_41 rfl
theorem d_76_42 : decode (cd 76) 42 = .ok (.ior, 1) := by rw [cd_76]; decide +kernel
theorem e_76_42 {d : Nat} {h : mM} {L : mLs} {st : List Value} {x y : Int32} : ev d 76 42 L (.int y :: .int x :: st) h = ev d 76 43 L (.int (x ||| y) :: st) h := ev_of d_76_42 rfl
theorem d_76_43 : decode (cd 76) 43 = .ok (.iload_n 3, 1) := by rw [cd_76]; decide +kernel
theorem e_76_43 {d : Nat} {h : mM} {o0 o1 o2 : Option Value} {T : mLs} {x : Int32} {st : List Value} : ev d 76 43 (o0 :: o1 :: o2 :: some (.int x) :: T) st h = ev d 76 44 (o0 :: o1 :: o2 :: some (.int x) :: T) (.int x :: st) h := ev_of d_76_43 rfl
theorem d_76_44 : decode (cd 76) 44 = .ok (.iload 4, 2) := by rw [cd_76]; decide +kernel
theorem e_76_44 {d : Nat} {h : mM} {o0 o1 o2 o3 : Option Value} {T : mLs} {x : Int32} {st : List Value} : ev d 76 44 (o0 :: o1 :: o2 :: o3 :: some (.int x) :: T) st h = ev d 76 46 (o0 :: o1 :: o2 :: o3 :: some (.int x) :: T) (.int x :: st) h := ev_of d_76_44 rfl
theorem d_76_46 : decode (cd 76) 46 = .ok (.iadd, 1) := by rw [cd_76]; decide +kernel
theorem e_76_46 {d : Nat} {h : mM} {L : mLs} {st : List Value} {x y : Int32} : ev d 76 46 L (.int y :: .int x :: st) h = ev d 76 47 L (.int (x + y) :: st) h := ev_of d_76_46 rfl
theorem d_76_47 : decode (cd 76) 47 = .ok (.invokestatic 275, 3) := by rw [cd_76]; decide +kernel
theorem e_76_47 {d : Nat} {h : mM} {L : mLs} {st : List Value} {x0 : Nat} {x1 : Int32} {x2 : Int32} {x3 : Int32} (hc : mCat st ≤ 8) : ev (d + 1) 76 47 L (.int x3 :: .int x2 :: .int x1 :: .ref x0 :: st) h = cV (ev d 76 0 [some (.ref x0), some (.int x1), some (.int x2), some (.int x3), none] [] h) (fun v h1 => ev (d + 1) 76 50 L (v ++ st) h1) := ev_cs (kd := 1) (mj := 76) (as := [.ref x0, .int x1, .int x2, .int x3]) (rest := st) d_76_47 (by decide +kernel) (by decide) rfl rfl (by show _ ≤ List.length _; simp only [List.length_cons]; have : na 76 = 4 := rfl; omega) rfl (Nat.le_of_ble_eq_true rfl) hc
theorem d_76_50 : decode (cd 76) 50 = .ok (.aload_n 0, 1) := by rw [cd_76]; decide +kernel
theorem e_76_50 {d : Nat} {h : mM} {T : mLs} {x : Nat} {st : List Value} : ev d 76 50 ( some (.ref x) :: T) st h = ev d 76 51 ( some (.ref x) :: T) (.ref x :: st) h := ev_of d_76_50 rfl
theorem d_76_51 : decode (cd 76) 51 = .ok (.iload_n 1, 1) := by rw [cd_76]; decide +kernel
theorem e_76_51 {d : Nat} {h : mM} {o0 : Option Value} {T : mLs} {x : Int32} {st : List Value} : ev d 76 51 (o0 :: some (.int x) :: T) st h = ev d 76 52 (o0 :: some (.int x) :: T) (.int x :: st) h := ev_of d_76_51 rfl
theorem d_76_52 : decode (cd 76) 52 = .ok (.aload_n 0, 1) := by rw [cd_76]; decide +kernel
theorem e_76_52 {d : Nat} {h : mM} {T : mLs} {x : Nat} {st : List Value} : ev d 76 52 ( some (.ref x) :: T) st h = ev d 76 53 ( some (.ref x) :: T) (.ref x :: st) h := ev_of d_76_52 rfl
theorem d_76_53 : decode (cd 76) 53 = .ok (.getfield 323, 3) := by rw [cd_76]; decide +kernel
theorem e_76_53 {d : Nat} {h : mM} {L : mLs} {st : List Value} {a : Nat} : ev d 76 53 L (.ref a :: st) h = if mK h a = 5 then ev d 76 56 L (.int (mI h a 3) :: st) h else none := ev_gI d_76_53 (by decide +kernel) (by decide +kernel)
theorem d_76_56 : decode (cd 76) 56 = .ok (.invokevirtual 319, 3) := by rw [cd_76]; decide +kernel
theorem e_76_56 {d : Nat} {h : mM} {L : mLs} {st : List Value} {a : Nat} {x0 : Int32} {x1 : Int32} (hc : mCat st ≤ 8) : ev (d + 1) 76 56 L (.int x1 :: .int x0 :: .ref a :: st) h = if mK h a = 5 then cV (ev d 25 0 [some (.ref a), some (.int x0), some (.int x1)] [] h) (fun v h1 => ev (d + 1) 76 59 L (v ++ st) h1) else none := ev_cv (mj := 25) (as := [.int x0, .int x1]) (rest := st) d_76_56 (by decide +kernel) rfl rfl (by show _ ≤ List.length _; simp only [List.length_cons]; have : na 25 = 2 := rfl; omega) rfl (Nat.le_of_ble_eq_true rfl) hc
theorem d_76_59 : decode (cd 76) 59 = .ok (.pop, 1) := by rw [cd_76]; decide +kernel
theorem e_76_59 {d : Nat} {h : mM} {L : mLs} {st : List Value} {x : Int32} : ev d 76 59 L (.int x :: st) h = ev d 76 60 L st h := ev_of d_76_59 rfl
theorem d_76_60 : decode (cd 76) 60 = .ok (.aload_n 0, 1) := by rw [cd_76]; decide +kernel
theorem e_76_60 {d : Nat} {h : mM} {T : mLs} {x : Nat} {st : List Value} : ev d 76 60 ( some (.ref x) :: T) st h = ev d 76 61 ( some (.ref x) :: T) (.ref x :: st) h := ev_of d_76_60 rfl
theorem d_76_61 : decode (cd 76) 61 = .ok (.iload_n 1, 1) := by rw [cd_76]; decide +kernel
theorem e_76_61 {d : Nat} {h : mM} {o0 : Option Value} {T : mLs} {x : Int32} {st : List Value} : ev d 76 61 (o0 :: some (.int x) :: T) st h = ev d 76 62 (o0 :: some (.int x) :: T) (.int x :: st) h := ev_of d_76_61 rfl
theorem d_76_62 : decode (cd 76) 62 = .ok (.iconst 1, 1) := by rw [cd_76]; decide +kernel
theorem e_76_62 {d : Nat} {h : mM} {L : mLs} {st : List Value} : ev d 76 62 L st h = ev d 76 63 L (.int 1 :: st) h := ev_of d_76_62 rfl
theorem d_76_63 : decode (cd 76) 63 = .ok (.iadd, 1) := by rw [cd_76]; decide +kernel
theorem e_76_63 {d : Nat} {h : mM} {L : mLs} {st : List Value} {x y : Int32} : ev d 76 63 L (.int y :: .int x :: st) h = ev d 76 64 L (.int (x + y) :: st) h := ev_of d_76_63 rfl
theorem d_76_64 : decode (cd 76) 64 = .ok (.iload_n 2, 1) := by rw [cd_76]; decide +kernel
theorem e_76_64 {d : Nat} {h : mM} {o0 o1 : Option Value} {T : mLs} {x : Int32} {st : List Value} : ev d 76 64 (o0 :: o1 :: some (.int x) :: T) st h = ev d 76 65 (o0 :: o1 :: some (.int x) :: T) (.int x :: st) h := ev_of d_76_64 rfl
theorem d_76_65 : decode (cd 76) 65 = .ok (.iload_n 3, 1) := by rw [cd_76]; decide +kernel
theorem e_76_65 {d : Nat} {h : mM} {o0 o1 o2 : Option Value} {T : mLs} {x : Int32} {st : List Value} : ev d 76 65 (o0 :: o1 :: o2 :: some (.int x) :: T) st h = ev d 76 66 (o0 :: o1 :: o2 :: some (.int x) :: T) (.int x :: st) h := ev_of d_76_65 rfl
theorem d_76_66 : decode (cd 76) 66 = .ok (.invokestatic 275, 3) := by rw [cd_76]; decide +kernel
theorem e_76_66 {d : Nat} {h : mM} {L : mLs} {st : List Value} {x0 : Nat} {x1 : Int32} {x2 : Int32} {x3 : Int32} (hc : mCat st ≤ 8) : ev (d + 1) 76 66 L (.int x3 :: .int x2 :: .int x1 :: .ref x0 :: st) h = cV (ev d 76 0 [some (.ref x0), some (.int x1), some (.int x2), some (.int x3), none] [] h) (fun v h1 => ev (d + 1) 76 69 L (v ++ st) h1) := ev_cs (kd := 1) (mj := 76) (as := [.ref x0, .int x1, .int x2, .int x3]) (rest := st) d_76_66 (by decide +kernel) (by decide) rfl rfl (by show _ ≤ List.length _; simp only [List.length_cons]; have : na 76 = 4 := rfl; omega) rfl (Nat.le_of_ble_eq_true rfl) hc
theorem d_76_69 : decode (cd 76) 69 = .ok (.return_, 1) := by rw [cd_76]; decide +kernel
theorem e_76_69 {d : Nat} {h : mM} {L : mLs} : ev d 76 69 L [] h = some (none, h) := ev_rv d_76_69 (by decide +kernel)
-- 121: Integer.bitCount
theorem cd_121 : cd 121 = prog_13_method_49_code := rfl
theorem d_121_0 : decode (cd 121) 0 = .ok (.iload_n 0, 1) := by rw [cd_121]; decide +kernel
theorem e_121_0 {d : Nat} {h : mM} {T : mLs} {x : Int32} {st : List Value} : ev d 121 0 ( some (.int x) :: T) st h = ev d 121 1 ( some (.int x) :: T) (.int x :: st) h := ev_of d_121_0 rfl
theorem d_121_1 : decode (cd 121) 1 = .ok (.iload_n 0, 1) := by rw [cd_121]; decide +kernel
theorem e_121_1 {d : Nat} {h : mM} {T : mLs} {x : Int32} {st : List Value} : ev d 121 1 ( some (.int x) :: T) st h = ev d 121 2 ( some (.int x) :: T) (.int x :: st) h := ev_of d_121_1 rfl
theorem d_121_2 : decode (cd 121) 2 = .ok (.iconst 1, 1) := by rw [cd_121]; decide +kernel
theorem e_121_2 {d : Nat} {h : mM} {L : mLs} {st : List Value} : ev d 121 2 L st h = ev d 121 3 L (.int 1 :: st) h := ev_of d_121_2 rfl
theorem d_121_3 : decode (cd 121) 3 = .ok (.iushr, 1) := by rw [cd_121]; decide +kernel
theorem e_121_3 {d : Nat} {h : mM} {L : mLs} {st : List Value} {x y : Int32} : ev d 121 3 L (.int y :: .int x :: st) h = ev d 121 4 L (.int ((x.toUInt32 >>> (y.toUInt32 &&& Int32.toUInt32 31)).toInt32) :: st) h := ev_of d_121_3 rfl
theorem d_121_4 : decode (cd 121) 4 = .ok (.ldc_w 265, 3) := by rw [cd_121]; decide +kernel
theorem e_121_4 {d : Nat} {h : mM} {L : mLs} {st : List Value} : ev d 121 4 L st h = ev d 121 7 L (.int 1431655765 :: st) h := ev_of d_121_4 rfl
theorem d_121_7 : decode (cd 121) 7 = .ok (.iand, 1) := by rw [cd_121]; decide +kernel
theorem e_121_7 {d : Nat} {h : mM} {L : mLs} {st : List Value} {x y : Int32} : ev d 121 7 L (.int y :: .int x :: st) h = ev d 121 8 L (.int (x &&& y) :: st) h := ev_of d_121_7 rfl
theorem d_121_8 : decode (cd 121) 8 = .ok (.isub, 1) := by rw [cd_121]; decide +kernel
theorem e_121_8 {d : Nat} {h : mM} {L : mLs} {st : List Value} {x y : Int32} : ev d 121 8 L (.int y :: .int x :: st) h = ev d 121 9 L (.int (x - y) :: st) h := ev_of d_121_8 rfl
theorem d_121_9 : decode (cd 121) 9 = .ok (.istore_n 0, 1) := by rw [cd_121]; decide +kernel
theorem e_121_9 {d : Nat} {h : mM} {o0 : Option Value} {T : mLs} {x : Int32} {st : List Value} : ev d 121 9 (o0 :: T) (.int x :: st) h = ev d 121 10 (some (.int x) :: T) st h := ev_st_in d_121_9 (by decide +kernel) rfl
theorem d_121_10 : decode (cd 121) 10 = .ok (.iload_n 0, 1) := by rw [cd_121]; decide +kernel
theorem e_121_10 {d : Nat} {h : mM} {T : mLs} {x : Int32} {st : List Value} : ev d 121 10 ( some (.int x) :: T) st h = ev d 121 11 ( some (.int x) :: T) (.int x :: st) h := ev_of d_121_10 rfl
theorem d_121_11 : decode (cd 121) 11 = .ok (.ldc_w 266, 3) := by rw [cd_121]; decide +kernel
theorem e_121_11 {d : Nat} {h : mM} {L : mLs} {st : List Value} : ev d 121 11 L st h = ev d 121 14 L (.int 858993459 :: st) h := ev_of d_121_11 rfl
theorem d_121_14 : decode (cd 121) 14 = .ok (.iand, 1) := by rw [cd_121]; decide +kernel
theorem e_121_14 {d : Nat} {h : mM} {L : mLs} {st : List Value} {x y : Int32} : ev d 121 14 L (.int y :: .int x :: st) h = ev d 121 15 L (.int (x &&& y) :: st) h := ev_of d_121_14 rfl
theorem d_121_15 : decode (cd 121) 15 = .ok (.iload_n 0, 1) := by rw [cd_121]; decide +kernel
theorem e_121_15 {d : Nat} {h : mM} {T : mLs} {x : Int32} {st : List Value} : ev d 121 15 ( some (.int x) :: T) st h = ev d 121 16 ( some (.int x) :: T) (.int x :: st) h := ev_of d_121_15 rfl
theorem d_121_16 : decode (cd 121) 16 = .ok (.iconst 2, 1) := by rw [cd_121]; decide +kernel
theorem e_121_16 {d : Nat} {h : mM} {L : mLs} {st : List Value} : ev d 121 16 L st h = ev d 121 17 L (.int 2 :: st) h := ev_of d_121_16 rfl
theorem d_121_17 : decode (cd 121) 17 = .ok (.iushr, 1) := by rw [cd_121]; decide +kernel
theorem e_121_17 {d : Nat} {h : mM} {L : mLs} {st : List Value} {x y : Int32} : ev d 121 17 L (.int y :: .int x :: st) h = ev d 121 18 L (.int ((x.toUInt32 >>> (y.toUInt32 &&& Int32.toUInt32 31)).toInt32) :: st) h := ev_of d_121_17 rfl
theorem d_121_18 : decode (cd 121) 18 = .ok (.ldc_w 266, 3) := by rw [cd_121]; decide +kernel
theorem e_121_18 {d : Nat} {h : mM} {L : mLs} {st : List Value} : ev d 121 18 L st h = ev d 121 21 L (.int 858993459 :: st) h := ev_of d_121_18 rfl
theorem d_121_21 : decode (cd 121) 21 = .ok (.iand, 1) := by rw [cd_121]; decide +kernel
theorem e_121_21 {d : Nat} {h : mM} {L : mLs} {st : List Value} {x y : Int32} : ev d 121 21 L (.int y :: .int x :: st) h = ev d 121 22 L (.int (x &&& y) :: st) h := ev_of d_121_21 rfl
theorem d_121_22 : decode (cd 121) 22 = .ok (.iadd, 1) := by rw [cd_121]; decide +kernel
theorem e_121_22 {d : Nat} {h : mM} {L : mLs} {st : List Value} {x y : Int32} : ev d 121 22 L (.int y :: .int x :: st) h = ev d 121 23 L (.int (x + y) :: st) h := ev_of d_121_22 rfl
theorem d_121_23 : decode (cd 121) 23 = .ok (.istore_n 0, 1) := by rw [cd_121]; decide +kernel
theorem e_121_23 {d : Nat} {h : mM} {o0 : Option Value} {T : mLs} {x : Int32} {st : List Value} : ev d 121 23 (o0 :: T) (.int x :: st) h = ev d 121 24 (some (.int x) :: T) st h := ev_st_in d_121_23 (by decide +kernel) rfl
theorem d_121_24 : decode (cd 121) 24 = .ok (.iload_n 0, 1) := by rw [cd_121]; decide +kernel
theorem e_121_24 {d : Nat} {h : mM} {T : mLs} {x : Int32} {st : List Value} : ev d 121 24 ( some (.int x) :: T) st h = ev d 121 25 ( some (.int x) :: T) (.int x :: st) h := ev_of d_121_24 rfl
theorem d_121_25 : decode (cd 121) 25 = .ok (.iload_n 0, 1) := by rw [cd_121]; decide +kernel
theorem e_121_25 {d : Nat} {h : mM} {T : mLs} {x : Int32} {st : List Value} : ev d 121 25 ( some (.int x) :: T) st h = ev d 121 26 ( some (.int x) :: T) (.int x :: st) h := ev_of d_121_25 rfl
theorem d_121_26 : decode (cd 121) 26 = .ok (.iconst 4, 1) := by rw [cd_121]; decide +kernel
theorem e_121_26 {d : Nat} {h : mM} {L : mLs} {st : List Value} : ev d 121 26 L st h = ev d 121 27 L (.int 4 :: st) h := ev_of d_121_26 rfl
theorem d_121_27 : decode (cd 121) 27 = .ok (.iushr, 1) := by rw [cd_121]; decide +kernel
theorem e_121_27 {d : Nat} {h : mM} {L : mLs} {st : List Value} {x y : Int32} : ev d 121 27 L (.int y :: .int x :: st) h = ev d 121 28 L (.int ((x.toUInt32 >>> (y.toUInt32 &&& Int32.toUInt32 31)).toInt32) :: st) h := ev_of d_121_27 rfl
theorem d_121_28 : decode (cd 121) 28 = .ok (.iadd, 1) := by rw [cd_121]; decide +kernel
theorem e_121_28 {d : Nat} {h : mM} {L : mLs} {st : List Value} {x y : Int32} : ev d 121 28 L (.int y :: .int x :: st) h = ev d 121 29 L (.int (x + y) :: st) h := ev_of d_121_28 rfl
theorem d_121_29 : decode (cd 121) 29 = .ok (.ldc_w 267, 3) := by rw [cd_121]; decide +kernel
theorem e_121_29 {d : Nat} {h : mM} {L : mLs} {st : List Value} : ev d 121 29 L st h = ev d 121 32 L (.int 252645135 :: st) h := ev_of d_121_29 rfl
theorem d_121_32 : decode (cd 121) 32 = .ok (.iand, 1) := by rw [cd_121]; decide +kernel
theorem e_121_32 {d : Nat} {h : mM} {L : mLs} {st : List Value} {x y : Int32} : ev d 121 32 L (.int y :: .int x :: st) h = ev d 121 33 L (.int (x &&& y) :: st) h := ev_of d_121_32 rfl
theorem d_121_33 : decode (cd 121) 33 = .ok (.istore_n 0, 1) := by rw [cd_121]; decide +kernel
theorem e_121_33 {d : Nat} {h : mM} {o0 : Option Value} {T : mLs} {x : Int32} {st : List Value} : ev d 121 33 (o0 :: T) (.int x :: st) h = ev d 121 34 (some (.int x) :: T) st h := ev_st_in d_121_33 (by decide +kernel) rfl
theorem d_121_34 : decode (cd 121) 34 = .ok (.iload_n 0, 1) := by rw [cd_121]; decide +kernel
theorem e_121_34 {d : Nat} {h : mM} {T : mLs} {x : Int32} {st : List Value} : ev d 121 34 ( some (.int x) :: T) st h = ev d 121 35 ( some (.int x) :: T) (.int x :: st) h := ev_of d_121_34 rfl
theorem d_121_35 : decode (cd 121) 35 = .ok (.iload_n 0, 1) := by rw [cd_121]; decide +kernel
theorem e_121_35 {d : Nat} {h : mM} {T : mLs} {x : Int32} {st : List Value} : ev d 121 35 ( some (.int x) :: T) st h = ev d 121 36 ( some (.int x) :: T) (.int x :: st) h := ev_of d_121_35 rfl
theorem d_121_36 : decode (cd 121) 36 = .ok (.bipush 8, 2) := by rw [cd_121]; decide +kernel
theorem e_121_36 {d : Nat} {h : mM} {L : mLs} {st : List Value} : ev d 121 36 L st h = ev d 121 38 L (.int 8 :: st) h := ev_of d_121_36 rfl
theorem d_121_38 : decode (cd 121) 38 = .ok (.iushr, 1) := by rw [cd_121]; decide +kernel
theorem e_121_38 {d : Nat} {h : mM} {L : mLs} {st : List Value} {x y : Int32} : ev d 121 38 L (.int y :: .int x :: st) h = ev d 121 39 L (.int ((x.toUInt32 >>> (y.toUInt32 &&& Int32.toUInt32 31)).toInt32) :: st) h := ev_of d_121_38 rfl
theorem d_121_39 : decode (cd 121) 39 = .ok (.iadd, 1) := by rw [cd_121]; decide +kernel
theorem e_121_39 {d : Nat} {h : mM} {L : mLs} {st : List Value} {x y : Int32} : ev d 121 39 L (.int y :: .int x :: st) h = ev d 121 40 L (.int (x + y) :: st) h := ev_of d_121_39 rfl
theorem d_121_40 : decode (cd 121) 40 = .ok (.istore_n 0, 1) := by rw [cd_121]; decide +kernel
theorem e_121_40 {d : Nat} {h : mM} {o0 : Option Value} {T : mLs} {x : Int32} {st : List Value} : ev d 121 40 (o0 :: T) (.int x :: st) h = ev d 121 41 (some (.int x) :: T) st h := ev_st_in d_121_40 (by decide +kernel) rfl
theorem d_121_41 : decode (cd 121) 41 = .ok (.iload_n 0, 1) := by rw [cd_121]; decide +kernel
theorem e_121_41 {d : Nat} {h : mM} {T : mLs} {x : Int32} {st : List Value} : ev d 121 41 ( some (.int x) :: T) st h = ev d 121 42 ( some (.int x) :: T) (.int x :: st) h := ev_of d_121_41 rfl
theorem d_121_42 : decode (cd 121) 42 = .ok (.iload_n 0, 1) := by rw [cd_121]; decide +kernel
theorem e_121_42 {d : Nat} {h : mM} {T : mLs} {x : Int32} {st : List Value} : ev d 121 42 ( some (.int x) :: T) st h = ev d 121 43 ( some (.int x) :: T) (.int x :: st) h := ev_of d_121_42 rfl
theorem d_121_43 : decode (cd 121) 43 = .ok (.bipush 16, 2) := by rw [cd_121]; decide +kernel
theorem e_121_43 {d : Nat} {h : mM} {L : mLs} {st : List Value} : ev d 121 43 L st h = ev d 121 45 L (.int 16 :: st) h := ev_of d_121_43 rfl
theorem d_121_45 : decode (cd 121) 45 = .ok (.iushr, 1) := by rw [cd_121]; decide +kernel
theorem e_121_45 {d : Nat} {h : mM} {L : mLs} {st : List Value} {x y : Int32} : ev d 121 45 L (.int y :: .int x :: st) h = ev d 121 46 L (.int ((x.toUInt32 >>> (y.toUInt32 &&& Int32.toUInt32 31)).toInt32) :: st) h := ev_of d_121_45 rfl
theorem d_121_46 : decode (cd 121) 46 = .ok (.iadd, 1) := by rw [cd_121]; decide +kernel
theorem e_121_46 {d : Nat} {h : mM} {L : mLs} {st : List Value} {x y : Int32} : ev d 121 46 L (.int y :: .int x :: st) h = ev d 121 47 L (.int (x + y) :: st) h := ev_of d_121_46 rfl
theorem d_121_47 : decode (cd 121) 47 = .ok (.istore_n 0, 1) := by rw [cd_121]; decide +kernel
theorem e_121_47 {d : Nat} {h : mM} {o0 : Option Value} {T : mLs} {x : Int32} {st : List Value} : ev d 121 47 (o0 :: T) (.int x :: st) h = ev d 121 48 (some (.int x) :: T) st h := ev_st_in d_121_47 (by decide +kernel) rfl
theorem d_121_48 : decode (cd 121) 48 = .ok (.iload_n 0, 1) := by rw [cd_121]; decide +kernel
theorem e_121_48 {d : Nat} {h : mM} {T : mLs} {x : Int32} {st : List Value} : ev d 121 48 ( some (.int x) :: T) st h = ev d 121 49 ( some (.int x) :: T) (.int x :: st) h := ev_of d_121_48 rfl
theorem d_121_49 : decode (cd 121) 49 = .ok (.bipush 63, 2) := by rw [cd_121]; decide +kernel
theorem e_121_49 {d : Nat} {h : mM} {L : mLs} {st : List Value} : ev d 121 49 L st h = ev d 121 51 L (.int 63 :: st) h := ev_of d_121_49 rfl
theorem d_121_51 : decode (cd 121) 51 = .ok (.iand, 1) := by rw [cd_121]; decide +kernel
theorem e_121_51 {d : Nat} {h : mM} {L : mLs} {st : List Value} {x y : Int32} : ev d 121 51 L (.int y :: .int x :: st) h = ev d 121 52 L (.int (x &&& y) :: st) h := ev_of d_121_51 rfl
theorem d_121_52 : decode (cd 121) 52 = .ok (.ireturn, 1) := by rw [cd_121]; decide +kernel
theorem e_121_52 {d : Nat} {h : mM} {L : mLs} {v : Int32} : ev d 121 52 L [.int v] h = some (some (.int v), h) := ev_ri d_121_52 (by decide +kernel)
