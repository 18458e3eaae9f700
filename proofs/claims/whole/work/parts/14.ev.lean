-- decode rows and equations, by gen_ev.py
-- 0: Channel.<init>
theorem cd_0 : cd 0 = prog_2_method_1_code := rfl
theorem d_0_0 : decode (cd 0) 0 = .ok (.aload_n 0, 1) := by rw [cd_0]; decide +kernel
theorem e_0_0 {d : Nat} {h : mM} {T : mLs} {x : Nat} {st : List Value} : ev d 0 0 ( some (.ref x) :: T) st h = ev d 0 1 ( some (.ref x) :: T) (.ref x :: st) h := ev_of d_0_0 rfl
theorem d_0_1 : decode (cd 0) 1 = .ok (.invokespecial 1, 3) := by rw [cd_0]; decide +kernel
theorem e_0_1 {d : Nat} {h : mM} {L : mLs} {st : List Value} {a : Nat} (hc : mCat st ≤ 8) : ev d 0 1 L (.ref a :: st) h = ev d 0 4 L st h := ev_obj (mj := 0) d_0_1 (by decide +kernel) hc
theorem d_0_4 : decode (cd 0) 4 = .ok (.aload_n 0, 1) := by rw [cd_0]; decide +kernel
theorem e_0_4 {d : Nat} {h : mM} {T : mLs} {x : Nat} {st : List Value} : ev d 0 4 ( some (.ref x) :: T) st h = ev d 0 5 ( some (.ref x) :: T) (.ref x :: st) h := ev_of d_0_4 rfl
theorem d_0_5 : decode (cd 0) 5 = .ok (.iconst 0, 1) := by rw [cd_0]; decide +kernel
theorem e_0_5 {d : Nat} {h : mM} {L : mLs} {st : List Value} : ev d 0 5 L st h = ev d 0 6 L (.int 0 :: st) h := ev_of d_0_5 rfl
theorem d_0_6 : decode (cd 0) 6 = .ok (.putfield 7, 3) := by rw [cd_0]; decide +kernel
theorem e_0_6 {d : Nat} {h : mM} {L : mLs} {st : List Value} {a : Nat} {v : Int32} : ev d 0 6 L (.int v :: .ref a :: st) h = if mK h a = 0 then ev d 0 9 L st (wI h a 0 v) else none := ev_pI d_0_6 (by decide +kernel) (by decide +kernel) (by decide +kernel)
theorem d_0_9 : decode (cd 0) 9 = .ok (.aload_n 0, 1) := by rw [cd_0]; decide +kernel
theorem e_0_9 {d : Nat} {h : mM} {T : mLs} {x : Nat} {st : List Value} : ev d 0 9 ( some (.ref x) :: T) st h = ev d 0 10 ( some (.ref x) :: T) (.ref x :: st) h := ev_of d_0_9 rfl
theorem d_0_10 : decode (cd 0) 10 = .ok (.iconst 0, 1) := by rw [cd_0]; decide +kernel
theorem e_0_10 {d : Nat} {h : mM} {L : mLs} {st : List Value} : ev d 0 10 L st h = ev d 0 11 L (.int 0 :: st) h := ev_of d_0_10 rfl
theorem d_0_11 : decode (cd 0) 11 = .ok (.putfield 13, 3) := by rw [cd_0]; decide +kernel
theorem e_0_11 {d : Nat} {h : mM} {L : mLs} {st : List Value} {a : Nat} {v : Int32} : ev d 0 11 L (.int v :: .ref a :: st) h = if mK h a = 0 then ev d 0 14 L st (wI h a 1 v) else none := ev_pI d_0_11 (by decide +kernel) (by decide +kernel) (by decide +kernel)
theorem d_0_14 : decode (cd 0) 14 = .ok (.aload_n 0, 1) := by rw [cd_0]; decide +kernel
theorem e_0_14 {d : Nat} {h : mM} {T : mLs} {x : Nat} {st : List Value} : ev d 0 14 ( some (.ref x) :: T) st h = ev d 0 15 ( some (.ref x) :: T) (.ref x :: st) h := ev_of d_0_14 rfl
theorem d_0_15 : decode (cd 0) 15 = .ok (.iconst 0, 1) := by rw [cd_0]; decide +kernel
theorem e_0_15 {d : Nat} {h : mM} {L : mLs} {st : List Value} : ev d 0 15 L st h = ev d 0 16 L (.int 0 :: st) h := ev_of d_0_15 rfl
theorem d_0_16 : decode (cd 0) 16 = .ok (.putfield 16, 3) := by rw [cd_0]; decide +kernel
theorem e_0_16 {d : Nat} {h : mM} {L : mLs} {st : List Value} {a : Nat} {v : Int32} : ev d 0 16 L (.int v :: .ref a :: st) h = if mK h a = 0 then ev d 0 19 L st (wI h a 2 v) else none := ev_pI d_0_16 (by decide +kernel) (by decide +kernel) (by decide +kernel)
theorem d_0_19 : decode (cd 0) 19 = .ok (.return_, 1) := by rw [cd_0]; decide +kernel
theorem e_0_19 {d : Nat} {h : mM} {L : mLs} : ev d 0 19 L [] h = some (none, h) := ev_rv d_0_19 (by decide +kernel)
-- 1: Flow.<init>
theorem cd_1 : cd 1 = prog_3_method_1_code := rfl
theorem d_1_0 : decode (cd 1) 0 = .ok (.aload_n 0, 1) := by rw [cd_1]; decide +kernel
theorem e_1_0 {d : Nat} {h : mM} {T : mLs} {x : Nat} {st : List Value} : ev d 1 0 ( some (.ref x) :: T) st h = ev d 1 1 ( some (.ref x) :: T) (.ref x :: st) h := ev_of d_1_0 rfl
theorem d_1_1 : decode (cd 1) 1 = .ok (.invokespecial 3, 3) := by rw [cd_1]; decide +kernel
theorem e_1_1 {d : Nat} {h : mM} {L : mLs} {st : List Value} {a : Nat} (hc : mCat st ≤ 8) : ev d 1 1 L (.ref a :: st) h = ev d 1 4 L st h := ev_obj (mj := 0) d_1_1 (by decide +kernel) hc
theorem d_1_4 : decode (cd 1) 4 = .ok (.aload_n 0, 1) := by rw [cd_1]; decide +kernel
theorem e_1_4 {d : Nat} {h : mM} {T : mLs} {x : Nat} {st : List Value} : ev d 1 4 ( some (.ref x) :: T) st h = ev d 1 5 ( some (.ref x) :: T) (.ref x :: st) h := ev_of d_1_4 rfl
theorem d_1_5 : decode (cd 1) 5 = .ok (.bipush 12, 2) := by rw [cd_1]; decide +kernel
theorem e_1_5 {d : Nat} {h : mM} {L : mLs} {st : List Value} : ev d 1 5 L st h = ev d 1 7 L (.int 12 :: st) h := ev_of d_1_5 rfl
theorem d_1_7 : decode (cd 1) 7 = .ok (.newarray .int, 2) := by rw [cd_1]; decide +kernel
theorem e_1_7 {d : Nat} {h : mM} {L : mLs} {st : List Value} {n : Int32} (hn : ¬ n < 0) (h1 : n.toNatClampNeg ≤ 1000) : ev d 1 7 L (.int n :: st) h = ev d 1 9 L (.ref (mN h) :: st) (wN h 11 n.toNatClampNeg) := ev_na d_1_7 (by decide) hn h1
theorem d_1_9 : decode (cd 1) 9 = .ok (.putfield 9, 3) := by rw [cd_1]; decide +kernel
theorem e_1_9 {d : Nat} {h : mM} {L : mLs} {st : List Value} {a b : Nat} : ev d 1 9 L (.ref b :: .ref a :: st) h = if mK h a = 1 then ev d 1 12 L st (wR h a 1 (some b)) else none := ev_pR d_1_9 (by decide +kernel) (by decide +kernel) (by decide +kernel)
theorem d_1_12 : decode (cd 1) 12 = .ok (.aload_n 0, 1) := by rw [cd_1]; decide +kernel
theorem e_1_12 {d : Nat} {h : mM} {T : mLs} {x : Nat} {st : List Value} : ev d 1 12 ( some (.ref x) :: T) st h = ev d 1 13 ( some (.ref x) :: T) (.ref x :: st) h := ev_of d_1_12 rfl
theorem d_1_13 : decode (cd 1) 13 = .ok (.iconst 0, 1) := by rw [cd_1]; decide +kernel
theorem e_1_13 {d : Nat} {h : mM} {L : mLs} {st : List Value} : ev d 1 13 L st h = ev d 1 14 L (.int 0 :: st) h := ev_of d_1_13 rfl
theorem d_1_14 : decode (cd 1) 14 = .ok (.putfield 15, 3) := by rw [cd_1]; decide +kernel
theorem e_1_14 {d : Nat} {h : mM} {L : mLs} {st : List Value} {a : Nat} {v : Int32} : ev d 1 14 L (.int v :: .ref a :: st) h = if mK h a = 1 then ev d 1 17 L st (wI h a 2 v) else none := ev_pI d_1_14 (by decide +kernel) (by decide +kernel) (by decide +kernel)
theorem d_1_17 : decode (cd 1) 17 = .ok (.aload_n 0, 1) := by rw [cd_1]; decide +kernel
theorem e_1_17 {d : Nat} {h : mM} {T : mLs} {x : Nat} {st : List Value} : ev d 1 17 ( some (.ref x) :: T) st h = ev d 1 18 ( some (.ref x) :: T) (.ref x :: st) h := ev_of d_1_17 rfl
theorem d_1_18 : decode (cd 1) 18 = .ok (.iconst 0, 1) := by rw [cd_1]; decide +kernel
theorem e_1_18 {d : Nat} {h : mM} {L : mLs} {st : List Value} : ev d 1 18 L st h = ev d 1 19 L (.int 0 :: st) h := ev_of d_1_18 rfl
theorem d_1_19 : decode (cd 1) 19 = .ok (.putfield 19, 3) := by rw [cd_1]; decide +kernel
theorem e_1_19 {d : Nat} {h : mM} {L : mLs} {st : List Value} {a : Nat} {v : Int32} : ev d 1 19 L (.int v :: .ref a :: st) h = if mK h a = 1 then ev d 1 22 L st (wI h a 3 v) else none := ev_pI d_1_19 (by decide +kernel) (by decide +kernel) (by decide +kernel)
theorem d_1_22 : decode (cd 1) 22 = .ok (.aload_n 0, 1) := by rw [cd_1]; decide +kernel
theorem e_1_22 {d : Nat} {h : mM} {T : mLs} {x : Nat} {st : List Value} : ev d 1 22 ( some (.ref x) :: T) st h = ev d 1 23 ( some (.ref x) :: T) (.ref x :: st) h := ev_of d_1_22 rfl
theorem d_1_23 : decode (cd 1) 23 = .ok (.iconst 0, 1) := by rw [cd_1]; decide +kernel
theorem e_1_23 {d : Nat} {h : mM} {L : mLs} {st : List Value} : ev d 1 23 L st h = ev d 1 24 L (.int 0 :: st) h := ev_of d_1_23 rfl
theorem d_1_24 : decode (cd 1) 24 = .ok (.putfield 22, 3) := by rw [cd_1]; decide +kernel
theorem e_1_24 {d : Nat} {h : mM} {L : mLs} {st : List Value} {a : Nat} {v : Int32} : ev d 1 24 L (.int v :: .ref a :: st) h = if mK h a = 1 then ev d 1 27 L st (wI h a 4 v) else none := ev_pI d_1_24 (by decide +kernel) (by decide +kernel) (by decide +kernel)
theorem d_1_27 : decode (cd 1) 27 = .ok (.aload_n 0, 1) := by rw [cd_1]; decide +kernel
theorem e_1_27 {d : Nat} {h : mM} {T : mLs} {x : Nat} {st : List Value} : ev d 1 27 ( some (.ref x) :: T) st h = ev d 1 28 ( some (.ref x) :: T) (.ref x :: st) h := ev_of d_1_27 rfl
theorem d_1_28 : decode (cd 1) 28 = .ok (.iconst 0, 1) := by rw [cd_1]; decide +kernel
theorem e_1_28 {d : Nat} {h : mM} {L : mLs} {st : List Value} : ev d 1 28 L st h = ev d 1 29 L (.int 0 :: st) h := ev_of d_1_28 rfl
theorem d_1_29 : decode (cd 1) 29 = .ok (.putfield 25, 3) := by rw [cd_1]; decide +kernel
theorem e_1_29 {d : Nat} {h : mM} {L : mLs} {st : List Value} {a : Nat} {v : Int32} : ev d 1 29 L (.int v :: .ref a :: st) h = if mK h a = 1 then ev d 1 32 L st (wI h a 5 v) else none := ev_pI d_1_29 (by decide +kernel) (by decide +kernel) (by decide +kernel)
theorem d_1_32 : decode (cd 1) 32 = .ok (.aload_n 0, 1) := by rw [cd_1]; decide +kernel
theorem e_1_32 {d : Nat} {h : mM} {T : mLs} {x : Nat} {st : List Value} : ev d 1 32 ( some (.ref x) :: T) st h = ev d 1 33 ( some (.ref x) :: T) (.ref x :: st) h := ev_of d_1_32 rfl
theorem d_1_33 : decode (cd 1) 33 = .ok (.aload_n 1, 1) := by rw [cd_1]; decide +kernel
theorem e_1_33 {d : Nat} {h : mM} {o0 : Option Value} {T : mLs} {x : Nat} {st : List Value} : ev d 1 33 (o0 :: some (.ref x) :: T) st h = ev d 1 34 (o0 :: some (.ref x) :: T) (.ref x :: st) h := ev_of d_1_33 rfl
theorem d_1_34 : decode (cd 1) 34 = .ok (.putfield 28, 3) := by rw [cd_1]; decide +kernel
theorem e_1_34 {d : Nat} {h : mM} {L : mLs} {st : List Value} {a b : Nat} : ev d 1 34 L (.ref b :: .ref a :: st) h = if mK h a = 1 then ev d 1 37 L st (wR h a 0 (some b)) else none := ev_pR d_1_34 (by decide +kernel) (by decide +kernel) (by decide +kernel)
theorem d_1_37 : decode (cd 1) 37 = .ok (.return_, 1) := by rw [cd_1]; decide +kernel
theorem e_1_37 {d : Nat} {h : mM} {L : mLs} : ev d 1 37 L [] h = some (none, h) := ev_rv d_1_37 (by decide +kernel)
-- 2: Flow.goBy
theorem cd_2 : cd 2 = prog_3_method_2_code := rfl
theorem d_2_0 : decode (cd 2) 0 = .ok (.aload_n 0, 1) := by rw [cd_2]; decide +kernel
theorem e_2_0 {d : Nat} {h : mM} {T : mLs} {x : Nat} {st : List Value} : ev d 2 0 ( some (.ref x) :: T) st h = ev d 2 1 ( some (.ref x) :: T) (.ref x :: st) h := ev_of d_2_0 rfl
theorem d_2_1 : decode (cd 2) 1 = .ok (.iconst 0, 1) := by rw [cd_2]; decide +kernel
theorem e_2_1 {d : Nat} {h : mM} {L : mLs} {st : List Value} : ev d 2 1 L st h = ev d 2 2 L (.int 0 :: st) h := ev_of d_2_1 rfl
theorem d_2_2 : decode (cd 2) 2 = .ok (.putfield 15, 3) := by rw [cd_2]; decide +kernel
theorem e_2_2 {d : Nat} {h : mM} {L : mLs} {st : List Value} {a : Nat} {v : Int32} : ev d 2 2 L (.int v :: .ref a :: st) h = if mK h a = 1 then ev d 2 5 L st (wI h a 2 v) else none := ev_pI d_2_2 (by decide +kernel) (by decide +kernel) (by decide +kernel)
theorem d_2_5 : decode (cd 2) 5 = .ok (.aload_n 0, 1) := by rw [cd_2]; decide +kernel
theorem e_2_5 {d : Nat} {h : mM} {T : mLs} {x : Nat} {st : List Value} : ev d 2 5 ( some (.ref x) :: T) st h = ev d 2 6 ( some (.ref x) :: T) (.ref x :: st) h := ev_of d_2_5 rfl
theorem d_2_6 : decode (cd 2) 6 = .ok (.iconst 0, 1) := by rw [cd_2]; decide +kernel
theorem e_2_6 {d : Nat} {h : mM} {L : mLs} {st : List Value} : ev d 2 6 L st h = ev d 2 7 L (.int 0 :: st) h := ev_of d_2_6 rfl
theorem d_2_7 : decode (cd 2) 7 = .ok (.putfield 19, 3) := by rw [cd_2]; decide +kernel
theorem e_2_7 {d : Nat} {h : mM} {L : mLs} {st : List Value} {a : Nat} {v : Int32} : ev d 2 7 L (.int v :: .ref a :: st) h = if mK h a = 1 then ev d 2 10 L st (wI h a 3 v) else none := ev_pI d_2_7 (by decide +kernel) (by decide +kernel) (by decide +kernel)
theorem d_2_10 : decode (cd 2) 10 = .ok (.aload_n 0, 1) := by rw [cd_2]; decide +kernel
theorem e_2_10 {d : Nat} {h : mM} {T : mLs} {x : Nat} {st : List Value} : ev d 2 10 ( some (.ref x) :: T) st h = ev d 2 11 ( some (.ref x) :: T) (.ref x :: st) h := ev_of d_2_10 rfl
theorem d_2_11 : decode (cd 2) 11 = .ok (.iconst 0, 1) := by rw [cd_2]; decide +kernel
theorem e_2_11 {d : Nat} {h : mM} {L : mLs} {st : List Value} : ev d 2 11 L st h = ev d 2 12 L (.int 0 :: st) h := ev_of d_2_11 rfl
theorem d_2_12 : decode (cd 2) 12 = .ok (.putfield 22, 3) := by rw [cd_2]; decide +kernel
theorem e_2_12 {d : Nat} {h : mM} {L : mLs} {st : List Value} {a : Nat} {v : Int32} : ev d 2 12 L (.int v :: .ref a :: st) h = if mK h a = 1 then ev d 2 15 L st (wI h a 4 v) else none := ev_pI d_2_12 (by decide +kernel) (by decide +kernel) (by decide +kernel)
theorem d_2_15 : decode (cd 2) 15 = .ok (.aload_n 0, 1) := by rw [cd_2]; decide +kernel
theorem e_2_15 {d : Nat} {h : mM} {T : mLs} {x : Nat} {st : List Value} : ev d 2 15 ( some (.ref x) :: T) st h = ev d 2 16 ( some (.ref x) :: T) (.ref x :: st) h := ev_of d_2_15 rfl
theorem d_2_16 : decode (cd 2) 16 = .ok (.iconst 0, 1) := by rw [cd_2]; decide +kernel
theorem e_2_16 {d : Nat} {h : mM} {L : mLs} {st : List Value} : ev d 2 16 L st h = ev d 2 17 L (.int 0 :: st) h := ev_of d_2_16 rfl
theorem d_2_17 : decode (cd 2) 17 = .ok (.putfield 25, 3) := by rw [cd_2]; decide +kernel
theorem e_2_17 {d : Nat} {h : mM} {L : mLs} {st : List Value} {a : Nat} {v : Int32} : ev d 2 17 L (.int v :: .ref a :: st) h = if mK h a = 1 then ev d 2 20 L st (wI h a 5 v) else none := ev_pI d_2_17 (by decide +kernel) (by decide +kernel) (by decide +kernel)
theorem d_2_20 : decode (cd 2) 20 = .ok (.aload_n 0, 1) := by rw [cd_2]; decide +kernel
theorem e_2_20 {d : Nat} {h : mM} {T : mLs} {x : Nat} {st : List Value} : ev d 2 20 ( some (.ref x) :: T) st h = ev d 2 21 ( some (.ref x) :: T) (.ref x :: st) h := ev_of d_2_20 rfl
theorem d_2_21 : decode (cd 2) 21 = .ok (.aload_n 1, 1) := by rw [cd_2]; decide +kernel
theorem e_2_21 {d : Nat} {h : mM} {o0 : Option Value} {T : mLs} {x : Nat} {st : List Value} : ev d 2 21 (o0 :: some (.ref x) :: T) st h = ev d 2 22 (o0 :: some (.ref x) :: T) (.ref x :: st) h := ev_of d_2_21 rfl
theorem d_2_22 : decode (cd 2) 22 = .ok (.iload_n 2, 1) := by rw [cd_2]; decide +kernel
theorem e_2_22 {d : Nat} {h : mM} {o0 o1 : Option Value} {T : mLs} {x : Int32} {st : List Value} : ev d 2 22 (o0 :: o1 :: some (.int x) :: T) st h = ev d 2 23 (o0 :: o1 :: some (.int x) :: T) (.int x :: st) h := ev_of d_2_22 rfl
theorem d_2_23 : decode (cd 2) 23 = .ok (.invokevirtual 32, 3) := by rw [cd_2]; decide +kernel
theorem e_2_23 {d : Nat} {h : mM} {L : mLs} {st : List Value} {a : Nat} {x0 : Nat} {x1 : Int32} (hc : mCat st ≤ 8) : ev (d + 1) 2 23 L (.int x1 :: .ref x0 :: .ref a :: st) h = if mK h a = 1 then cV (ev d 3 0 [some (.ref a), some (.ref x0), some (.int x1), none, none, none] [] h) (fun v h1 => ev (d + 1) 2 26 L (v ++ st) h1) else none := ev_cv (mj := 3) (as := [.ref x0, .int x1]) (rest := st) d_2_23 (by decide +kernel) rfl rfl (by show _ ≤ List.length _; simp only [List.length_cons]; have : na 3 = 2 := rfl; omega) rfl (Nat.le_of_ble_eq_true rfl) hc
theorem d_2_26 : decode (cd 2) 26 = .ok (.aload_n 0, 1) := by rw [cd_2]; decide +kernel
theorem e_2_26 {d : Nat} {h : mM} {T : mLs} {x : Nat} {st : List Value} : ev d 2 26 ( some (.ref x) :: T) st h = ev d 2 27 ( some (.ref x) :: T) (.ref x :: st) h := ev_of d_2_26 rfl
theorem d_2_27 : decode (cd 2) 27 = .ok (.aload_n 1, 1) := by rw [cd_2]; decide +kernel
theorem e_2_27 {d : Nat} {h : mM} {o0 : Option Value} {T : mLs} {x : Nat} {st : List Value} : ev d 2 27 (o0 :: some (.ref x) :: T) st h = ev d 2 28 (o0 :: some (.ref x) :: T) (.ref x :: st) h := ev_of d_2_27 rfl
theorem d_2_28 : decode (cd 2) 28 = .ok (.invokevirtual 36, 3) := by rw [cd_2]; decide +kernel
theorem e_2_28 {d : Nat} {h : mM} {L : mLs} {st : List Value} {a : Nat} {x0 : Nat} (hc : mCat st ≤ 8) : ev (d + 1) 2 28 L (.ref x0 :: .ref a :: st) h = if mK h a = 1 then cV (ev d 4 0 [some (.ref a), some (.ref x0), none, none, none, none] [] h) (fun v h1 => ev (d + 1) 2 31 L (v ++ st) h1) else none := ev_cv (mj := 4) (as := [.ref x0]) (rest := st) d_2_28 (by decide +kernel) rfl rfl (by show _ ≤ List.length _; simp only [List.length_cons]; have : na 4 = 1 := rfl; omega) rfl (Nat.le_of_ble_eq_true rfl) hc
theorem d_2_31 : decode (cd 2) 31 = .ok (.aload_n 0, 1) := by rw [cd_2]; decide +kernel
theorem e_2_31 {d : Nat} {h : mM} {T : mLs} {x : Nat} {st : List Value} : ev d 2 31 ( some (.ref x) :: T) st h = ev d 2 32 ( some (.ref x) :: T) (.ref x :: st) h := ev_of d_2_31 rfl
theorem d_2_32 : decode (cd 2) 32 = .ok (.aload_n 1, 1) := by rw [cd_2]; decide +kernel
theorem e_2_32 {d : Nat} {h : mM} {o0 : Option Value} {T : mLs} {x : Nat} {st : List Value} : ev d 2 32 (o0 :: some (.ref x) :: T) st h = ev d 2 33 (o0 :: some (.ref x) :: T) (.ref x :: st) h := ev_of d_2_32 rfl
theorem d_2_33 : decode (cd 2) 33 = .ok (.iload_n 2, 1) := by rw [cd_2]; decide +kernel
theorem e_2_33 {d : Nat} {h : mM} {o0 o1 : Option Value} {T : mLs} {x : Int32} {st : List Value} : ev d 2 33 (o0 :: o1 :: some (.int x) :: T) st h = ev d 2 34 (o0 :: o1 :: some (.int x) :: T) (.int x :: st) h := ev_of d_2_33 rfl
theorem d_2_34 : decode (cd 2) 34 = .ok (.iload_n 3, 1) := by rw [cd_2]; decide +kernel
theorem e_2_34 {d : Nat} {h : mM} {o0 o1 o2 : Option Value} {T : mLs} {x : Int32} {st : List Value} : ev d 2 34 (o0 :: o1 :: o2 :: some (.int x) :: T) st h = ev d 2 35 (o0 :: o1 :: o2 :: some (.int x) :: T) (.int x :: st) h := ev_of d_2_34 rfl
theorem d_2_35 : decode (cd 2) 35 = .ok (.invokevirtual 40, 3) := by rw [cd_2]; decide +kernel
theorem e_2_35 {d : Nat} {h : mM} {L : mLs} {st : List Value} {a : Nat} {x0 : Nat} {x1 : Int32} {x2 : Int32} (hc : mCat st ≤ 8) : ev (d + 1) 2 35 L (.int x2 :: .int x1 :: .ref x0 :: .ref a :: st) h = if mK h a = 1 then cV (ev d 6 0 [some (.ref a), some (.ref x0), some (.int x1), some (.int x2), none, none] [] h) (fun v h1 => ev (d + 1) 2 38 L (v ++ st) h1) else none := ev_cv (mj := 6) (as := [.ref x0, .int x1, .int x2]) (rest := st) d_2_35 (by decide +kernel) rfl rfl (by show _ ≤ List.length _; simp only [List.length_cons]; have : na 6 = 3 := rfl; omega) rfl (Nat.le_of_ble_eq_true rfl) hc
theorem d_2_38 : decode (cd 2) 38 = .ok (.aload_n 0, 1) := by rw [cd_2]; decide +kernel
theorem e_2_38 {d : Nat} {h : mM} {T : mLs} {x : Nat} {st : List Value} : ev d 2 38 ( some (.ref x) :: T) st h = ev d 2 39 ( some (.ref x) :: T) (.ref x :: st) h := ev_of d_2_38 rfl
theorem d_2_39 : decode (cd 2) 39 = .ok (.aload_n 1, 1) := by rw [cd_2]; decide +kernel
theorem e_2_39 {d : Nat} {h : mM} {o0 : Option Value} {T : mLs} {x : Nat} {st : List Value} : ev d 2 39 (o0 :: some (.ref x) :: T) st h = ev d 2 40 (o0 :: some (.ref x) :: T) (.ref x :: st) h := ev_of d_2_39 rfl
theorem d_2_40 : decode (cd 2) 40 = .ok (.invokevirtual 44, 3) := by rw [cd_2]; decide +kernel
theorem e_2_40 {d : Nat} {h : mM} {L : mLs} {st : List Value} {a : Nat} {x0 : Nat} (hc : mCat st ≤ 8) : ev (d + 1) 2 40 L (.ref x0 :: .ref a :: st) h = if mK h a = 1 then cV (ev d 8 0 [some (.ref a), some (.ref x0), none, none] [] h) (fun v h1 => ev (d + 1) 2 43 L (v ++ st) h1) else none := ev_cv (mj := 8) (as := [.ref x0]) (rest := st) d_2_40 (by decide +kernel) rfl rfl (by show _ ≤ List.length _; simp only [List.length_cons]; have : na 8 = 1 := rfl; omega) rfl (Nat.le_of_ble_eq_true rfl) hc
theorem d_2_43 : decode (cd 2) 43 = .ok (.return_, 1) := by rw [cd_2]; decide +kernel
theorem e_2_43 {d : Nat} {h : mM} {L : mLs} : ev d 2 43 L [] h = some (none, h) := ev_rv d_2_43 (by decide +kernel)
-- 3: Flow.passGates
theorem cd_3 : cd 3 = prog_3_method_3_code := rfl
theorem d_3_0 : decode (cd 3) 0 = .ok (.iconst 0, 1) := by rw [cd_3]; decide +kernel
theorem e_3_0 {d : Nat} {h : mM} {L : mLs} {st : List Value} : ev d 3 0 L st h = ev d 3 1 L (.int 0 :: st) h := ev_of d_3_0 rfl
theorem d_3_1 : decode (cd 3) 1 = .ok (.istore_n 3, 1) := by rw [cd_3]; decide +kernel
theorem e_3_1 {d : Nat} {h : mM} {o0 o1 o2 o3 : Option Value} {T : mLs} {x : Int32} {st : List Value} (hl : mLong o2 = false) : ev d 3 1 (o0 :: o1 :: o2 :: o3 :: T) (.int x :: st) h = ev d 3 2 (o0 :: o1 :: o2 :: some (.int x) :: T) st h := ev_st_in d_3_1 (by decide +kernel) (mS1_s (j := 2) hl)
theorem d_3_2 : decode (cd 3) 2 = .ok (.iload_n 3, 1) := by rw [cd_3]; decide +kernel
theorem e_3_2 {d : Nat} {h : mM} {o0 o1 o2 : Option Value} {T : mLs} {x : Int32} {st : List Value} : ev d 3 2 (o0 :: o1 :: o2 :: some (.int x) :: T) st h = ev d 3 3 (o0 :: o1 :: o2 :: some (.int x) :: T) (.int x :: st) h := ev_of d_3_2 rfl
theorem d_3_3 : decode (cd 3) 3 = .ok (.aload_n 0, 1) := by rw [cd_3]; decide +kernel
theorem e_3_3 {d : Nat} {h : mM} {T : mLs} {x : Nat} {st : List Value} : ev d 3 3 ( some (.ref x) :: T) st h = ev d 3 4 ( some (.ref x) :: T) (.ref x :: st) h := ev_of d_3_3 rfl
theorem d_3_4 : decode (cd 3) 4 = .ok (.getfield 28, 3) := by rw [cd_3]; decide +kernel
theorem e_3_4 {d : Nat} {h : mM} {L : mLs} {st : List Value} {a : Nat} : ev d 3 4 L (.ref a :: st) h = if mK h a = 1 then oB (mR h a 0) (fun b => ev d 3 7 L (.ref b :: st) h) else none := ev_gR d_3_4 (by decide +kernel) (by decide +kernel)
theorem d_3_7 : decode (cd 3) 7 = .ok (.getfield 47, 3) := by rw [cd_3]; decide +kernel
theorem e_3_7 {d : Nat} {h : mM} {L : mLs} {st : List Value} {a : Nat} : ev d 3 7 L (.ref a :: st) h = if mK h a = 8 then ev d 3 10 L (.int (mI h a 4) :: st) h else none := ev_gI d_3_7 (by decide +kernel) (by decide +kernel)
theorem d_3_10 : decode (cd 3) 10 = .ok (.if_icmp .ge 78, 3) := by rw [cd_3]; decide +kernel
theorem e_3_10 {d : Nat} {h : mM} {L : mLs} {st : List Value} {x y : Int32} : ev d 3 10 L (.int y :: .int x :: st) h = if y ≤ x then ev d 3 88 L st h else ev d 3 13 L st h := ev_ic (y ≤ x) inferInstance rfl d_3_10 (by decide)
theorem d_3_13 : decode (cd 3) 13 = .ok (.aload_n 0, 1) := by rw [cd_3]; decide +kernel
theorem e_3_13 {d : Nat} {h : mM} {T : mLs} {x : Nat} {st : List Value} : ev d 3 13 ( some (.ref x) :: T) st h = ev d 3 14 ( some (.ref x) :: T) (.ref x :: st) h := ev_of d_3_13 rfl
theorem d_3_14 : decode (cd 3) 14 = .ok (.getfield 28, 3) := by rw [cd_3]; decide +kernel
theorem e_3_14 {d : Nat} {h : mM} {L : mLs} {st : List Value} {a : Nat} : ev d 3 14 L (.ref a :: st) h = if mK h a = 1 then oB (mR h a 0) (fun b => ev d 3 17 L (.ref b :: st) h) else none := ev_gR d_3_14 (by decide +kernel) (by decide +kernel)
theorem d_3_17 : decode (cd 3) 17 = .ok (.getfield 52, 3) := by rw [cd_3]; decide +kernel
theorem e_3_17 {d : Nat} {h : mM} {L : mLs} {st : List Value} {a : Nat} : ev d 3 17 L (.ref a :: st) h = if mK h a = 8 then oB (mR h a 0) (fun b => ev d 3 20 L (.ref b :: st) h) else none := ev_gR d_3_17 (by decide +kernel) (by decide +kernel)
theorem d_3_20 : decode (cd 3) 20 = .ok (.iload_n 3, 1) := by rw [cd_3]; decide +kernel
theorem e_3_20 {d : Nat} {h : mM} {o0 o1 o2 : Option Value} {T : mLs} {x : Int32} {st : List Value} : ev d 3 20 (o0 :: o1 :: o2 :: some (.int x) :: T) st h = ev d 3 21 (o0 :: o1 :: o2 :: some (.int x) :: T) (.int x :: st) h := ev_of d_3_20 rfl
theorem d_3_21 : decode (cd 3) 21 = .ok (.aaload, 1) := by rw [cd_3]; decide +kernel
theorem e_3_21 {d : Nat} {h : mM} {L : mLs} {st : List Value} {a : Nat} {i : Int32} : ev d 3 21 L (.int i :: .ref a :: st) h = if (12 < mK h a ∧ mK h a < 19) ∧ ixOK i (mL h a) = true then oB (mR h a i.toNatClampNeg) (fun b => ev d 3 22 L (.ref b :: st) h) else none := ev_aa d_3_21
theorem d_3_22 : decode (cd 3) 22 = .ok (.aload_n 1, 1) := by rw [cd_3]; decide +kernel
theorem e_3_22 {d : Nat} {h : mM} {o0 : Option Value} {T : mLs} {x : Nat} {st : List Value} : ev d 3 22 (o0 :: some (.ref x) :: T) st h = ev d 3 23 (o0 :: some (.ref x) :: T) (.ref x :: st) h := ev_of d_3_22 rfl
theorem d_3_23 : decode (cd 3) 23 = .ok (.iload_n 3, 1) := by rw [cd_3]; decide +kernel
theorem e_3_23 {d : Nat} {h : mM} {o0 o1 o2 : Option Value} {T : mLs} {x : Int32} {st : List Value} : ev d 3 23 (o0 :: o1 :: o2 :: some (.int x) :: T) st h = ev d 3 24 (o0 :: o1 :: o2 :: some (.int x) :: T) (.int x :: st) h := ev_of d_3_23 rfl
theorem d_3_24 : decode (cd 3) 24 = .ok (.iaload, 1) := by rw [cd_3]; decide +kernel
theorem e_3_24 {d : Nat} {h : mM} {L : mLs} {st : List Value} {a : Nat} {i : Int32} : ev d 3 24 L (.int i :: .ref a :: st) h = if (mK h a = 11 ∨ mK h a = 19) ∧ ixOK i (mL h a) = true then ev d 3 25 L (.int (mI h a i.toNatClampNeg) :: st) h else none := ev_ia d_3_24
theorem d_3_25 : decode (cd 3) 25 = .ok (.iload_n 2, 1) := by rw [cd_3]; decide +kernel
theorem e_3_25 {d : Nat} {h : mM} {o0 o1 : Option Value} {T : mLs} {x : Int32} {st : List Value} : ev d 3 25 (o0 :: o1 :: some (.int x) :: T) st h = ev d 3 26 (o0 :: o1 :: some (.int x) :: T) (.int x :: st) h := ev_of d_3_25 rfl
theorem d_3_26 : decode (cd 3) 26 = .ok (.invokevirtual 56, 3) := by rw [cd_3]; decide +kernel
theorem e_3_26 {d : Nat} {h : mM} {L : mLs} {st : List Value} {a : Nat} {x0 : Int32} {x1 : Int32} (hc : mCat st ≤ 8) : ev (d + 1) 3 26 L (.int x1 :: .int x0 :: .ref a :: st) h = if mK h a = 3 then cV (ev d 18 0 [some (.ref a), some (.int x0), some (.int x1), none] [] h) (fun v h1 => ev (d + 1) 3 29 L (v ++ st) h1) else none := ev_cv (mj := 18) (as := [.int x0, .int x1]) (rest := st) d_3_26 (by decide +kernel) rfl rfl (by show _ ≤ List.length _; simp only [List.length_cons]; have : na 18 = 2 := rfl; omega) rfl (Nat.le_of_ble_eq_true rfl) hc
theorem d_3_29 : decode (cd 3) 29 = .ok (.istore 4, 2) := by rw [cd_3]; decide +kernel
theorem e_3_29 {d : Nat} {h : mM} {o0 o1 o2 o3 o4 : Option Value} {T : mLs} {x : Int32} {st : List Value} (hl : mLong o3 = false) : ev d 3 29 (o0 :: o1 :: o2 :: o3 :: o4 :: T) (.int x :: st) h = ev d 3 31 (o0 :: o1 :: o2 :: o3 :: some (.int x) :: T) st h := ev_st_i d_3_29 (by decide +kernel) (mS1_s (j := 3) hl)
theorem d_3_31 : decode (cd 3) 31 = .ok (.aload_n 0, 1) := by rw [cd_3]; decide +kernel
theorem e_3_31 {d : Nat} {h : mM} {T : mLs} {x : Nat} {st : List Value} : ev d 3 31 ( some (.ref x) :: T) st h = ev d 3 32 ( some (.ref x) :: T) (.ref x :: st) h := ev_of d_3_31 rfl
theorem d_3_32 : decode (cd 3) 32 = .ok (.getfield 28, 3) := by rw [cd_3]; decide +kernel
theorem e_3_32 {d : Nat} {h : mM} {L : mLs} {st : List Value} {a : Nat} : ev d 3 32 L (.ref a :: st) h = if mK h a = 1 then oB (mR h a 0) (fun b => ev d 3 35 L (.ref b :: st) h) else none := ev_gR d_3_32 (by decide +kernel) (by decide +kernel)
theorem d_3_35 : decode (cd 3) 35 = .ok (.getfield 52, 3) := by rw [cd_3]; decide +kernel
theorem e_3_35 {d : Nat} {h : mM} {L : mLs} {st : List Value} {a : Nat} : ev d 3 35 L (.ref a :: st) h = if mK h a = 8 then oB (mR h a 0) (fun b => ev d 3 38 L (.ref b :: st) h) else none := ev_gR d_3_35 (by decide +kernel) (by decide +kernel)
theorem d_3_38 : decode (cd 3) 38 = .ok (.iload_n 3, 1) := by rw [cd_3]; decide +kernel
theorem e_3_38 {d : Nat} {h : mM} {o0 o1 o2 : Option Value} {T : mLs} {x : Int32} {st : List Value} : ev d 3 38 (o0 :: o1 :: o2 :: some (.int x) :: T) st h = ev d 3 39 (o0 :: o1 :: o2 :: some (.int x) :: T) (.int x :: st) h := ev_of d_3_38 rfl
theorem d_3_39 : decode (cd 3) 39 = .ok (.aaload, 1) := by rw [cd_3]; decide +kernel
theorem e_3_39 {d : Nat} {h : mM} {L : mLs} {st : List Value} {a : Nat} {i : Int32} : ev d 3 39 L (.int i :: .ref a :: st) h = if (12 < mK h a ∧ mK h a < 19) ∧ ixOK i (mL h a) = true then oB (mR h a i.toNatClampNeg) (fun b => ev d 3 40 L (.ref b :: st) h) else none := ev_aa d_3_39
theorem d_3_40 : decode (cd 3) 40 = .ok (.aload_n 1, 1) := by rw [cd_3]; decide +kernel
theorem e_3_40 {d : Nat} {h : mM} {o0 : Option Value} {T : mLs} {x : Nat} {st : List Value} : ev d 3 40 (o0 :: some (.ref x) :: T) st h = ev d 3 41 (o0 :: some (.ref x) :: T) (.ref x :: st) h := ev_of d_3_40 rfl
theorem d_3_41 : decode (cd 3) 41 = .ok (.iload_n 3, 1) := by rw [cd_3]; decide +kernel
theorem e_3_41 {d : Nat} {h : mM} {o0 o1 o2 : Option Value} {T : mLs} {x : Int32} {st : List Value} : ev d 3 41 (o0 :: o1 :: o2 :: some (.int x) :: T) st h = ev d 3 42 (o0 :: o1 :: o2 :: some (.int x) :: T) (.int x :: st) h := ev_of d_3_41 rfl
theorem d_3_42 : decode (cd 3) 42 = .ok (.iaload, 1) := by rw [cd_3]; decide +kernel
theorem e_3_42 {d : Nat} {h : mM} {L : mLs} {st : List Value} {a : Nat} {i : Int32} : ev d 3 42 L (.int i :: .ref a :: st) h = if (mK h a = 11 ∨ mK h a = 19) ∧ ixOK i (mL h a) = true then ev d 3 43 L (.int (mI h a i.toNatClampNeg) :: st) h else none := ev_ia d_3_42
theorem d_3_43 : decode (cd 3) 43 = .ok (.iload_n 2, 1) := by rw [cd_3]; decide +kernel
theorem e_3_43 {d : Nat} {h : mM} {o0 o1 : Option Value} {T : mLs} {x : Int32} {st : List Value} : ev d 3 43 (o0 :: o1 :: some (.int x) :: T) st h = ev d 3 44 (o0 :: o1 :: some (.int x) :: T) (.int x :: st) h := ev_of d_3_43 rfl
theorem d_3_44 : decode (cd 3) 44 = .ok (.invokevirtual 62, 3) := by rw [cd_3]; decide +kernel
theorem e_3_44 {d : Nat} {h : mM} {L : mLs} {st : List Value} {a : Nat} {x0 : Int32} {x1 : Int32} (hc : mCat st ≤ 8) : ev (d + 1) 3 44 L (.int x1 :: .int x0 :: .ref a :: st) h = if mK h a = 3 then cV (ev d 19 0 [some (.ref a), some (.int x0), some (.int x1), none] [] h) (fun v h1 => ev (d + 1) 3 47 L (v ++ st) h1) else none := ev_cv (mj := 19) (as := [.int x0, .int x1]) (rest := st) d_3_44 (by decide +kernel) rfl rfl (by show _ ≤ List.length _; simp only [List.length_cons]; have : na 19 = 2 := rfl; omega) rfl (Nat.le_of_ble_eq_true rfl) hc
theorem d_3_47 : decode (cd 3) 47 = .ok (.istore 5, 2) := by rw [cd_3]; decide +kernel
theorem e_3_47 {d : Nat} {h : mM} {o0 o1 o2 o3 o4 o5 : Option Value} {T : mLs} {x : Int32} {st : List Value} (hl : mLong o4 = false) : ev d 3 47 (o0 :: o1 :: o2 :: o3 :: o4 :: o5 :: T) (.int x :: st) h = ev d 3 49 (o0 :: o1 :: o2 :: o3 :: o4 :: some (.int x) :: T) st h := ev_st_i d_3_47 (by decide +kernel) (mS1_s (j := 4) hl)
theorem d_3_49 : decode (cd 3) 49 = .ok (.aload_n 1, 1) := by rw [cd_3]; decide +kernel
theorem e_3_49 {d : Nat} {h : mM} {o0 : Option Value} {T : mLs} {x : Nat} {st : List Value} : ev d 3 49 (o0 :: some (.ref x) :: T) st h = ev d 3 50 (o0 :: some (.ref x) :: T) (.ref x :: st) h := ev_of d_3_49 rfl
theorem d_3_50 : decode (cd 3) 50 = .ok (.iload_n 3, 1) := by rw [cd_3]; decide +kernel
theorem e_3_50 {d : Nat} {h : mM} {o0 o1 o2 : Option Value} {T : mLs} {x : Int32} {st : List Value} : ev d 3 50 (o0 :: o1 :: o2 :: some (.int x) :: T) st h = ev d 3 51 (o0 :: o1 :: o2 :: some (.int x) :: T) (.int x :: st) h := ev_of d_3_50 rfl
theorem d_3_51 : decode (cd 3) 51 = .ok (.dup2, 1) := by rw [cd_3]; decide +kernel
theorem e_3_51 {d : Nat} {h : mM} {L : mLs} {st : List Value} {a : Nat} {i : Int32} : ev d 3 51 L (.int i :: .ref a :: st) h = ev d 3 52 L (.int i :: .ref a :: .int i :: .ref a :: st) h := ev_of d_3_51 rfl
theorem d_3_52 : decode (cd 3) 52 = .ok (.iaload, 1) := by rw [cd_3]; decide +kernel
theorem e_3_52 {d : Nat} {h : mM} {L : mLs} {st : List Value} {a : Nat} {i : Int32} : ev d 3 52 L (.int i :: .ref a :: st) h = if (mK h a = 11 ∨ mK h a = 19) ∧ ixOK i (mL h a) = true then ev d 3 53 L (.int (mI h a i.toNatClampNeg) :: st) h else none := ev_ia d_3_52
theorem d_3_53 : decode (cd 3) 53 = .ok (.iload 4, 2) := by rw [cd_3]; decide +kernel
theorem e_3_53 {d : Nat} {h : mM} {o0 o1 o2 o3 : Option Value} {T : mLs} {x : Int32} {st : List Value} : ev d 3 53 (o0 :: o1 :: o2 :: o3 :: some (.int x) :: T) st h = ev d 3 55 (o0 :: o1 :: o2 :: o3 :: some (.int x) :: T) (.int x :: st) h := ev_of d_3_53 rfl
theorem d_3_55 : decode (cd 3) 55 = .ok (.iload 5, 2) := by rw [cd_3]; decide +kernel
theorem e_3_55 {d : Nat} {h : mM} {o0 o1 o2 o3 o4 : Option Value} {T : mLs} {x : Int32} {st : List Value} : ev d 3 55 (o0 :: o1 :: o2 :: o3 :: o4 :: some (.int x) :: T) st h = ev d 3 57 (o0 :: o1 :: o2 :: o3 :: o4 :: some (.int x) :: T) (.int x :: st) h := ev_of d_3_55 rfl
theorem d_3_57 : decode (cd 3) 57 = .ok (.isub, 1) := by rw [cd_3]; decide +kernel
theorem e_3_57 {d : Nat} {h : mM} {L : mLs} {st : List Value} {x y : Int32} : ev d 3 57 L (.int y :: .int x :: st) h = ev d 3 58 L (.int (x - y) :: st) h := ev_of d_3_57 rfl
theorem d_3_58 : decode (cd 3) 58 = .ok (.iadd, 1) := by rw [cd_3]; decide +kernel
theorem e_3_58 {d : Nat} {h : mM} {L : mLs} {st : List Value} {x y : Int32} : ev d 3 58 L (.int y :: .int x :: st) h = ev d 3 59 L (.int (x + y) :: st) h := ev_of d_3_58 rfl
theorem d_3_59 : decode (cd 3) 59 = .ok (.iastore, 1) := by rw [cd_3]; decide +kernel
theorem e_3_59 {d : Nat} {h : mM} {L : mLs} {st : List Value} {a : Nat} {i v : Int32} : ev d 3 59 L (.int v :: .int i :: .ref a :: st) h = if mK h a = 11 ∧ ixOK i (mL h a) = true then ev d 3 60 L st (wI h a i.toNatClampNeg v) else none := ev_is d_3_59
theorem d_3_60 : decode (cd 3) 60 = .ok (.aload_n 0, 1) := by rw [cd_3]; decide +kernel
theorem e_3_60 {d : Nat} {h : mM} {T : mLs} {x : Nat} {st : List Value} : ev d 3 60 ( some (.ref x) :: T) st h = ev d 3 61 ( some (.ref x) :: T) (.ref x :: st) h := ev_of d_3_60 rfl
theorem d_3_61 : decode (cd 3) 61 = .ok (.dup, 1) := by rw [cd_3]; decide +kernel
theorem e_3_61r {d : Nat} {h : mM} {L : mLs} {st : List Value} {a : Nat} : ev d 3 61 L (.ref a :: st) h = ev d 3 62 L (.ref a :: .ref a :: st) h := ev_of d_3_61 rfl
theorem e_3_61i {d : Nat} {h : mM} {L : mLs} {st : List Value} {x : Int32} : ev d 3 61 L (.int x :: st) h = ev d 3 62 L (.int x :: .int x :: st) h := ev_of d_3_61 rfl
theorem d_3_62 : decode (cd 3) 62 = .ok (.getfield 15, 3) := by rw [cd_3]; decide +kernel
theorem e_3_62 {d : Nat} {h : mM} {L : mLs} {st : List Value} {a : Nat} : ev d 3 62 L (.ref a :: st) h = if mK h a = 1 then ev d 3 65 L (.int (mI h a 2) :: st) h else none := ev_gI d_3_62 (by decide +kernel) (by decide +kernel)
theorem d_3_65 : decode (cd 3) 65 = .ok (.iload 4, 2) := by rw [cd_3]; decide +kernel
theorem e_3_65 {d : Nat} {h : mM} {o0 o1 o2 o3 : Option Value} {T : mLs} {x : Int32} {st : List Value} : ev d 3 65 (o0 :: o1 :: o2 :: o3 :: some (.int x) :: T) st h = ev d 3 67 (o0 :: o1 :: o2 :: o3 :: some (.int x) :: T) (.int x :: st) h := ev_of d_3_65 rfl
theorem d_3_67 : decode (cd 3) 67 = .ok (.iadd, 1) := by rw [cd_3]; decide +kernel
theorem e_3_67 {d : Nat} {h : mM} {L : mLs} {st : List Value} {x y : Int32} : ev d 3 67 L (.int y :: .int x :: st) h = ev d 3 68 L (.int (x + y) :: st) h := ev_of d_3_67 rfl
theorem d_3_68 : decode (cd 3) 68 = .ok (.putfield 15, 3) := by rw [cd_3]; decide +kernel
theorem e_3_68 {d : Nat} {h : mM} {L : mLs} {st : List Value} {a : Nat} {v : Int32} : ev d 3 68 L (.int v :: .ref a :: st) h = if mK h a = 1 then ev d 3 71 L st (wI h a 2 v) else none := ev_pI d_3_68 (by decide +kernel) (by decide +kernel) (by decide +kernel)
theorem d_3_71 : decode (cd 3) 71 = .ok (.aload_n 0, 1) := by rw [cd_3]; decide +kernel
theorem e_3_71 {d : Nat} {h : mM} {T : mLs} {x : Nat} {st : List Value} : ev d 3 71 ( some (.ref x) :: T) st h = ev d 3 72 ( some (.ref x) :: T) (.ref x :: st) h := ev_of d_3_71 rfl
theorem d_3_72 : decode (cd 3) 72 = .ok (.dup, 1) := by rw [cd_3]; decide +kernel
theorem e_3_72r {d : Nat} {h : mM} {L : mLs} {st : List Value} {a : Nat} : ev d 3 72 L (.ref a :: st) h = ev d 3 73 L (.ref a :: .ref a :: st) h := ev_of d_3_72 rfl
theorem e_3_72i {d : Nat} {h : mM} {L : mLs} {st : List Value} {x : Int32} : ev d 3 72 L (.int x :: st) h = ev d 3 73 L (.int x :: .int x :: st) h := ev_of d_3_72 rfl
theorem d_3_73 : decode (cd 3) 73 = .ok (.getfield 19, 3) := by rw [cd_3]; decide +kernel
theorem e_3_73 {d : Nat} {h : mM} {L : mLs} {st : List Value} {a : Nat} : ev d 3 73 L (.ref a :: st) h = if mK h a = 1 then ev d 3 76 L (.int (mI h a 3) :: st) h else none := ev_gI d_3_73 (by decide +kernel) (by decide +kernel)
theorem d_3_76 : decode (cd 3) 76 = .ok (.iload 5, 2) := by rw [cd_3]; decide +kernel
theorem e_3_76 {d : Nat} {h : mM} {o0 o1 o2 o3 o4 : Option Value} {T : mLs} {x : Int32} {st : List Value} : ev d 3 76 (o0 :: o1 :: o2 :: o3 :: o4 :: some (.int x) :: T) st h = ev d 3 78 (o0 :: o1 :: o2 :: o3 :: o4 :: some (.int x) :: T) (.int x :: st) h := ev_of d_3_76 rfl
theorem d_3_78 : decode (cd 3) 78 = .ok (.iadd, 1) := by rw [cd_3]; decide +kernel
theorem e_3_78 {d : Nat} {h : mM} {L : mLs} {st : List Value} {x y : Int32} : ev d 3 78 L (.int y :: .int x :: st) h = ev d 3 79 L (.int (x + y) :: st) h := ev_of d_3_78 rfl
theorem d_3_79 : decode (cd 3) 79 = .ok (.putfield 19, 3) := by rw [cd_3]; decide +kernel
theorem e_3_79 {d : Nat} {h : mM} {L : mLs} {st : List Value} {a : Nat} {v : Int32} : ev d 3 79 L (.int v :: .ref a :: st) h = if mK h a = 1 then ev d 3 82 L st (wI h a 3 v) else none := ev_pI d_3_79 (by decide +kernel) (by decide +kernel) (by decide +kernel)
theorem d_3_82 : decode (cd 3) 82 = .ok (.iinc 3 1, 3) := by rw [cd_3]; decide +kernel
theorem e_3_82 {d : Nat} {h : mM} {o0 o1 o2 : Option Value} {T : mLs} {x : Int32} {st : List Value} (hl : mLong o2 = false) : ev d 3 82 (o0 :: o1 :: o2 :: some (.int x) :: T) st h = ev d 3 85 (o0 :: o1 :: o2 :: some (.int (x + 1)) :: T) st h := ev_inc d_3_82 (by decide +kernel) rfl rfl (mS1_s (j := 2) hl)
theorem d_3_85 : decode (cd 3) 85 = .ok (.goto (-83), 3) := by rw [cd_3]; decide +kernel
theorem e_3_85 {d : Nat} {h : mM} {L : mLs} {st : List Value} : ev d 3 85 L st h = ev d 3 2 L st h := ev_go d_3_85 (by decide)
theorem d_3_88 : decode (cd 3) 88 = .ok (.return_, 1) := by rw [cd_3]; decide +kernel
theorem e_3_88 {d : Nat} {h : mM} {L : mLs} : ev d 3 88 L [] h = some (none, h) := ev_rv d_3_88 (by decide +kernel)
-- 4: Flow.passChannels
theorem cd_4 : cd 4 = prog_3_method_4_code := rfl
theorem d_4_0 : decode (cd 4) 0 = .ok (.iconst 0, 1) := by rw [cd_4]; decide +kernel
theorem e_4_0 {d : Nat} {h : mM} {L : mLs} {st : List Value} : ev d 4 0 L st h = ev d 4 1 L (.int 0 :: st) h := ev_of d_4_0 rfl
theorem d_4_1 : decode (cd 4) 1 = .ok (.istore_n 2, 1) := by rw [cd_4]; decide +kernel
theorem e_4_1 {d : Nat} {h : mM} {o0 o1 o2 : Option Value} {T : mLs} {x : Int32} {st : List Value} (hl : mLong o1 = false) : ev d 4 1 (o0 :: o1 :: o2 :: T) (.int x :: st) h = ev d 4 2 (o0 :: o1 :: some (.int x) :: T) st h := ev_st_in d_4_1 (by decide +kernel) (mS1_s (j := 1) hl)
theorem d_4_2 : decode (cd 4) 2 = .ok (.iload_n 2, 1) := by rw [cd_4]; decide +kernel
theorem e_4_2 {d : Nat} {h : mM} {o0 o1 : Option Value} {T : mLs} {x : Int32} {st : List Value} : ev d 4 2 (o0 :: o1 :: some (.int x) :: T) st h = ev d 4 3 (o0 :: o1 :: some (.int x) :: T) (.int x :: st) h := ev_of d_4_2 rfl
theorem d_4_3 : decode (cd 4) 3 = .ok (.aload_n 0, 1) := by rw [cd_4]; decide +kernel
theorem e_4_3 {d : Nat} {h : mM} {T : mLs} {x : Nat} {st : List Value} : ev d 4 3 ( some (.ref x) :: T) st h = ev d 4 4 ( some (.ref x) :: T) (.ref x :: st) h := ev_of d_4_3 rfl
theorem d_4_4 : decode (cd 4) 4 = .ok (.getfield 28, 3) := by rw [cd_4]; decide +kernel
theorem e_4_4 {d : Nat} {h : mM} {L : mLs} {st : List Value} {a : Nat} : ev d 4 4 L (.ref a :: st) h = if mK h a = 1 then oB (mR h a 0) (fun b => ev d 4 7 L (.ref b :: st) h) else none := ev_gR d_4_4 (by decide +kernel) (by decide +kernel)
theorem d_4_7 : decode (cd 4) 7 = .ok (.getfield 65, 3) := by rw [cd_4]; decide +kernel
theorem e_4_7 {d : Nat} {h : mM} {L : mLs} {st : List Value} {a : Nat} : ev d 4 7 L (.ref a :: st) h = if mK h a = 8 then ev d 4 10 L (.int (mI h a 5) :: st) h else none := ev_gI d_4_7 (by decide +kernel) (by decide +kernel)
theorem d_4_10 : decode (cd 4) 10 = .ok (.if_icmp .ge 128, 3) := by rw [cd_4]; decide +kernel
theorem e_4_10 {d : Nat} {h : mM} {L : mLs} {st : List Value} {x y : Int32} : ev d 4 10 L (.int y :: .int x :: st) h = if y ≤ x then ev d 4 138 L st h else ev d 4 13 L st h := ev_ic (y ≤ x) inferInstance rfl d_4_10 (by decide)
theorem d_4_13 : decode (cd 4) 13 = .ok (.aload_n 0, 1) := by rw [cd_4]; decide +kernel
theorem e_4_13 {d : Nat} {h : mM} {T : mLs} {x : Nat} {st : List Value} : ev d 4 13 ( some (.ref x) :: T) st h = ev d 4 14 ( some (.ref x) :: T) (.ref x :: st) h := ev_of d_4_13 rfl
theorem d_4_14 : decode (cd 4) 14 = .ok (.getfield 28, 3) := by rw [cd_4]; decide +kernel
theorem e_4_14 {d : Nat} {h : mM} {L : mLs} {st : List Value} {a : Nat} : ev d 4 14 L (.ref a :: st) h = if mK h a = 1 then oB (mR h a 0) (fun b => ev d 4 17 L (.ref b :: st) h) else none := ev_gR d_4_14 (by decide +kernel) (by decide +kernel)
theorem d_4_17 : decode (cd 4) 17 = .ok (.getfield 68, 3) := by rw [cd_4]; decide +kernel
theorem e_4_17 {d : Nat} {h : mM} {L : mLs} {st : List Value} {a : Nat} : ev d 4 17 L (.ref a :: st) h = if mK h a = 8 then oB (mR h a 1) (fun b => ev d 4 20 L (.ref b :: st) h) else none := ev_gR d_4_17 (by decide +kernel) (by decide +kernel)
theorem d_4_20 : decode (cd 4) 20 = .ok (.iload_n 2, 1) := by rw [cd_4]; decide +kernel
theorem e_4_20 {d : Nat} {h : mM} {o0 o1 : Option Value} {T : mLs} {x : Int32} {st : List Value} : ev d 4 20 (o0 :: o1 :: some (.int x) :: T) st h = ev d 4 21 (o0 :: o1 :: some (.int x) :: T) (.int x :: st) h := ev_of d_4_20 rfl
theorem d_4_21 : decode (cd 4) 21 = .ok (.aaload, 1) := by rw [cd_4]; decide +kernel
theorem e_4_21 {d : Nat} {h : mM} {L : mLs} {st : List Value} {a : Nat} {i : Int32} : ev d 4 21 L (.int i :: .ref a :: st) h = if (12 < mK h a ∧ mK h a < 19) ∧ ixOK i (mL h a) = true then oB (mR h a i.toNatClampNeg) (fun b => ev d 4 22 L (.ref b :: st) h) else none := ev_aa d_4_21
theorem d_4_22 : decode (cd 4) 22 = .ok (.astore_n 3, 1) := by rw [cd_4]; decide +kernel
theorem e_4_22 {d : Nat} {h : mM} {o0 o1 o2 o3 : Option Value} {T : mLs} {x : Nat} {st : List Value} (hl : mLong o2 = false) : ev d 4 22 (o0 :: o1 :: o2 :: o3 :: T) (.ref x :: st) h = ev d 4 23 (o0 :: o1 :: o2 :: some (.ref x) :: T) st h := ev_st_rn d_4_22 (by decide +kernel) (mS1_s (j := 2) hl)
theorem d_4_23 : decode (cd 4) 23 = .ok (.aload_n 0, 1) := by rw [cd_4]; decide +kernel
theorem e_4_23 {d : Nat} {h : mM} {T : mLs} {x : Nat} {st : List Value} : ev d 4 23 ( some (.ref x) :: T) st h = ev d 4 24 ( some (.ref x) :: T) (.ref x :: st) h := ev_of d_4_23 rfl
theorem d_4_24 : decode (cd 4) 24 = .ok (.getfield 28, 3) := by rw [cd_4]; decide +kernel
theorem e_4_24 {d : Nat} {h : mM} {L : mLs} {st : List Value} {a : Nat} : ev d 4 24 L (.ref a :: st) h = if mK h a = 1 then oB (mR h a 0) (fun b => ev d 4 27 L (.ref b :: st) h) else none := ev_gR d_4_24 (by decide +kernel) (by decide +kernel)
theorem d_4_27 : decode (cd 4) 27 = .ok (.getfield 52, 3) := by rw [cd_4]; decide +kernel
theorem e_4_27 {d : Nat} {h : mM} {L : mLs} {st : List Value} {a : Nat} : ev d 4 27 L (.ref a :: st) h = if mK h a = 8 then oB (mR h a 0) (fun b => ev d 4 30 L (.ref b :: st) h) else none := ev_gR d_4_27 (by decide +kernel) (by decide +kernel)
theorem d_4_30 : decode (cd 4) 30 = .ok (.aload_n 3, 1) := by rw [cd_4]; decide +kernel
theorem e_4_30 {d : Nat} {h : mM} {o0 o1 o2 : Option Value} {T : mLs} {x : Nat} {st : List Value} : ev d 4 30 (o0 :: o1 :: o2 :: some (.ref x) :: T) st h = ev d 4 31 (o0 :: o1 :: o2 :: some (.ref x) :: T) (.ref x :: st) h := ev_of d_4_30 rfl
theorem d_4_31 : decode (cd 4) 31 = .ok (.getfield 72, 3) := by rw [cd_4]; decide +kernel
theorem e_4_31 {d : Nat} {h : mM} {L : mLs} {st : List Value} {a : Nat} : ev d 4 31 L (.ref a :: st) h = if mK h a = 0 then ev d 4 34 L (.int (mI h a 0) :: st) h else none := ev_gI d_4_31 (by decide +kernel) (by decide +kernel)
theorem d_4_34 : decode (cd 4) 34 = .ok (.aaload, 1) := by rw [cd_4]; decide +kernel
theorem e_4_34 {d : Nat} {h : mM} {L : mLs} {st : List Value} {a : Nat} {i : Int32} : ev d 4 34 L (.int i :: .ref a :: st) h = if (12 < mK h a ∧ mK h a < 19) ∧ ixOK i (mL h a) = true then oB (mR h a i.toNatClampNeg) (fun b => ev d 4 35 L (.ref b :: st) h) else none := ev_aa d_4_34
theorem d_4_35 : decode (cd 4) 35 = .ok (.aload_n 1, 1) := by rw [cd_4]; decide +kernel
theorem e_4_35 {d : Nat} {h : mM} {o0 : Option Value} {T : mLs} {x : Nat} {st : List Value} : ev d 4 35 (o0 :: some (.ref x) :: T) st h = ev d 4 36 (o0 :: some (.ref x) :: T) (.ref x :: st) h := ev_of d_4_35 rfl
theorem d_4_36 : decode (cd 4) 36 = .ok (.aload_n 3, 1) := by rw [cd_4]; decide +kernel
theorem e_4_36 {d : Nat} {h : mM} {o0 o1 o2 : Option Value} {T : mLs} {x : Nat} {st : List Value} : ev d 4 36 (o0 :: o1 :: o2 :: some (.ref x) :: T) st h = ev d 4 37 (o0 :: o1 :: o2 :: some (.ref x) :: T) (.ref x :: st) h := ev_of d_4_36 rfl
theorem d_4_37 : decode (cd 4) 37 = .ok (.getfield 72, 3) := by rw [cd_4]; decide +kernel
theorem e_4_37 {d : Nat} {h : mM} {L : mLs} {st : List Value} {a : Nat} : ev d 4 37 L (.ref a :: st) h = if mK h a = 0 then ev d 4 40 L (.int (mI h a 0) :: st) h else none := ev_gI d_4_37 (by decide +kernel) (by decide +kernel)
theorem d_4_40 : decode (cd 4) 40 = .ok (.iaload, 1) := by rw [cd_4]; decide +kernel
theorem e_4_40 {d : Nat} {h : mM} {L : mLs} {st : List Value} {a : Nat} {i : Int32} : ev d 4 40 L (.int i :: .ref a :: st) h = if (mK h a = 11 ∨ mK h a = 19) ∧ ixOK i (mL h a) = true then ev d 4 41 L (.int (mI h a i.toNatClampNeg) :: st) h else none := ev_ia d_4_40
theorem d_4_41 : decode (cd 4) 41 = .ok (.invokevirtual 77, 3) := by rw [cd_4]; decide +kernel
theorem e_4_41 {d : Nat} {h : mM} {L : mLs} {st : List Value} {a : Nat} {x0 : Int32} (hc : mCat st ≤ 8) : ev (d + 1) 4 41 L (.int x0 :: .ref a :: st) h = if mK h a = 3 then cV (ev d 16 0 [some (.ref a), some (.int x0)] [] h) (fun v h1 => ev (d + 1) 4 44 L (v ++ st) h1) else none := ev_cv (mj := 16) (as := [.int x0]) (rest := st) d_4_41 (by decide +kernel) rfl rfl (by show _ ≤ List.length _; simp only [List.length_cons]; have : na 16 = 1 := rfl; omega) rfl (Nat.le_of_ble_eq_true rfl) hc
theorem d_4_44 : decode (cd 4) 44 = .ok (.istore 4, 2) := by rw [cd_4]; decide +kernel
theorem e_4_44 {d : Nat} {h : mM} {o0 o1 o2 o3 o4 : Option Value} {T : mLs} {x : Int32} {st : List Value} (hl : mLong o3 = false) : ev d 4 44 (o0 :: o1 :: o2 :: o3 :: o4 :: T) (.int x :: st) h = ev d 4 46 (o0 :: o1 :: o2 :: o3 :: some (.int x) :: T) st h := ev_st_i d_4_44 (by decide +kernel) (mS1_s (j := 3) hl)
theorem d_4_46 : decode (cd 4) 46 = .ok (.aload_n 0, 1) := by rw [cd_4]; decide +kernel
theorem e_4_46 {d : Nat} {h : mM} {T : mLs} {x : Nat} {st : List Value} : ev d 4 46 ( some (.ref x) :: T) st h = ev d 4 47 ( some (.ref x) :: T) (.ref x :: st) h := ev_of d_4_46 rfl
theorem d_4_47 : decode (cd 4) 47 = .ok (.getfield 28, 3) := by rw [cd_4]; decide +kernel
theorem e_4_47 {d : Nat} {h : mM} {L : mLs} {st : List Value} {a : Nat} : ev d 4 47 L (.ref a :: st) h = if mK h a = 1 then oB (mR h a 0) (fun b => ev d 4 50 L (.ref b :: st) h) else none := ev_gR d_4_47 (by decide +kernel) (by decide +kernel)
theorem d_4_50 : decode (cd 4) 50 = .ok (.getfield 52, 3) := by rw [cd_4]; decide +kernel
theorem e_4_50 {d : Nat} {h : mM} {L : mLs} {st : List Value} {a : Nat} : ev d 4 50 L (.ref a :: st) h = if mK h a = 8 then oB (mR h a 0) (fun b => ev d 4 53 L (.ref b :: st) h) else none := ev_gR d_4_50 (by decide +kernel) (by decide +kernel)
theorem d_4_53 : decode (cd 4) 53 = .ok (.aload_n 3, 1) := by rw [cd_4]; decide +kernel
theorem e_4_53 {d : Nat} {h : mM} {o0 o1 o2 : Option Value} {T : mLs} {x : Nat} {st : List Value} : ev d 4 53 (o0 :: o1 :: o2 :: some (.ref x) :: T) st h = ev d 4 54 (o0 :: o1 :: o2 :: some (.ref x) :: T) (.ref x :: st) h := ev_of d_4_53 rfl
theorem d_4_54 : decode (cd 4) 54 = .ok (.getfield 81, 3) := by rw [cd_4]; decide +kernel
theorem e_4_54 {d : Nat} {h : mM} {L : mLs} {st : List Value} {a : Nat} : ev d 4 54 L (.ref a :: st) h = if mK h a = 0 then ev d 4 57 L (.int (mI h a 1) :: st) h else none := ev_gI d_4_54 (by decide +kernel) (by decide +kernel)
theorem d_4_57 : decode (cd 4) 57 = .ok (.aaload, 1) := by rw [cd_4]; decide +kernel
theorem e_4_57 {d : Nat} {h : mM} {L : mLs} {st : List Value} {a : Nat} {i : Int32} : ev d 4 57 L (.int i :: .ref a :: st) h = if (12 < mK h a ∧ mK h a < 19) ∧ ixOK i (mL h a) = true then oB (mR h a i.toNatClampNeg) (fun b => ev d 4 58 L (.ref b :: st) h) else none := ev_aa d_4_57
theorem d_4_58 : decode (cd 4) 58 = .ok (.aload_n 1, 1) := by rw [cd_4]; decide +kernel
theorem e_4_58 {d : Nat} {h : mM} {o0 : Option Value} {T : mLs} {x : Nat} {st : List Value} : ev d 4 58 (o0 :: some (.ref x) :: T) st h = ev d 4 59 (o0 :: some (.ref x) :: T) (.ref x :: st) h := ev_of d_4_58 rfl
theorem d_4_59 : decode (cd 4) 59 = .ok (.aload_n 3, 1) := by rw [cd_4]; decide +kernel
theorem e_4_59 {d : Nat} {h : mM} {o0 o1 o2 : Option Value} {T : mLs} {x : Nat} {st : List Value} : ev d 4 59 (o0 :: o1 :: o2 :: some (.ref x) :: T) st h = ev d 4 60 (o0 :: o1 :: o2 :: some (.ref x) :: T) (.ref x :: st) h := ev_of d_4_59 rfl
theorem d_4_60 : decode (cd 4) 60 = .ok (.getfield 81, 3) := by rw [cd_4]; decide +kernel
theorem e_4_60 {d : Nat} {h : mM} {L : mLs} {st : List Value} {a : Nat} : ev d 4 60 L (.ref a :: st) h = if mK h a = 0 then ev d 4 63 L (.int (mI h a 1) :: st) h else none := ev_gI d_4_60 (by decide +kernel) (by decide +kernel)
theorem d_4_63 : decode (cd 4) 63 = .ok (.iaload, 1) := by rw [cd_4]; decide +kernel
theorem e_4_63 {d : Nat} {h : mM} {L : mLs} {st : List Value} {a : Nat} {i : Int32} : ev d 4 63 L (.int i :: .ref a :: st) h = if (mK h a = 11 ∨ mK h a = 19) ∧ ixOK i (mL h a) = true then ev d 4 64 L (.int (mI h a i.toNatClampNeg) :: st) h else none := ev_ia d_4_63
theorem d_4_64 : decode (cd 4) 64 = .ok (.invokevirtual 77, 3) := by rw [cd_4]; decide +kernel
theorem e_4_64 {d : Nat} {h : mM} {L : mLs} {st : List Value} {a : Nat} {x0 : Int32} (hc : mCat st ≤ 8) : ev (d + 1) 4 64 L (.int x0 :: .ref a :: st) h = if mK h a = 3 then cV (ev d 16 0 [some (.ref a), some (.int x0)] [] h) (fun v h1 => ev (d + 1) 4 67 L (v ++ st) h1) else none := ev_cv (mj := 16) (as := [.int x0]) (rest := st) d_4_64 (by decide +kernel) rfl rfl (by show _ ≤ List.length _; simp only [List.length_cons]; have : na 16 = 1 := rfl; omega) rfl (Nat.le_of_ble_eq_true rfl) hc
theorem d_4_67 : decode (cd 4) 67 = .ok (.istore 5, 2) := by rw [cd_4]; decide +kernel
theorem e_4_67 {d : Nat} {h : mM} {o0 o1 o2 o3 o4 o5 : Option Value} {T : mLs} {x : Int32} {st : List Value} (hl : mLong o4 = false) : ev d 4 67 (o0 :: o1 :: o2 :: o3 :: o4 :: o5 :: T) (.int x :: st) h = ev d 4 69 (o0 :: o1 :: o2 :: o3 :: o4 :: some (.int x) :: T) st h := ev_st_i d_4_67 (by decide +kernel) (mS1_s (j := 4) hl)
theorem d_4_69 : decode (cd 4) 69 = .ok (.iload 4, 2) := by rw [cd_4]; decide +kernel
theorem e_4_69 {d : Nat} {h : mM} {o0 o1 o2 o3 : Option Value} {T : mLs} {x : Int32} {st : List Value} : ev d 4 69 (o0 :: o1 :: o2 :: o3 :: some (.int x) :: T) st h = ev d 4 71 (o0 :: o1 :: o2 :: o3 :: some (.int x) :: T) (.int x :: st) h := ev_of d_4_69 rfl
theorem d_4_71 : decode (cd 4) 71 = .ok (.iload 5, 2) := by rw [cd_4]; decide +kernel
theorem e_4_71 {d : Nat} {h : mM} {o0 o1 o2 o3 o4 : Option Value} {T : mLs} {x : Int32} {st : List Value} : ev d 4 71 (o0 :: o1 :: o2 :: o3 :: o4 :: some (.int x) :: T) st h = ev d 4 73 (o0 :: o1 :: o2 :: o3 :: o4 :: some (.int x) :: T) (.int x :: st) h := ev_of d_4_71 rfl
theorem d_4_73 : decode (cd 4) 73 = .ok (.if_icmp .le 29, 3) := by rw [cd_4]; decide +kernel
theorem e_4_73 {d : Nat} {h : mM} {L : mLs} {st : List Value} {x y : Int32} : ev d 4 73 L (.int y :: .int x :: st) h = if x ≤ y then ev d 4 102 L st h else ev d 4 76 L st h := ev_ic (x ≤ y) inferInstance rfl d_4_73 (by decide)
theorem d_4_76 : decode (cd 4) 76 = .ok (.aload_n 0, 1) := by rw [cd_4]; decide +kernel
theorem e_4_76 {d : Nat} {h : mM} {T : mLs} {x : Nat} {st : List Value} : ev d 4 76 ( some (.ref x) :: T) st h = ev d 4 77 ( some (.ref x) :: T) (.ref x :: st) h := ev_of d_4_76 rfl
theorem d_4_77 : decode (cd 4) 77 = .ok (.aload_n 1, 1) := by rw [cd_4]; decide +kernel
theorem e_4_77 {d : Nat} {h : mM} {o0 : Option Value} {T : mLs} {x : Nat} {st : List Value} : ev d 4 77 (o0 :: some (.ref x) :: T) st h = ev d 4 78 (o0 :: some (.ref x) :: T) (.ref x :: st) h := ev_of d_4_77 rfl
theorem d_4_78 : decode (cd 4) 78 = .ok (.aload_n 3, 1) := by rw [cd_4]; decide +kernel
theorem e_4_78 {d : Nat} {h : mM} {o0 o1 o2 : Option Value} {T : mLs} {x : Nat} {st : List Value} : ev d 4 78 (o0 :: o1 :: o2 :: some (.ref x) :: T) st h = ev d 4 79 (o0 :: o1 :: o2 :: some (.ref x) :: T) (.ref x :: st) h := ev_of d_4_78 rfl
theorem d_4_79 : decode (cd 4) 79 = .ok (.getfield 72, 3) := by rw [cd_4]; decide +kernel
theorem e_4_79 {d : Nat} {h : mM} {L : mLs} {st : List Value} {a : Nat} : ev d 4 79 L (.ref a :: st) h = if mK h a = 0 then ev d 4 82 L (.int (mI h a 0) :: st) h else none := ev_gI d_4_79 (by decide +kernel) (by decide +kernel)
theorem d_4_82 : decode (cd 4) 82 = .ok (.aload_n 3, 1) := by rw [cd_4]; decide +kernel
theorem e_4_82 {d : Nat} {h : mM} {o0 o1 o2 : Option Value} {T : mLs} {x : Nat} {st : List Value} : ev d 4 82 (o0 :: o1 :: o2 :: some (.ref x) :: T) st h = ev d 4 83 (o0 :: o1 :: o2 :: some (.ref x) :: T) (.ref x :: st) h := ev_of d_4_82 rfl
theorem d_4_83 : decode (cd 4) 83 = .ok (.getfield 81, 3) := by rw [cd_4]; decide +kernel
theorem e_4_83 {d : Nat} {h : mM} {L : mLs} {st : List Value} {a : Nat} : ev d 4 83 L (.ref a :: st) h = if mK h a = 0 then ev d 4 86 L (.int (mI h a 1) :: st) h else none := ev_gI d_4_83 (by decide +kernel) (by decide +kernel)
theorem d_4_86 : decode (cd 4) 86 = .ok (.aload_n 3, 1) := by rw [cd_4]; decide +kernel
theorem e_4_86 {d : Nat} {h : mM} {o0 o1 o2 : Option Value} {T : mLs} {x : Nat} {st : List Value} : ev d 4 86 (o0 :: o1 :: o2 :: some (.ref x) :: T) st h = ev d 4 87 (o0 :: o1 :: o2 :: some (.ref x) :: T) (.ref x :: st) h := ev_of d_4_86 rfl
theorem d_4_87 : decode (cd 4) 87 = .ok (.getfield 84, 3) := by rw [cd_4]; decide +kernel
theorem e_4_87 {d : Nat} {h : mM} {L : mLs} {st : List Value} {a : Nat} : ev d 4 87 L (.ref a :: st) h = if mK h a = 0 then ev d 4 90 L (.int (mI h a 2) :: st) h else none := ev_gI d_4_87 (by decide +kernel) (by decide +kernel)
theorem d_4_90 : decode (cd 4) 90 = .ok (.iload 4, 2) := by rw [cd_4]; decide +kernel
theorem e_4_90 {d : Nat} {h : mM} {o0 o1 o2 o3 : Option Value} {T : mLs} {x : Int32} {st : List Value} : ev d 4 90 (o0 :: o1 :: o2 :: o3 :: some (.int x) :: T) st h = ev d 4 92 (o0 :: o1 :: o2 :: o3 :: some (.int x) :: T) (.int x :: st) h := ev_of d_4_90 rfl
theorem d_4_92 : decode (cd 4) 92 = .ok (.iload 5, 2) := by rw [cd_4]; decide +kernel
theorem e_4_92 {d : Nat} {h : mM} {o0 o1 o2 o3 o4 : Option Value} {T : mLs} {x : Int32} {st : List Value} : ev d 4 92 (o0 :: o1 :: o2 :: o3 :: o4 :: some (.int x) :: T) st h = ev d 4 94 (o0 :: o1 :: o2 :: o3 :: o4 :: some (.int x) :: T) (.int x :: st) h := ev_of d_4_92 rfl
theorem d_4_94 : decode (cd 4) 94 = .ok (.isub, 1) := by rw [cd_4]; decide +kernel
theorem e_4_94 {d : Nat} {h : mM} {L : mLs} {st : List Value} {x y : Int32} : ev d 4 94 L (.int y :: .int x :: st) h = ev d 4 95 L (.int (x - y) :: st) h := ev_of d_4_94 rfl
theorem d_4_95 : decode (cd 4) 95 = .ok (.imul, 1) := by rw [cd_4]; decide +kernel
theorem e_4_95 {d : Nat} {h : mM} {L : mLs} {st : List Value} {x y : Int32} : ev d 4 95 L (.int y :: .int x :: st) h = ev d 4 96 L (.int (x * y) :: st) h := ev_of d_4_95 rfl
theorem d_4_96 : decode (cd 4) 96 = .ok (.invokevirtual 87, 3) := by rw [cd_4]; decide +kernel
theorem e_4_96 {d : Nat} {h : mM} {L : mLs} {st : List Value} {a : Nat} {x0 : Nat} {x1 : Int32} {x2 : Int32} {x3 : Int32} (hc : mCat st ≤ 8) : ev (d + 1) 4 96 L (.int x3 :: .int x2 :: .int x1 :: .ref x0 :: .ref a :: st) h = if mK h a = 1 then cV (ev d 5 0 [some (.ref a), some (.ref x0), some (.int x1), some (.int x2), some (.int x3), none, none, none, none, none] [] h) (fun v h1 => ev (d + 1) 4 99 L (v ++ st) h1) else none := ev_cv (mj := 5) (as := [.ref x0, .int x1, .int x2, .int x3]) (rest := st) d_4_96 (by decide +kernel) rfl rfl (by show _ ≤ List.length _; simp only [List.length_cons]; have : na 5 = 4 := rfl; omega) rfl (Nat.le_of_ble_eq_true rfl) hc
theorem d_4_99 : decode (cd 4) 99 = .ok (.goto 33, 3) := by rw [cd_4]; decide +kernel
theorem e_4_99 {d : Nat} {h : mM} {L : mLs} {st : List Value} : ev d 4 99 L st h = ev d 4 132 L st h := ev_go d_4_99 (by decide)
theorem d_4_102 : decode (cd 4) 102 = .ok (.iload 5, 2) := by rw [cd_4]; decide +kernel
theorem e_4_102 {d : Nat} {h : mM} {o0 o1 o2 o3 o4 : Option Value} {T : mLs} {x : Int32} {st : List Value} : ev d 4 102 (o0 :: o1 :: o2 :: o3 :: o4 :: some (.int x) :: T) st h = ev d 4 104 (o0 :: o1 :: o2 :: o3 :: o4 :: some (.int x) :: T) (.int x :: st) h := ev_of d_4_102 rfl
theorem d_4_104 : decode (cd 4) 104 = .ok (.iload 4, 2) := by rw [cd_4]; decide +kernel
theorem e_4_104 {d : Nat} {h : mM} {o0 o1 o2 o3 : Option Value} {T : mLs} {x : Int32} {st : List Value} : ev d 4 104 (o0 :: o1 :: o2 :: o3 :: some (.int x) :: T) st h = ev d 4 106 (o0 :: o1 :: o2 :: o3 :: some (.int x) :: T) (.int x :: st) h := ev_of d_4_104 rfl
theorem d_4_106 : decode (cd 4) 106 = .ok (.if_icmp .le 26, 3) := by rw [cd_4]; decide +kernel
theorem e_4_106 {d : Nat} {h : mM} {L : mLs} {st : List Value} {x y : Int32} : ev d 4 106 L (.int y :: .int x :: st) h = if x ≤ y then ev d 4 132 L st h else ev d 4 109 L st h := ev_ic (x ≤ y) inferInstance rfl d_4_106 (by decide)
theorem d_4_109 : decode (cd 4) 109 = .ok (.aload_n 0, 1) := by rw [cd_4]; decide +kernel
theorem e_4_109 {d : Nat} {h : mM} {T : mLs} {x : Nat} {st : List Value} : ev d 4 109 ( some (.ref x) :: T) st h = ev d 4 110 ( some (.ref x) :: T) (.ref x :: st) h := ev_of d_4_109 rfl
theorem d_4_110 : decode (cd 4) 110 = .ok (.aload_n 1, 1) := by rw [cd_4]; decide +kernel
theorem e_4_110 {d : Nat} {h : mM} {o0 : Option Value} {T : mLs} {x : Nat} {st : List Value} : ev d 4 110 (o0 :: some (.ref x) :: T) st h = ev d 4 111 (o0 :: some (.ref x) :: T) (.ref x :: st) h := ev_of d_4_110 rfl
theorem d_4_111 : decode (cd 4) 111 = .ok (.aload_n 3, 1) := by rw [cd_4]; decide +kernel
theorem e_4_111 {d : Nat} {h : mM} {o0 o1 o2 : Option Value} {T : mLs} {x : Nat} {st : List Value} : ev d 4 111 (o0 :: o1 :: o2 :: some (.ref x) :: T) st h = ev d 4 112 (o0 :: o1 :: o2 :: some (.ref x) :: T) (.ref x :: st) h := ev_of d_4_111 rfl
theorem d_4_112 : decode (cd 4) 112 = .ok (.getfield 81, 3) := by rw [cd_4]; decide +kernel
theorem e_4_112 {d : Nat} {h : mM} {L : mLs} {st : List Value} {a : Nat} : ev d 4 112 L (.ref a :: st) h = if mK h a = 0 then ev d 4 115 L (.int (mI h a 1) :: st) h else none := ev_gI d_4_112 (by decide +kernel) (by decide +kernel)
theorem d_4_115 : decode (cd 4) 115 = .ok (.aload_n 3, 1) := by rw [cd_4]; decide +kernel
theorem e_4_115 {d : Nat} {h : mM} {o0 o1 o2 : Option Value} {T : mLs} {x : Nat} {st : List Value} : ev d 4 115 (o0 :: o1 :: o2 :: some (.ref x) :: T) st h = ev d 4 116 (o0 :: o1 :: o2 :: some (.ref x) :: T) (.ref x :: st) h := ev_of d_4_115 rfl
theorem d_4_116 : decode (cd 4) 116 = .ok (.getfield 72, 3) := by rw [cd_4]; decide +kernel
theorem e_4_116 {d : Nat} {h : mM} {L : mLs} {st : List Value} {a : Nat} : ev d 4 116 L (.ref a :: st) h = if mK h a = 0 then ev d 4 119 L (.int (mI h a 0) :: st) h else none := ev_gI d_4_116 (by decide +kernel) (by decide +kernel)
theorem d_4_119 : decode (cd 4) 119 = .ok (.aload_n 3, 1) := by rw [cd_4]; decide +kernel
theorem e_4_119 {d : Nat} {h : mM} {o0 o1 o2 : Option Value} {T : mLs} {x : Nat} {st : List Value} : ev d 4 119 (o0 :: o1 :: o2 :: some (.ref x) :: T) st h = ev d 4 120 (o0 :: o1 :: o2 :: some (.ref x) :: T) (.ref x :: st) h := ev_of d_4_119 rfl
theorem d_4_120 : decode (cd 4) 120 = .ok (.getfield 84, 3) := by rw [cd_4]; decide +kernel
theorem e_4_120 {d : Nat} {h : mM} {L : mLs} {st : List Value} {a : Nat} : ev d 4 120 L (.ref a :: st) h = if mK h a = 0 then ev d 4 123 L (.int (mI h a 2) :: st) h else none := ev_gI d_4_120 (by decide +kernel) (by decide +kernel)
theorem d_4_123 : decode (cd 4) 123 = .ok (.iload 5, 2) := by rw [cd_4]; decide +kernel
theorem e_4_123 {d : Nat} {h : mM} {o0 o1 o2 o3 o4 : Option Value} {T : mLs} {x : Int32} {st : List Value} : ev d 4 123 (o0 :: o1 :: o2 :: o3 :: o4 :: some (.int x) :: T) st h = ev d 4 125 (o0 :: o1 :: o2 :: o3 :: o4 :: some (.int x) :: T) (.int x :: st) h := ev_of d_4_123 rfl
theorem d_4_125 : decode (cd 4) 125 = .ok (.iload 4, 2) := by rw [cd_4]; decide +kernel
theorem e_4_125 {d : Nat} {h : mM} {o0 o1 o2 o3 : Option Value} {T : mLs} {x : Int32} {st : List Value} : ev d 4 125 (o0 :: o1 :: o2 :: o3 :: some (.int x) :: T) st h = ev d 4 127 (o0 :: o1 :: o2 :: o3 :: some (.int x) :: T) (.int x :: st) h := ev_of d_4_125 rfl
theorem d_4_127 : decode (cd 4) 127 = .ok (.isub, 1) := by rw [cd_4]; decide +kernel
theorem e_4_127 {d : Nat} {h : mM} {L : mLs} {st : List Value} {x y : Int32} : ev d 4 127 L (.int y :: .int x :: st) h = ev d 4 128 L (.int (x - y) :: st) h := ev_of d_4_127 rfl
theorem d_4_128 : decode (cd 4) 128 = .ok (.imul, 1) := by rw [cd_4]; decide +kernel
theorem e_4_128 {d : Nat} {h : mM} {L : mLs} {st : List Value} {x y : Int32} : ev d 4 128 L (.int y :: .int x :: st) h = ev d 4 129 L (.int (x * y) :: st) h := ev_of d_4_128 rfl
theorem d_4_129 : decode (cd 4) 129 = .ok (.invokevirtual 87, 3) := by rw [cd_4]; decide +kernel
theorem e_4_129 {d : Nat} {h : mM} {L : mLs} {st : List Value} {a : Nat} {x0 : Nat} {x1 : Int32} {x2 : Int32} {x3 : Int32} (hc : mCat st ≤ 8) : ev (d + 1) 4 129 L (.int x3 :: .int x2 :: .int x1 :: .ref x0 :: .ref a :: st) h = if mK h a = 1 then cV (ev d 5 0 [some (.ref a), some (.ref x0), some (.int x1), some (.int x2), some (.int x3), none, none, none, none, none] [] h) (fun v h1 => ev (d + 1) 4 132 L (v ++ st) h1) else none := ev_cv (mj := 5) (as := [.ref x0, .int x1, .int x2, .int x3]) (rest := st) d_4_129 (by decide +kernel) rfl rfl (by show _ ≤ List.length _; simp only [List.length_cons]; have : na 5 = 4 := rfl; omega) rfl (Nat.le_of_ble_eq_true rfl) hc
theorem d_4_132 : decode (cd 4) 132 = .ok (.iinc 2 1, 3) := by rw [cd_4]; decide +kernel
theorem e_4_132 {d : Nat} {h : mM} {o0 o1 : Option Value} {T : mLs} {x : Int32} {st : List Value} (hl : mLong o1 = false) : ev d 4 132 (o0 :: o1 :: some (.int x) :: T) st h = ev d 4 135 (o0 :: o1 :: some (.int (x + 1)) :: T) st h := ev_inc d_4_132 (by decide +kernel) rfl rfl (mS1_s (j := 1) hl)
theorem d_4_135 : decode (cd 4) 135 = .ok (.goto (-133), 3) := by rw [cd_4]; decide +kernel
theorem e_4_135 {d : Nat} {h : mM} {L : mLs} {st : List Value} : ev d 4 135 L st h = ev d 4 2 L st h := ev_go d_4_135 (by decide)
theorem d_4_138 : decode (cd 4) 138 = .ok (.return_, 1) := by rw [cd_4]; decide +kernel
theorem e_4_138 {d : Nat} {h : mM} {L : mLs} : ev d 4 138 L [] h = some (none, h) := ev_rv d_4_138 (by decide +kernel)
-- 5: Flow.lead
theorem cd_5 : cd 5 = prog_3_method_5_code := rfl
theorem d_5_0 : decode (cd 5) 0 = .ok (.aload_n 0, 1) := by rw [cd_5]; decide +kernel
theorem e_5_0 {d : Nat} {h : mM} {T : mLs} {x : Nat} {st : List Value} : ev d 5 0 ( some (.ref x) :: T) st h = ev d 5 1 ( some (.ref x) :: T) (.ref x :: st) h := ev_of d_5_0 rfl
theorem d_5_1 : decode (cd 5) 1 = .ok (.getfield 28, 3) := by rw [cd_5]; decide +kernel
theorem e_5_1 {d : Nat} {h : mM} {L : mLs} {st : List Value} {a : Nat} : ev d 5 1 L (.ref a :: st) h = if mK h a = 1 then oB (mR h a 0) (fun b => ev d 5 4 L (.ref b :: st) h) else none := ev_gR d_5_1 (by decide +kernel) (by decide +kernel)
theorem d_5_4 : decode (cd 5) 4 = .ok (.getfield 52, 3) := by rw [cd_5]; decide +kernel
theorem e_5_4 {d : Nat} {h : mM} {L : mLs} {st : List Value} {a : Nat} : ev d 5 4 L (.ref a :: st) h = if mK h a = 8 then oB (mR h a 0) (fun b => ev d 5 7 L (.ref b :: st) h) else none := ev_gR d_5_4 (by decide +kernel) (by decide +kernel)
theorem d_5_7 : decode (cd 5) 7 = .ok (.iload_n 2, 1) := by rw [cd_5]; decide +kernel
theorem e_5_7 {d : Nat} {h : mM} {o0 o1 : Option Value} {T : mLs} {x : Int32} {st : List Value} : ev d 5 7 (o0 :: o1 :: some (.int x) :: T) st h = ev d 5 8 (o0 :: o1 :: some (.int x) :: T) (.int x :: st) h := ev_of d_5_7 rfl
theorem d_5_8 : decode (cd 5) 8 = .ok (.aaload, 1) := by rw [cd_5]; decide +kernel
theorem e_5_8 {d : Nat} {h : mM} {L : mLs} {st : List Value} {a : Nat} {i : Int32} : ev d 5 8 L (.int i :: .ref a :: st) h = if (12 < mK h a ∧ mK h a < 19) ∧ ixOK i (mL h a) = true then oB (mR h a i.toNatClampNeg) (fun b => ev d 5 9 L (.ref b :: st) h) else none := ev_aa d_5_8
theorem d_5_9 : decode (cd 5) 9 = .ok (.getfield 91, 3) := by rw [cd_5]; decide +kernel
theorem e_5_9 {d : Nat} {h : mM} {L : mLs} {st : List Value} {a : Nat} : ev d 5 9 L (.ref a :: st) h = if mK h a = 3 then ev d 5 12 L (.int (mI h a 0) :: st) h else none := ev_gI d_5_9 (by decide +kernel) (by decide +kernel)
theorem d_5_12 : decode (cd 5) 12 = .ok (.istore 5, 2) := by rw [cd_5]; decide +kernel
theorem e_5_12 {d : Nat} {h : mM} {o0 o1 o2 o3 o4 o5 : Option Value} {T : mLs} {x : Int32} {st : List Value} (hl : mLong o4 = false) : ev d 5 12 (o0 :: o1 :: o2 :: o3 :: o4 :: o5 :: T) (.int x :: st) h = ev d 5 14 (o0 :: o1 :: o2 :: o3 :: o4 :: some (.int x) :: T) st h := ev_st_i d_5_12 (by decide +kernel) (mS1_s (j := 4) hl)
theorem d_5_14 : decode (cd 5) 14 = .ok (.aload_n 0, 1) := by rw [cd_5]; decide +kernel
theorem e_5_14 {d : Nat} {h : mM} {T : mLs} {x : Nat} {st : List Value} : ev d 5 14 ( some (.ref x) :: T) st h = ev d 5 15 ( some (.ref x) :: T) (.ref x :: st) h := ev_of d_5_14 rfl
theorem d_5_15 : decode (cd 5) 15 = .ok (.getfield 28, 3) := by rw [cd_5]; decide +kernel
theorem e_5_15 {d : Nat} {h : mM} {L : mLs} {st : List Value} {a : Nat} : ev d 5 15 L (.ref a :: st) h = if mK h a = 1 then oB (mR h a 0) (fun b => ev d 5 18 L (.ref b :: st) h) else none := ev_gR d_5_15 (by decide +kernel) (by decide +kernel)
theorem d_5_18 : decode (cd 5) 18 = .ok (.getfield 52, 3) := by rw [cd_5]; decide +kernel
theorem e_5_18 {d : Nat} {h : mM} {L : mLs} {st : List Value} {a : Nat} : ev d 5 18 L (.ref a :: st) h = if mK h a = 8 then oB (mR h a 0) (fun b => ev d 5 21 L (.ref b :: st) h) else none := ev_gR d_5_18 (by decide +kernel) (by decide +kernel)
theorem d_5_21 : decode (cd 5) 21 = .ok (.iload_n 3, 1) := by rw [cd_5]; decide +kernel
theorem e_5_21 {d : Nat} {h : mM} {o0 o1 o2 : Option Value} {T : mLs} {x : Int32} {st : List Value} : ev d 5 21 (o0 :: o1 :: o2 :: some (.int x) :: T) st h = ev d 5 22 (o0 :: o1 :: o2 :: some (.int x) :: T) (.int x :: st) h := ev_of d_5_21 rfl
theorem d_5_22 : decode (cd 5) 22 = .ok (.aaload, 1) := by rw [cd_5]; decide +kernel
theorem e_5_22 {d : Nat} {h : mM} {L : mLs} {st : List Value} {a : Nat} {i : Int32} : ev d 5 22 L (.int i :: .ref a :: st) h = if (12 < mK h a ∧ mK h a < 19) ∧ ixOK i (mL h a) = true then oB (mR h a i.toNatClampNeg) (fun b => ev d 5 23 L (.ref b :: st) h) else none := ev_aa d_5_22
theorem d_5_23 : decode (cd 5) 23 = .ok (.getfield 91, 3) := by rw [cd_5]; decide +kernel
theorem e_5_23 {d : Nat} {h : mM} {L : mLs} {st : List Value} {a : Nat} : ev d 5 23 L (.ref a :: st) h = if mK h a = 3 then ev d 5 26 L (.int (mI h a 0) :: st) h else none := ev_gI d_5_23 (by decide +kernel) (by decide +kernel)
theorem d_5_26 : decode (cd 5) 26 = .ok (.istore 6, 2) := by rw [cd_5]; decide +kernel
theorem e_5_26 {d : Nat} {h : mM} {o0 o1 o2 o3 o4 o5 o6 : Option Value} {T : mLs} {x : Int32} {st : List Value} (hl : mLong o5 = false) : ev d 5 26 (o0 :: o1 :: o2 :: o3 :: o4 :: o5 :: o6 :: T) (.int x :: st) h = ev d 5 28 (o0 :: o1 :: o2 :: o3 :: o4 :: o5 :: some (.int x) :: T) st h := ev_st_i d_5_26 (by decide +kernel) (mS1_s (j := 5) hl)
theorem d_5_28 : decode (cd 5) 28 = .ok (.iload 5, 2) := by rw [cd_5]; decide +kernel
theorem e_5_28 {d : Nat} {h : mM} {o0 o1 o2 o3 o4 : Option Value} {T : mLs} {x : Int32} {st : List Value} : ev d 5 28 (o0 :: o1 :: o2 :: o3 :: o4 :: some (.int x) :: T) st h = ev d 5 30 (o0 :: o1 :: o2 :: o3 :: o4 :: some (.int x) :: T) (.int x :: st) h := ev_of d_5_28 rfl
theorem d_5_30 : decode (cd 5) 30 = .ok (.iload 6, 2) := by rw [cd_5]; decide +kernel
theorem e_5_30 {d : Nat} {h : mM} {o0 o1 o2 o3 o4 o5 : Option Value} {T : mLs} {x : Int32} {st : List Value} : ev d 5 30 (o0 :: o1 :: o2 :: o3 :: o4 :: o5 :: some (.int x) :: T) st h = ev d 5 32 (o0 :: o1 :: o2 :: o3 :: o4 :: o5 :: some (.int x) :: T) (.int x :: st) h := ev_of d_5_30 rfl
theorem d_5_32 : decode (cd 5) 32 = .ok (.iadd, 1) := by rw [cd_5]; decide +kernel
theorem e_5_32 {d : Nat} {h : mM} {L : mLs} {st : List Value} {x y : Int32} : ev d 5 32 L (.int y :: .int x :: st) h = ev d 5 33 L (.int (x + y) :: st) h := ev_of d_5_32 rfl
theorem d_5_33 : decode (cd 5) 33 = .ok (.istore 7, 2) := by rw [cd_5]; decide +kernel
theorem e_5_33 {d : Nat} {h : mM} {o0 o1 o2 o3 o4 o5 o6 o7 : Option Value} {T : mLs} {x : Int32} {st : List Value} (hl : mLong o6 = false) : ev d 5 33 (o0 :: o1 :: o2 :: o3 :: o4 :: o5 :: o6 :: o7 :: T) (.int x :: st) h = ev d 5 35 (o0 :: o1 :: o2 :: o3 :: o4 :: o5 :: o6 :: some (.int x) :: T) st h := ev_st_i d_5_33 (by decide +kernel) (mS1_s (j := 6) hl)
theorem d_5_35 : decode (cd 5) 35 = .ok (.iload 7, 2) := by rw [cd_5]; decide +kernel
theorem e_5_35 {d : Nat} {h : mM} {o0 o1 o2 o3 o4 o5 o6 : Option Value} {T : mLs} {x : Int32} {st : List Value} : ev d 5 35 (o0 :: o1 :: o2 :: o3 :: o4 :: o5 :: o6 :: some (.int x) :: T) st h = ev d 5 37 (o0 :: o1 :: o2 :: o3 :: o4 :: o5 :: o6 :: some (.int x) :: T) (.int x :: st) h := ev_of d_5_35 rfl
theorem d_5_37 : decode (cd 5) 37 = .ok (.ifCond .le 22, 3) := by rw [cd_5]; decide +kernel
theorem e_5_37 {d : Nat} {h : mM} {L : mLs} {st : List Value} {x : Int32} : ev d 5 37 L (.int x :: st) h = if x ≤ 0 then ev d 5 59 L st h else ev d 5 40 L st h := ev_if (x ≤ 0) inferInstance rfl d_5_37 (by decide)
theorem d_5_40 : decode (cd 5) 40 = .ok (.aload_n 1, 1) := by rw [cd_5]; decide +kernel
theorem e_5_40 {d : Nat} {h : mM} {o0 : Option Value} {T : mLs} {x : Nat} {st : List Value} : ev d 5 40 (o0 :: some (.ref x) :: T) st h = ev d 5 41 (o0 :: some (.ref x) :: T) (.ref x :: st) h := ev_of d_5_40 rfl
theorem d_5_41 : decode (cd 5) 41 = .ok (.iload_n 2, 1) := by rw [cd_5]; decide +kernel
theorem e_5_41 {d : Nat} {h : mM} {o0 o1 : Option Value} {T : mLs} {x : Int32} {st : List Value} : ev d 5 41 (o0 :: o1 :: some (.int x) :: T) st h = ev d 5 42 (o0 :: o1 :: some (.int x) :: T) (.int x :: st) h := ev_of d_5_41 rfl
theorem d_5_42 : decode (cd 5) 42 = .ok (.iaload, 1) := by rw [cd_5]; decide +kernel
theorem e_5_42 {d : Nat} {h : mM} {L : mLs} {st : List Value} {a : Nat} {i : Int32} : ev d 5 42 L (.int i :: .ref a :: st) h = if (mK h a = 11 ∨ mK h a = 19) ∧ ixOK i (mL h a) = true then ev d 5 43 L (.int (mI h a i.toNatClampNeg) :: st) h else none := ev_ia d_5_42
theorem d_5_43 : decode (cd 5) 43 = .ok (.iload 6, 2) := by rw [cd_5]; decide +kernel
theorem e_5_43 {d : Nat} {h : mM} {o0 o1 o2 o3 o4 o5 : Option Value} {T : mLs} {x : Int32} {st : List Value} : ev d 5 43 (o0 :: o1 :: o2 :: o3 :: o4 :: o5 :: some (.int x) :: T) st h = ev d 5 45 (o0 :: o1 :: o2 :: o3 :: o4 :: o5 :: some (.int x) :: T) (.int x :: st) h := ev_of d_5_43 rfl
theorem d_5_45 : decode (cd 5) 45 = .ok (.imul, 1) := by rw [cd_5]; decide +kernel
theorem e_5_45 {d : Nat} {h : mM} {L : mLs} {st : List Value} {x y : Int32} : ev d 5 45 L (.int y :: .int x :: st) h = ev d 5 46 L (.int (x * y) :: st) h := ev_of d_5_45 rfl
theorem d_5_46 : decode (cd 5) 46 = .ok (.aload_n 1, 1) := by rw [cd_5]; decide +kernel
theorem e_5_46 {d : Nat} {h : mM} {o0 : Option Value} {T : mLs} {x : Nat} {st : List Value} : ev d 5 46 (o0 :: some (.ref x) :: T) st h = ev d 5 47 (o0 :: some (.ref x) :: T) (.ref x :: st) h := ev_of d_5_46 rfl
theorem d_5_47 : decode (cd 5) 47 = .ok (.iload_n 3, 1) := by rw [cd_5]; decide +kernel
theorem e_5_47 {d : Nat} {h : mM} {o0 o1 o2 : Option Value} {T : mLs} {x : Int32} {st : List Value} : ev d 5 47 (o0 :: o1 :: o2 :: some (.int x) :: T) st h = ev d 5 48 (o0 :: o1 :: o2 :: some (.int x) :: T) (.int x :: st) h := ev_of d_5_47 rfl
theorem d_5_48 : decode (cd 5) 48 = .ok (.iaload, 1) := by rw [cd_5]; decide +kernel
theorem e_5_48 {d : Nat} {h : mM} {L : mLs} {st : List Value} {a : Nat} {i : Int32} : ev d 5 48 L (.int i :: .ref a :: st) h = if (mK h a = 11 ∨ mK h a = 19) ∧ ixOK i (mL h a) = true then ev d 5 49 L (.int (mI h a i.toNatClampNeg) :: st) h else none := ev_ia d_5_48
theorem d_5_49 : decode (cd 5) 49 = .ok (.iload 5, 2) := by rw [cd_5]; decide +kernel
theorem e_5_49 {d : Nat} {h : mM} {o0 o1 o2 o3 o4 : Option Value} {T : mLs} {x : Int32} {st : List Value} : ev d 5 49 (o0 :: o1 :: o2 :: o3 :: o4 :: some (.int x) :: T) st h = ev d 5 51 (o0 :: o1 :: o2 :: o3 :: o4 :: some (.int x) :: T) (.int x :: st) h := ev_of d_5_49 rfl
theorem d_5_51 : decode (cd 5) 51 = .ok (.imul, 1) := by rw [cd_5]; decide +kernel
theorem e_5_51 {d : Nat} {h : mM} {L : mLs} {st : List Value} {x y : Int32} : ev d 5 51 L (.int y :: .int x :: st) h = ev d 5 52 L (.int (x * y) :: st) h := ev_of d_5_51 rfl
theorem d_5_52 : decode (cd 5) 52 = .ok (.isub, 1) := by rw [cd_5]; decide +kernel
theorem e_5_52 {d : Nat} {h : mM} {L : mLs} {st : List Value} {x y : Int32} : ev d 5 52 L (.int y :: .int x :: st) h = ev d 5 53 L (.int (x - y) :: st) h := ev_of d_5_52 rfl
theorem d_5_53 : decode (cd 5) 53 = .ok (.iload 7, 2) := by rw [cd_5]; decide +kernel
theorem e_5_53 {d : Nat} {h : mM} {o0 o1 o2 o3 o4 o5 o6 : Option Value} {T : mLs} {x : Int32} {st : List Value} : ev d 5 53 (o0 :: o1 :: o2 :: o3 :: o4 :: o5 :: o6 :: some (.int x) :: T) st h = ev d 5 55 (o0 :: o1 :: o2 :: o3 :: o4 :: o5 :: o6 :: some (.int x) :: T) (.int x :: st) h := ev_of d_5_53 rfl
theorem d_5_55 : decode (cd 5) 55 = .ok (.idiv, 1) := by rw [cd_5]; decide +kernel
theorem e_5_55 {d : Nat} {h : mM} {L : mLs} {st : List Value} {x y : Int32} : ev d 5 55 L (.int y :: .int x :: st) h = if y = 0 then none else ev d 5 56 L (.int (x / y) :: st) h := ev_div d_5_55
theorem d_5_56 : decode (cd 5) 56 = .ok (.goto 4, 3) := by rw [cd_5]; decide +kernel
theorem e_5_56 {d : Nat} {h : mM} {L : mLs} {st : List Value} : ev d 5 56 L st h = ev d 5 60 L st h := ev_go d_5_56 (by decide)
theorem d_5_59 : decode (cd 5) 59 = .ok (.iconst 0, 1) := by rw [cd_5]; decide +kernel
theorem e_5_59 {d : Nat} {h : mM} {L : mLs} {st : List Value} : ev d 5 59 L st h = ev d 5 60 L (.int 0 :: st) h := ev_of d_5_59 rfl
theorem d_5_60 : decode (cd 5) 60 = .ok (.istore 8, 2) := by rw [cd_5]; decide +kernel
theorem e_5_60 {d : Nat} {h : mM} {o0 o1 o2 o3 o4 o5 o6 o7 o8 : Option Value} {T : mLs} {x : Int32} {st : List Value} (hl : mLong o7 = false) : ev d 5 60 (o0 :: o1 :: o2 :: o3 :: o4 :: o5 :: o6 :: o7 :: o8 :: T) (.int x :: st) h = ev d 5 62 (o0 :: o1 :: o2 :: o3 :: o4 :: o5 :: o6 :: o7 :: some (.int x) :: T) st h := ev_st_i d_5_60 (by decide +kernel) (mS1_s (j := 7) hl)
theorem d_5_62 : decode (cd 5) 62 = .ok (.iload 4, 2) := by rw [cd_5]; decide +kernel
theorem e_5_62 {d : Nat} {h : mM} {o0 o1 o2 o3 : Option Value} {T : mLs} {x : Int32} {st : List Value} : ev d 5 62 (o0 :: o1 :: o2 :: o3 :: some (.int x) :: T) st h = ev d 5 64 (o0 :: o1 :: o2 :: o3 :: some (.int x) :: T) (.int x :: st) h := ev_of d_5_62 rfl
theorem d_5_64 : decode (cd 5) 64 = .ok (.iload 8, 2) := by rw [cd_5]; decide +kernel
theorem e_5_64 {d : Nat} {h : mM} {o0 o1 o2 o3 o4 o5 o6 o7 : Option Value} {T : mLs} {x : Int32} {st : List Value} : ev d 5 64 (o0 :: o1 :: o2 :: o3 :: o4 :: o5 :: o6 :: o7 :: some (.int x) :: T) st h = ev d 5 66 (o0 :: o1 :: o2 :: o3 :: o4 :: o5 :: o6 :: o7 :: some (.int x) :: T) (.int x :: st) h := ev_of d_5_64 rfl
theorem d_5_66 : decode (cd 5) 66 = .ok (.invokestatic 94, 3) := by rw [cd_5]; decide +kernel
theorem e_5_66 {d : Nat} {h : mM} {L : mLs} {st : List Value} {x y : Int32} (hc : mCat st ≤ 8) : ev d 5 66 L (.int y :: .int x :: st) h = ev d 5 69 L (.int (if y < x then y else x) :: st) h := ev_min (mj := 0) d_5_66 (by decide +kernel) hc
theorem d_5_69 : decode (cd 5) 69 = .ok (.istore 9, 2) := by rw [cd_5]; decide +kernel
theorem e_5_69 {d : Nat} {h : mM} {o0 o1 o2 o3 o4 o5 o6 o7 o8 o9 : Option Value} {T : mLs} {x : Int32} {st : List Value} (hl : mLong o8 = false) : ev d 5 69 (o0 :: o1 :: o2 :: o3 :: o4 :: o5 :: o6 :: o7 :: o8 :: o9 :: T) (.int x :: st) h = ev d 5 71 (o0 :: o1 :: o2 :: o3 :: o4 :: o5 :: o6 :: o7 :: o8 :: some (.int x) :: T) st h := ev_st_i d_5_69 (by decide +kernel) (mS1_s (j := 8) hl)
theorem d_5_71 : decode (cd 5) 71 = .ok (.aload_n 1, 1) := by rw [cd_5]; decide +kernel
theorem e_5_71 {d : Nat} {h : mM} {o0 : Option Value} {T : mLs} {x : Nat} {st : List Value} : ev d 5 71 (o0 :: some (.ref x) :: T) st h = ev d 5 72 (o0 :: some (.ref x) :: T) (.ref x :: st) h := ev_of d_5_71 rfl
theorem d_5_72 : decode (cd 5) 72 = .ok (.iload_n 2, 1) := by rw [cd_5]; decide +kernel
theorem e_5_72 {d : Nat} {h : mM} {o0 o1 : Option Value} {T : mLs} {x : Int32} {st : List Value} : ev d 5 72 (o0 :: o1 :: some (.int x) :: T) st h = ev d 5 73 (o0 :: o1 :: some (.int x) :: T) (.int x :: st) h := ev_of d_5_72 rfl
theorem d_5_73 : decode (cd 5) 73 = .ok (.dup2, 1) := by rw [cd_5]; decide +kernel
theorem e_5_73 {d : Nat} {h : mM} {L : mLs} {st : List Value} {a : Nat} {i : Int32} : ev d 5 73 L (.int i :: .ref a :: st) h = ev d 5 74 L (.int i :: .ref a :: .int i :: .ref a :: st) h := ev_of d_5_73 rfl
theorem d_5_74 : decode (cd 5) 74 = .ok (.iaload, 1) := by rw [cd_5]; decide +kernel
theorem e_5_74 {d : Nat} {h : mM} {L : mLs} {st : List Value} {a : Nat} {i : Int32} : ev d 5 74 L (.int i :: .ref a :: st) h = if (mK h a = 11 ∨ mK h a = 19) ∧ ixOK i (mL h a) = true then ev d 5 75 L (.int (mI h a i.toNatClampNeg) :: st) h else none := ev_ia d_5_74
theorem d_5_75 : decode (cd 5) 75 = .ok (.iload 9, 2) := by rw [cd_5]; decide +kernel
theorem e_5_75 {d : Nat} {h : mM} {o0 o1 o2 o3 o4 o5 o6 o7 o8 : Option Value} {T : mLs} {x : Int32} {st : List Value} : ev d 5 75 (o0 :: o1 :: o2 :: o3 :: o4 :: o5 :: o6 :: o7 :: o8 :: some (.int x) :: T) st h = ev d 5 77 (o0 :: o1 :: o2 :: o3 :: o4 :: o5 :: o6 :: o7 :: o8 :: some (.int x) :: T) (.int x :: st) h := ev_of d_5_75 rfl
theorem d_5_77 : decode (cd 5) 77 = .ok (.isub, 1) := by rw [cd_5]; decide +kernel
theorem e_5_77 {d : Nat} {h : mM} {L : mLs} {st : List Value} {x y : Int32} : ev d 5 77 L (.int y :: .int x :: st) h = ev d 5 78 L (.int (x - y) :: st) h := ev_of d_5_77 rfl
theorem d_5_78 : decode (cd 5) 78 = .ok (.iastore, 1) := by rw [cd_5]; decide +kernel
theorem e_5_78 {d : Nat} {h : mM} {L : mLs} {st : List Value} {a : Nat} {i v : Int32} : ev d 5 78 L (.int v :: .int i :: .ref a :: st) h = if mK h a = 11 ∧ ixOK i (mL h a) = true then ev d 5 79 L st (wI h a i.toNatClampNeg v) else none := ev_is d_5_78
theorem d_5_79 : decode (cd 5) 79 = .ok (.aload_n 1, 1) := by rw [cd_5]; decide +kernel
theorem e_5_79 {d : Nat} {h : mM} {o0 : Option Value} {T : mLs} {x : Nat} {st : List Value} : ev d 5 79 (o0 :: some (.ref x) :: T) st h = ev d 5 80 (o0 :: some (.ref x) :: T) (.ref x :: st) h := ev_of d_5_79 rfl
theorem d_5_80 : decode (cd 5) 80 = .ok (.iload_n 3, 1) := by rw [cd_5]; decide +kernel
theorem e_5_80 {d : Nat} {h : mM} {o0 o1 o2 : Option Value} {T : mLs} {x : Int32} {st : List Value} : ev d 5 80 (o0 :: o1 :: o2 :: some (.int x) :: T) st h = ev d 5 81 (o0 :: o1 :: o2 :: some (.int x) :: T) (.int x :: st) h := ev_of d_5_80 rfl
theorem d_5_81 : decode (cd 5) 81 = .ok (.dup2, 1) := by rw [cd_5]; decide +kernel
theorem e_5_81 {d : Nat} {h : mM} {L : mLs} {st : List Value} {a : Nat} {i : Int32} : ev d 5 81 L (.int i :: .ref a :: st) h = ev d 5 82 L (.int i :: .ref a :: .int i :: .ref a :: st) h := ev_of d_5_81 rfl
theorem d_5_82 : decode (cd 5) 82 = .ok (.iaload, 1) := by rw [cd_5]; decide +kernel
theorem e_5_82 {d : Nat} {h : mM} {L : mLs} {st : List Value} {a : Nat} {i : Int32} : ev d 5 82 L (.int i :: .ref a :: st) h = if (mK h a = 11 ∨ mK h a = 19) ∧ ixOK i (mL h a) = true then ev d 5 83 L (.int (mI h a i.toNatClampNeg) :: st) h else none := ev_ia d_5_82
theorem d_5_83 : decode (cd 5) 83 = .ok (.iload 9, 2) := by rw [cd_5]; decide +kernel
theorem e_5_83 {d : Nat} {h : mM} {o0 o1 o2 o3 o4 o5 o6 o7 o8 : Option Value} {T : mLs} {x : Int32} {st : List Value} : ev d 5 83 (o0 :: o1 :: o2 :: o3 :: o4 :: o5 :: o6 :: o7 :: o8 :: some (.int x) :: T) st h = ev d 5 85 (o0 :: o1 :: o2 :: o3 :: o4 :: o5 :: o6 :: o7 :: o8 :: some (.int x) :: T) (.int x :: st) h := ev_of d_5_83 rfl
theorem d_5_85 : decode (cd 5) 85 = .ok (.iadd, 1) := by rw [cd_5]; decide +kernel
theorem e_5_85 {d : Nat} {h : mM} {L : mLs} {st : List Value} {x y : Int32} : ev d 5 85 L (.int y :: .int x :: st) h = ev d 5 86 L (.int (x + y) :: st) h := ev_of d_5_85 rfl
theorem d_5_86 : decode (cd 5) 86 = .ok (.iastore, 1) := by rw [cd_5]; decide +kernel
theorem e_5_86 {d : Nat} {h : mM} {L : mLs} {st : List Value} {a : Nat} {i v : Int32} : ev d 5 86 L (.int v :: .int i :: .ref a :: st) h = if mK h a = 11 ∧ ixOK i (mL h a) = true then ev d 5 87 L st (wI h a i.toNatClampNeg v) else none := ev_is d_5_86
theorem d_5_87 : decode (cd 5) 87 = .ok (.return_, 1) := by rw [cd_5]; decide +kernel
theorem e_5_87 {d : Nat} {h : mM} {L : mLs} : ev d 5 87 L [] h = some (none, h) := ev_rv d_5_87 (by decide +kernel)
-- 6: Flow.runMills
theorem cd_6 : cd 6 = prog_3_method_6_code := rfl
theorem d_6_0 : decode (cd 6) 0 = .ok (.iconst 0, 1) := by rw [cd_6]; decide +kernel
theorem e_6_0 {d : Nat} {h : mM} {L : mLs} {st : List Value} : ev d 6 0 L st h = ev d 6 1 L (.int 0 :: st) h := ev_of d_6_0 rfl
theorem d_6_1 : decode (cd 6) 1 = .ok (.istore 4, 2) := by rw [cd_6]; decide +kernel
theorem e_6_1 {d : Nat} {h : mM} {o0 o1 o2 o3 o4 : Option Value} {T : mLs} {x : Int32} {st : List Value} (hl : mLong o3 = false) : ev d 6 1 (o0 :: o1 :: o2 :: o3 :: o4 :: T) (.int x :: st) h = ev d 6 3 (o0 :: o1 :: o2 :: o3 :: some (.int x) :: T) st h := ev_st_i d_6_1 (by decide +kernel) (mS1_s (j := 3) hl)
theorem d_6_3 : decode (cd 6) 3 = .ok (.iload 4, 2) := by rw [cd_6]; decide +kernel
theorem e_6_3 {d : Nat} {h : mM} {o0 o1 o2 o3 : Option Value} {T : mLs} {x : Int32} {st : List Value} : ev d 6 3 (o0 :: o1 :: o2 :: o3 :: some (.int x) :: T) st h = ev d 6 5 (o0 :: o1 :: o2 :: o3 :: some (.int x) :: T) (.int x :: st) h := ev_of d_6_3 rfl
theorem d_6_5 : decode (cd 6) 5 = .ok (.bipush 12, 2) := by rw [cd_6]; decide +kernel
theorem e_6_5 {d : Nat} {h : mM} {L : mLs} {st : List Value} : ev d 6 5 L st h = ev d 6 7 L (.int 12 :: st) h := ev_of d_6_5 rfl
theorem d_6_7 : decode (cd 6) 7 = .ok (.if_icmp .ge 17, 3) := by rw [cd_6]; decide +kernel
theorem e_6_7 {d : Nat} {h : mM} {L : mLs} {st : List Value} {x y : Int32} : ev d 6 7 L (.int y :: .int x :: st) h = if y ≤ x then ev d 6 24 L st h else ev d 6 10 L st h := ev_ic (y ≤ x) inferInstance rfl d_6_7 (by decide)
theorem d_6_10 : decode (cd 6) 10 = .ok (.aload_n 0, 1) := by rw [cd_6]; decide +kernel
theorem e_6_10 {d : Nat} {h : mM} {T : mLs} {x : Nat} {st : List Value} : ev d 6 10 ( some (.ref x) :: T) st h = ev d 6 11 ( some (.ref x) :: T) (.ref x :: st) h := ev_of d_6_10 rfl
theorem d_6_11 : decode (cd 6) 11 = .ok (.getfield 9, 3) := by rw [cd_6]; decide +kernel
theorem e_6_11 {d : Nat} {h : mM} {L : mLs} {st : List Value} {a : Nat} : ev d 6 11 L (.ref a :: st) h = if mK h a = 1 then oB (mR h a 1) (fun b => ev d 6 14 L (.ref b :: st) h) else none := ev_gR d_6_11 (by decide +kernel) (by decide +kernel)
theorem d_6_14 : decode (cd 6) 14 = .ok (.iload 4, 2) := by rw [cd_6]; decide +kernel
theorem e_6_14 {d : Nat} {h : mM} {o0 o1 o2 o3 : Option Value} {T : mLs} {x : Int32} {st : List Value} : ev d 6 14 (o0 :: o1 :: o2 :: o3 :: some (.int x) :: T) st h = ev d 6 16 (o0 :: o1 :: o2 :: o3 :: some (.int x) :: T) (.int x :: st) h := ev_of d_6_14 rfl
theorem d_6_16 : decode (cd 6) 16 = .ok (.iconst 0, 1) := by rw [cd_6]; decide +kernel
theorem e_6_16 {d : Nat} {h : mM} {L : mLs} {st : List Value} : ev d 6 16 L st h = ev d 6 17 L (.int 0 :: st) h := ev_of d_6_16 rfl
theorem d_6_17 : decode (cd 6) 17 = .ok (.iastore, 1) := by rw [cd_6]; decide +kernel
theorem e_6_17 {d : Nat} {h : mM} {L : mLs} {st : List Value} {a : Nat} {i v : Int32} : ev d 6 17 L (.int v :: .int i :: .ref a :: st) h = if mK h a = 11 ∧ ixOK i (mL h a) = true then ev d 6 18 L st (wI h a i.toNatClampNeg v) else none := ev_is d_6_17
theorem d_6_18 : decode (cd 6) 18 = .ok (.iinc 4 1, 3) := by rw [cd_6]; decide +kernel
theorem e_6_18 {d : Nat} {h : mM} {o0 o1 o2 o3 : Option Value} {T : mLs} {x : Int32} {st : List Value} (hl : mLong o3 = false) : ev d 6 18 (o0 :: o1 :: o2 :: o3 :: some (.int x) :: T) st h = ev d 6 21 (o0 :: o1 :: o2 :: o3 :: some (.int (x + 1)) :: T) st h := ev_inc d_6_18 (by decide +kernel) rfl rfl (mS1_s (j := 3) hl)
theorem d_6_21 : decode (cd 6) 21 = .ok (.goto (-18), 3) := by rw [cd_6]; decide +kernel
theorem e_6_21 {d : Nat} {h : mM} {L : mLs} {st : List Value} : ev d 6 21 L st h = ev d 6 3 L st h := ev_go d_6_21 (by decide)
theorem d_6_24 : decode (cd 6) 24 = .ok (.iconst 0, 1) := by rw [cd_6]; decide +kernel
theorem e_6_24 {d : Nat} {h : mM} {L : mLs} {st : List Value} : ev d 6 24 L st h = ev d 6 25 L (.int 0 :: st) h := ev_of d_6_24 rfl
theorem d_6_25 : decode (cd 6) 25 = .ok (.istore 4, 2) := by rw [cd_6]; decide +kernel
theorem e_6_25 {d : Nat} {h : mM} {o0 o1 o2 o3 o4 : Option Value} {T : mLs} {x : Int32} {st : List Value} (hl : mLong o3 = false) : ev d 6 25 (o0 :: o1 :: o2 :: o3 :: o4 :: T) (.int x :: st) h = ev d 6 27 (o0 :: o1 :: o2 :: o3 :: some (.int x) :: T) st h := ev_st_i d_6_25 (by decide +kernel) (mS1_s (j := 3) hl)
theorem d_6_27 : decode (cd 6) 27 = .ok (.iload 4, 2) := by rw [cd_6]; decide +kernel
theorem e_6_27 {d : Nat} {h : mM} {o0 o1 o2 o3 : Option Value} {T : mLs} {x : Int32} {st : List Value} : ev d 6 27 (o0 :: o1 :: o2 :: o3 :: some (.int x) :: T) st h = ev d 6 29 (o0 :: o1 :: o2 :: o3 :: some (.int x) :: T) (.int x :: st) h := ev_of d_6_27 rfl
theorem d_6_29 : decode (cd 6) 29 = .ok (.aload_n 0, 1) := by rw [cd_6]; decide +kernel
theorem e_6_29 {d : Nat} {h : mM} {T : mLs} {x : Nat} {st : List Value} : ev d 6 29 ( some (.ref x) :: T) st h = ev d 6 30 ( some (.ref x) :: T) (.ref x :: st) h := ev_of d_6_29 rfl
theorem d_6_30 : decode (cd 6) 30 = .ok (.getfield 28, 3) := by rw [cd_6]; decide +kernel
theorem e_6_30 {d : Nat} {h : mM} {L : mLs} {st : List Value} {a : Nat} : ev d 6 30 L (.ref a :: st) h = if mK h a = 1 then oB (mR h a 0) (fun b => ev d 6 33 L (.ref b :: st) h) else none := ev_gR d_6_30 (by decide +kernel) (by decide +kernel)
theorem d_6_33 : decode (cd 6) 33 = .ok (.getfield 99, 3) := by rw [cd_6]; decide +kernel
theorem e_6_33 {d : Nat} {h : mM} {L : mLs} {st : List Value} {a : Nat} : ev d 6 33 L (.ref a :: st) h = if mK h a = 8 then ev d 6 36 L (.int (mI h a 6) :: st) h else none := ev_gI d_6_33 (by decide +kernel) (by decide +kernel)
theorem d_6_36 : decode (cd 6) 36 = .ok (.if_icmp .ge 35, 3) := by rw [cd_6]; decide +kernel
theorem e_6_36 {d : Nat} {h : mM} {L : mLs} {st : List Value} {x y : Int32} : ev d 6 36 L (.int y :: .int x :: st) h = if y ≤ x then ev d 6 71 L st h else ev d 6 39 L st h := ev_ic (y ≤ x) inferInstance rfl d_6_36 (by decide)
theorem d_6_39 : decode (cd 6) 39 = .ok (.aload_n 0, 1) := by rw [cd_6]; decide +kernel
theorem e_6_39 {d : Nat} {h : mM} {T : mLs} {x : Nat} {st : List Value} : ev d 6 39 ( some (.ref x) :: T) st h = ev d 6 40 ( some (.ref x) :: T) (.ref x :: st) h := ev_of d_6_39 rfl
theorem d_6_40 : decode (cd 6) 40 = .ok (.getfield 28, 3) := by rw [cd_6]; decide +kernel
theorem e_6_40 {d : Nat} {h : mM} {L : mLs} {st : List Value} {a : Nat} : ev d 6 40 L (.ref a :: st) h = if mK h a = 1 then oB (mR h a 0) (fun b => ev d 6 43 L (.ref b :: st) h) else none := ev_gR d_6_40 (by decide +kernel) (by decide +kernel)
theorem d_6_43 : decode (cd 6) 43 = .ok (.getfield 102, 3) := by rw [cd_6]; decide +kernel
theorem e_6_43 {d : Nat} {h : mM} {L : mLs} {st : List Value} {a : Nat} : ev d 6 43 L (.ref a :: st) h = if mK h a = 8 then oB (mR h a 3) (fun b => ev d 6 46 L (.ref b :: st) h) else none := ev_gR d_6_43 (by decide +kernel) (by decide +kernel)
theorem d_6_46 : decode (cd 6) 46 = .ok (.iload 4, 2) := by rw [cd_6]; decide +kernel
theorem e_6_46 {d : Nat} {h : mM} {o0 o1 o2 o3 : Option Value} {T : mLs} {x : Int32} {st : List Value} : ev d 6 46 (o0 :: o1 :: o2 :: o3 :: some (.int x) :: T) st h = ev d 6 48 (o0 :: o1 :: o2 :: o3 :: some (.int x) :: T) (.int x :: st) h := ev_of d_6_46 rfl
theorem d_6_48 : decode (cd 6) 48 = .ok (.iaload, 1) := by rw [cd_6]; decide +kernel
theorem e_6_48 {d : Nat} {h : mM} {L : mLs} {st : List Value} {a : Nat} {i : Int32} : ev d 6 48 L (.int i :: .ref a :: st) h = if (mK h a = 11 ∨ mK h a = 19) ∧ ixOK i (mL h a) = true then ev d 6 49 L (.int (mI h a i.toNatClampNeg) :: st) h else none := ev_ia d_6_48
theorem d_6_49 : decode (cd 6) 49 = .ok (.istore 5, 2) := by rw [cd_6]; decide +kernel
theorem e_6_49 {d : Nat} {h : mM} {o0 o1 o2 o3 o4 o5 : Option Value} {T : mLs} {x : Int32} {st : List Value} (hl : mLong o4 = false) : ev d 6 49 (o0 :: o1 :: o2 :: o3 :: o4 :: o5 :: T) (.int x :: st) h = ev d 6 51 (o0 :: o1 :: o2 :: o3 :: o4 :: some (.int x) :: T) st h := ev_st_i d_6_49 (by decide +kernel) (mS1_s (j := 4) hl)
theorem d_6_51 : decode (cd 6) 51 = .ok (.iload 5, 2) := by rw [cd_6]; decide +kernel
theorem e_6_51 {d : Nat} {h : mM} {o0 o1 o2 o3 o4 : Option Value} {T : mLs} {x : Int32} {st : List Value} : ev d 6 51 (o0 :: o1 :: o2 :: o3 :: o4 :: some (.int x) :: T) st h = ev d 6 53 (o0 :: o1 :: o2 :: o3 :: o4 :: some (.int x) :: T) (.int x :: st) h := ev_of d_6_51 rfl
theorem d_6_53 : decode (cd 6) 53 = .ok (.iload_n 3, 1) := by rw [cd_6]; decide +kernel
theorem e_6_53 {d : Nat} {h : mM} {o0 o1 o2 : Option Value} {T : mLs} {x : Int32} {st : List Value} : ev d 6 53 (o0 :: o1 :: o2 :: some (.int x) :: T) st h = ev d 6 54 (o0 :: o1 :: o2 :: some (.int x) :: T) (.int x :: st) h := ev_of d_6_53 rfl
theorem d_6_54 : decode (cd 6) 54 = .ok (.if_icmp .eq 11, 3) := by rw [cd_6]; decide +kernel
theorem e_6_54 {d : Nat} {h : mM} {L : mLs} {st : List Value} {x y : Int32} : ev d 6 54 L (.int y :: .int x :: st) h = if x = y then ev d 6 65 L st h else ev d 6 57 L st h := ev_ic (x = y) inferInstance rfl d_6_54 (by decide)
theorem d_6_57 : decode (cd 6) 57 = .ok (.aload_n 0, 1) := by rw [cd_6]; decide +kernel
theorem e_6_57 {d : Nat} {h : mM} {T : mLs} {x : Nat} {st : List Value} : ev d 6 57 ( some (.ref x) :: T) st h = ev d 6 58 ( some (.ref x) :: T) (.ref x :: st) h := ev_of d_6_57 rfl
theorem d_6_58 : decode (cd 6) 58 = .ok (.aload_n 1, 1) := by rw [cd_6]; decide +kernel
theorem e_6_58 {d : Nat} {h : mM} {o0 : Option Value} {T : mLs} {x : Nat} {st : List Value} : ev d 6 58 (o0 :: some (.ref x) :: T) st h = ev d 6 59 (o0 :: some (.ref x) :: T) (.ref x :: st) h := ev_of d_6_58 rfl
theorem d_6_59 : decode (cd 6) 59 = .ok (.iload_n 2, 1) := by rw [cd_6]; decide +kernel
theorem e_6_59 {d : Nat} {h : mM} {o0 o1 : Option Value} {T : mLs} {x : Int32} {st : List Value} : ev d 6 59 (o0 :: o1 :: some (.int x) :: T) st h = ev d 6 60 (o0 :: o1 :: some (.int x) :: T) (.int x :: st) h := ev_of d_6_59 rfl
theorem d_6_60 : decode (cd 6) 60 = .ok (.iload 5, 2) := by rw [cd_6]; decide +kernel
theorem e_6_60 {d : Nat} {h : mM} {o0 o1 o2 o3 o4 : Option Value} {T : mLs} {x : Int32} {st : List Value} : ev d 6 60 (o0 :: o1 :: o2 :: o3 :: o4 :: some (.int x) :: T) st h = ev d 6 62 (o0 :: o1 :: o2 :: o3 :: o4 :: some (.int x) :: T) (.int x :: st) h := ev_of d_6_60 rfl
theorem d_6_62 : decode (cd 6) 62 = .ok (.invokevirtual 105, 3) := by rw [cd_6]; decide +kernel
theorem e_6_62 {d : Nat} {h : mM} {L : mLs} {st : List Value} {a : Nat} {x0 : Nat} {x1 : Int32} {x2 : Int32} (hc : mCat st ≤ 8) : ev (d + 1) 6 62 L (.int x2 :: .int x1 :: .ref x0 :: .ref a :: st) h = if mK h a = 1 then cV (ev d 7 0 [some (.ref a), some (.ref x0), some (.int x1), some (.int x2), none, none, none, none, none, none, none] [] h) (fun v h1 => ev (d + 1) 6 65 L (v ++ st) h1) else none := ev_cv (mj := 7) (as := [.ref x0, .int x1, .int x2]) (rest := st) d_6_62 (by decide +kernel) rfl rfl (by show _ ≤ List.length _; simp only [List.length_cons]; have : na 7 = 3 := rfl; omega) rfl (Nat.le_of_ble_eq_true rfl) hc
theorem d_6_65 : decode (cd 6) 65 = .ok (.iinc 4 1, 3) := by rw [cd_6]; decide +kernel
theorem e_6_65 {d : Nat} {h : mM} {o0 o1 o2 o3 : Option Value} {T : mLs} {x : Int32} {st : List Value} (hl : mLong o3 = false) : ev d 6 65 (o0 :: o1 :: o2 :: o3 :: some (.int x) :: T) st h = ev d 6 68 (o0 :: o1 :: o2 :: o3 :: some (.int (x + 1)) :: T) st h := ev_inc d_6_65 (by decide +kernel) rfl rfl (mS1_s (j := 3) hl)
theorem d_6_68 : decode (cd 6) 68 = .ok (.goto (-41), 3) := by rw [cd_6]; decide +kernel
theorem e_6_68 {d : Nat} {h : mM} {L : mLs} {st : List Value} : ev d 6 68 L st h = ev d 6 27 L st h := ev_go d_6_68 (by decide)
theorem d_6_71 : decode (cd 6) 71 = .ok (.return_, 1) := by rw [cd_6]; decide +kernel
theorem e_6_71 {d : Nat} {h : mM} {L : mLs} : ev d 6 71 L [] h = some (none, h) := ev_rv d_6_71 (by decide +kernel)
-- 7: Flow.runStones
theorem cd_7 : cd 7 = prog_3_method_7_code := rfl
theorem d_7_0 : decode (cd 7) 0 = .ok (.aload_n 0, 1) := by rw [cd_7]; decide +kernel
theorem e_7_0 {d : Nat} {h : mM} {T : mLs} {x : Nat} {st : List Value} : ev d 7 0 ( some (.ref x) :: T) st h = ev d 7 1 ( some (.ref x) :: T) (.ref x :: st) h := ev_of d_7_0 rfl
theorem d_7_1 : decode (cd 7) 1 = .ok (.getfield 28, 3) := by rw [cd_7]; decide +kernel
theorem e_7_1 {d : Nat} {h : mM} {L : mLs} {st : List Value} {a : Nat} : ev d 7 1 L (.ref a :: st) h = if mK h a = 1 then oB (mR h a 0) (fun b => ev d 7 4 L (.ref b :: st) h) else none := ev_gR d_7_1 (by decide +kernel) (by decide +kernel)
theorem d_7_4 : decode (cd 7) 4 = .ok (.getfield 108, 3) := by rw [cd_7]; decide +kernel
theorem e_7_4 {d : Nat} {h : mM} {L : mLs} {st : List Value} {a : Nat} : ev d 7 4 L (.ref a :: st) h = if mK h a = 8 then oB (mR h a 2) (fun b => ev d 7 7 L (.ref b :: st) h) else none := ev_gR d_7_4 (by decide +kernel) (by decide +kernel)
theorem d_7_7 : decode (cd 7) 7 = .ok (.iload_n 3, 1) := by rw [cd_7]; decide +kernel
theorem e_7_7 {d : Nat} {h : mM} {o0 o1 o2 : Option Value} {T : mLs} {x : Int32} {st : List Value} : ev d 7 7 (o0 :: o1 :: o2 :: some (.int x) :: T) st h = ev d 7 8 (o0 :: o1 :: o2 :: some (.int x) :: T) (.int x :: st) h := ev_of d_7_7 rfl
theorem d_7_8 : decode (cd 7) 8 = .ok (.aaload, 1) := by rw [cd_7]; decide +kernel
theorem e_7_8 {d : Nat} {h : mM} {L : mLs} {st : List Value} {a : Nat} {i : Int32} : ev d 7 8 L (.int i :: .ref a :: st) h = if (12 < mK h a ∧ mK h a < 19) ∧ ixOK i (mL h a) = true then oB (mR h a i.toNatClampNeg) (fun b => ev d 7 9 L (.ref b :: st) h) else none := ev_aa d_7_8
theorem d_7_9 : decode (cd 7) 9 = .ok (.astore 4, 2) := by rw [cd_7]; decide +kernel
theorem e_7_9 {d : Nat} {h : mM} {o0 o1 o2 o3 o4 : Option Value} {T : mLs} {x : Nat} {st : List Value} (hl : mLong o3 = false) : ev d 7 9 (o0 :: o1 :: o2 :: o3 :: o4 :: T) (.ref x :: st) h = ev d 7 11 (o0 :: o1 :: o2 :: o3 :: some (.ref x) :: T) st h := ev_st_r d_7_9 (by decide +kernel) (mS1_s (j := 3) hl)
theorem d_7_11 : decode (cd 7) 11 = .ok (.aload_n 0, 1) := by rw [cd_7]; decide +kernel
theorem e_7_11 {d : Nat} {h : mM} {T : mLs} {x : Nat} {st : List Value} : ev d 7 11 ( some (.ref x) :: T) st h = ev d 7 12 ( some (.ref x) :: T) (.ref x :: st) h := ev_of d_7_11 rfl
theorem d_7_12 : decode (cd 7) 12 = .ok (.getfield 28, 3) := by rw [cd_7]; decide +kernel
theorem e_7_12 {d : Nat} {h : mM} {L : mLs} {st : List Value} {a : Nat} : ev d 7 12 L (.ref a :: st) h = if mK h a = 1 then oB (mR h a 0) (fun b => ev d 7 15 L (.ref b :: st) h) else none := ev_gR d_7_12 (by decide +kernel) (by decide +kernel)
theorem d_7_15 : decode (cd 7) 15 = .ok (.getfield 52, 3) := by rw [cd_7]; decide +kernel
theorem e_7_15 {d : Nat} {h : mM} {L : mLs} {st : List Value} {a : Nat} : ev d 7 15 L (.ref a :: st) h = if mK h a = 8 then oB (mR h a 0) (fun b => ev d 7 18 L (.ref b :: st) h) else none := ev_gR d_7_15 (by decide +kernel) (by decide +kernel)
theorem d_7_18 : decode (cd 7) 18 = .ok (.aload 4, 2) := by rw [cd_7]; decide +kernel
theorem e_7_18 {d : Nat} {h : mM} {o0 o1 o2 o3 : Option Value} {T : mLs} {x : Nat} {st : List Value} : ev d 7 18 (o0 :: o1 :: o2 :: o3 :: some (.ref x) :: T) st h = ev d 7 20 (o0 :: o1 :: o2 :: o3 :: some (.ref x) :: T) (.ref x :: st) h := ev_of d_7_18 rfl
theorem d_7_20 : decode (cd 7) 20 = .ok (.getfield 112, 3) := by rw [cd_7]; decide +kernel
theorem e_7_20 {d : Nat} {h : mM} {L : mLs} {st : List Value} {a : Nat} : ev d 7 20 L (.ref a :: st) h = if mK h a = 2 then ev d 7 23 L (.int (mI h a 3) :: st) h else none := ev_gI d_7_20 (by decide +kernel) (by decide +kernel)
theorem d_7_23 : decode (cd 7) 23 = .ok (.aaload, 1) := by rw [cd_7]; decide +kernel
theorem e_7_23 {d : Nat} {h : mM} {L : mLs} {st : List Value} {a : Nat} {i : Int32} : ev d 7 23 L (.int i :: .ref a :: st) h = if (12 < mK h a ∧ mK h a < 19) ∧ ixOK i (mL h a) = true then oB (mR h a i.toNatClampNeg) (fun b => ev d 7 24 L (.ref b :: st) h) else none := ev_aa d_7_23
theorem d_7_24 : decode (cd 7) 24 = .ok (.astore 5, 2) := by rw [cd_7]; decide +kernel
theorem e_7_24 {d : Nat} {h : mM} {o0 o1 o2 o3 o4 o5 : Option Value} {T : mLs} {x : Nat} {st : List Value} (hl : mLong o4 = false) : ev d 7 24 (o0 :: o1 :: o2 :: o3 :: o4 :: o5 :: T) (.ref x :: st) h = ev d 7 26 (o0 :: o1 :: o2 :: o3 :: o4 :: some (.ref x) :: T) st h := ev_st_r d_7_24 (by decide +kernel) (mS1_s (j := 4) hl)
theorem d_7_26 : decode (cd 7) 26 = .ok (.aload_n 0, 1) := by rw [cd_7]; decide +kernel
theorem e_7_26 {d : Nat} {h : mM} {T : mLs} {x : Nat} {st : List Value} : ev d 7 26 ( some (.ref x) :: T) st h = ev d 7 27 ( some (.ref x) :: T) (.ref x :: st) h := ev_of d_7_26 rfl
theorem d_7_27 : decode (cd 7) 27 = .ok (.getfield 28, 3) := by rw [cd_7]; decide +kernel
theorem e_7_27 {d : Nat} {h : mM} {L : mLs} {st : List Value} {a : Nat} : ev d 7 27 L (.ref a :: st) h = if mK h a = 1 then oB (mR h a 0) (fun b => ev d 7 30 L (.ref b :: st) h) else none := ev_gR d_7_27 (by decide +kernel) (by decide +kernel)
theorem d_7_30 : decode (cd 7) 30 = .ok (.aload 4, 2) := by rw [cd_7]; decide +kernel
theorem e_7_30 {d : Nat} {h : mM} {o0 o1 o2 o3 : Option Value} {T : mLs} {x : Nat} {st : List Value} : ev d 7 30 (o0 :: o1 :: o2 :: o3 :: some (.ref x) :: T) st h = ev d 7 32 (o0 :: o1 :: o2 :: o3 :: some (.ref x) :: T) (.ref x :: st) h := ev_of d_7_30 rfl
theorem d_7_32 : decode (cd 7) 32 = .ok (.invokevirtual 117, 3) := by rw [cd_7]; decide +kernel
theorem e_7_32 {d : Nat} {h : mM} {L : mLs} {st : List Value} {a : Nat} {x0 : Nat} (hc : mCat st ≤ 8) : ev (d + 1) 7 32 L (.ref x0 :: .ref a :: st) h = if mK h a = 8 then cV (ev d 36 0 [some (.ref a), some (.ref x0), none, none, none] [] h) (fun v h1 => ev (d + 1) 7 35 L (v ++ st) h1) else none := ev_cv (mj := 36) (as := [.ref x0]) (rest := st) d_7_32 (by decide +kernel) rfl rfl (by show _ ≤ List.length _; simp only [List.length_cons]; have : na 36 = 1 := rfl; omega) rfl (Nat.le_of_ble_eq_true rfl) hc
theorem d_7_35 : decode (cd 7) 35 = .ok (.istore 6, 2) := by rw [cd_7]; decide +kernel
theorem e_7_35 {d : Nat} {h : mM} {o0 o1 o2 o3 o4 o5 o6 : Option Value} {T : mLs} {x : Int32} {st : List Value} (hl : mLong o5 = false) : ev d 7 35 (o0 :: o1 :: o2 :: o3 :: o4 :: o5 :: o6 :: T) (.int x :: st) h = ev d 7 37 (o0 :: o1 :: o2 :: o3 :: o4 :: o5 :: some (.int x) :: T) st h := ev_st_i d_7_35 (by decide +kernel) (mS1_s (j := 5) hl)
theorem d_7_37 : decode (cd 7) 37 = .ok (.iconst 0, 1) := by rw [cd_7]; decide +kernel
theorem e_7_37 {d : Nat} {h : mM} {L : mLs} {st : List Value} : ev d 7 37 L st h = ev d 7 38 L (.int 0 :: st) h := ev_of d_7_37 rfl
theorem d_7_38 : decode (cd 7) 38 = .ok (.istore 7, 2) := by rw [cd_7]; decide +kernel
theorem e_7_38 {d : Nat} {h : mM} {o0 o1 o2 o3 o4 o5 o6 o7 : Option Value} {T : mLs} {x : Int32} {st : List Value} (hl : mLong o6 = false) : ev d 7 38 (o0 :: o1 :: o2 :: o3 :: o4 :: o5 :: o6 :: o7 :: T) (.int x :: st) h = ev d 7 40 (o0 :: o1 :: o2 :: o3 :: o4 :: o5 :: o6 :: some (.int x) :: T) st h := ev_st_i d_7_38 (by decide +kernel) (mS1_s (j := 6) hl)
theorem d_7_40 : decode (cd 7) 40 = .ok (.iload 7, 2) := by rw [cd_7]; decide +kernel
theorem e_7_40 {d : Nat} {h : mM} {o0 o1 o2 o3 o4 o5 o6 : Option Value} {T : mLs} {x : Int32} {st : List Value} : ev d 7 40 (o0 :: o1 :: o2 :: o3 :: o4 :: o5 :: o6 :: some (.int x) :: T) st h = ev d 7 42 (o0 :: o1 :: o2 :: o3 :: o4 :: o5 :: o6 :: some (.int x) :: T) (.int x :: st) h := ev_of d_7_40 rfl
theorem d_7_42 : decode (cd 7) 42 = .ok (.aload 4, 2) := by rw [cd_7]; decide +kernel
theorem e_7_42 {d : Nat} {h : mM} {o0 o1 o2 o3 : Option Value} {T : mLs} {x : Nat} {st : List Value} : ev d 7 42 (o0 :: o1 :: o2 :: o3 :: some (.ref x) :: T) st h = ev d 7 44 (o0 :: o1 :: o2 :: o3 :: some (.ref x) :: T) (.ref x :: st) h := ev_of d_7_42 rfl
theorem d_7_44 : decode (cd 7) 44 = .ok (.getfield 121, 3) := by rw [cd_7]; decide +kernel
theorem e_7_44 {d : Nat} {h : mM} {L : mLs} {st : List Value} {a : Nat} : ev d 7 44 L (.ref a :: st) h = if mK h a = 2 then ev d 7 47 L (.int (mI h a 7) :: st) h else none := ev_gI d_7_44 (by decide +kernel) (by decide +kernel)
theorem d_7_47 : decode (cd 7) 47 = .ok (.if_icmp .ge 100, 3) := by rw [cd_7]; decide +kernel
theorem e_7_47 {d : Nat} {h : mM} {L : mLs} {st : List Value} {x y : Int32} : ev d 7 47 L (.int y :: .int x :: st) h = if y ≤ x then ev d 7 147 L st h else ev d 7 50 L st h := ev_ic (y ≤ x) inferInstance rfl d_7_47 (by decide)
theorem d_7_50 : decode (cd 7) 50 = .ok (.aload 4, 2) := by rw [cd_7]; decide +kernel
theorem e_7_50 {d : Nat} {h : mM} {o0 o1 o2 o3 : Option Value} {T : mLs} {x : Nat} {st : List Value} : ev d 7 50 (o0 :: o1 :: o2 :: o3 :: some (.ref x) :: T) st h = ev d 7 52 (o0 :: o1 :: o2 :: o3 :: some (.ref x) :: T) (.ref x :: st) h := ev_of d_7_50 rfl
theorem d_7_52 : decode (cd 7) 52 = .ok (.getfield 124, 3) := by rw [cd_7]; decide +kernel
theorem e_7_52 {d : Nat} {h : mM} {L : mLs} {st : List Value} {a : Nat} : ev d 7 52 L (.ref a :: st) h = if mK h a = 2 then oB (mR h a 0) (fun b => ev d 7 55 L (.ref b :: st) h) else none := ev_gR d_7_52 (by decide +kernel) (by decide +kernel)
theorem d_7_55 : decode (cd 7) 55 = .ok (.iload 7, 2) := by rw [cd_7]; decide +kernel
theorem e_7_55 {d : Nat} {h : mM} {o0 o1 o2 o3 o4 o5 o6 : Option Value} {T : mLs} {x : Int32} {st : List Value} : ev d 7 55 (o0 :: o1 :: o2 :: o3 :: o4 :: o5 :: o6 :: some (.int x) :: T) st h = ev d 7 57 (o0 :: o1 :: o2 :: o3 :: o4 :: o5 :: o6 :: some (.int x) :: T) (.int x :: st) h := ev_of d_7_55 rfl
theorem d_7_57 : decode (cd 7) 57 = .ok (.aaload, 1) := by rw [cd_7]; decide +kernel
theorem e_7_57 {d : Nat} {h : mM} {L : mLs} {st : List Value} {a : Nat} {i : Int32} : ev d 7 57 L (.int i :: .ref a :: st) h = if (12 < mK h a ∧ mK h a < 19) ∧ ixOK i (mL h a) = true then oB (mR h a i.toNatClampNeg) (fun b => ev d 7 58 L (.ref b :: st) h) else none := ev_aa d_7_57
theorem d_7_58 : decode (cd 7) 58 = .ok (.astore 8, 2) := by rw [cd_7]; decide +kernel
theorem e_7_58 {d : Nat} {h : mM} {o0 o1 o2 o3 o4 o5 o6 o7 o8 : Option Value} {T : mLs} {x : Nat} {st : List Value} (hl : mLong o7 = false) : ev d 7 58 (o0 :: o1 :: o2 :: o3 :: o4 :: o5 :: o6 :: o7 :: o8 :: T) (.ref x :: st) h = ev d 7 60 (o0 :: o1 :: o2 :: o3 :: o4 :: o5 :: o6 :: o7 :: some (.ref x) :: T) st h := ev_st_r d_7_58 (by decide +kernel) (mS1_s (j := 7) hl)
theorem d_7_60 : decode (cd 7) 60 = .ok (.aload_n 1, 1) := by rw [cd_7]; decide +kernel
theorem e_7_60 {d : Nat} {h : mM} {o0 : Option Value} {T : mLs} {x : Nat} {st : List Value} : ev d 7 60 (o0 :: some (.ref x) :: T) st h = ev d 7 61 (o0 :: some (.ref x) :: T) (.ref x :: st) h := ev_of d_7_60 rfl
theorem d_7_61 : decode (cd 7) 61 = .ok (.aload 4, 2) := by rw [cd_7]; decide +kernel
theorem e_7_61 {d : Nat} {h : mM} {o0 o1 o2 o3 : Option Value} {T : mLs} {x : Nat} {st : List Value} : ev d 7 61 (o0 :: o1 :: o2 :: o3 :: some (.ref x) :: T) st h = ev d 7 63 (o0 :: o1 :: o2 :: o3 :: some (.ref x) :: T) (.ref x :: st) h := ev_of d_7_61 rfl
theorem d_7_63 : decode (cd 7) 63 = .ok (.getfield 112, 3) := by rw [cd_7]; decide +kernel
theorem e_7_63 {d : Nat} {h : mM} {L : mLs} {st : List Value} {a : Nat} : ev d 7 63 L (.ref a :: st) h = if mK h a = 2 then ev d 7 66 L (.int (mI h a 3) :: st) h else none := ev_gI d_7_63 (by decide +kernel) (by decide +kernel)
theorem d_7_66 : decode (cd 7) 66 = .ok (.iaload, 1) := by rw [cd_7]; decide +kernel
theorem e_7_66 {d : Nat} {h : mM} {L : mLs} {st : List Value} {a : Nat} {i : Int32} : ev d 7 66 L (.int i :: .ref a :: st) h = if (mK h a = 11 ∨ mK h a = 19) ∧ ixOK i (mL h a) = true then ev d 7 67 L (.int (mI h a i.toNatClampNeg) :: st) h else none := ev_ia d_7_66
theorem d_7_67 : decode (cd 7) 67 = .ok (.istore 9, 2) := by rw [cd_7]; decide +kernel
theorem e_7_67 {d : Nat} {h : mM} {o0 o1 o2 o3 o4 o5 o6 o7 o8 o9 : Option Value} {T : mLs} {x : Int32} {st : List Value} (hl : mLong o8 = false) : ev d 7 67 (o0 :: o1 :: o2 :: o3 :: o4 :: o5 :: o6 :: o7 :: o8 :: o9 :: T) (.int x :: st) h = ev d 7 69 (o0 :: o1 :: o2 :: o3 :: o4 :: o5 :: o6 :: o7 :: o8 :: some (.int x) :: T) st h := ev_st_i d_7_67 (by decide +kernel) (mS1_s (j := 8) hl)
theorem d_7_69 : decode (cd 7) 69 = .ok (.aload 5, 2) := by rw [cd_7]; decide +kernel
theorem e_7_69 {d : Nat} {h : mM} {o0 o1 o2 o3 o4 : Option Value} {T : mLs} {x : Nat} {st : List Value} : ev d 7 69 (o0 :: o1 :: o2 :: o3 :: o4 :: some (.ref x) :: T) st h = ev d 7 71 (o0 :: o1 :: o2 :: o3 :: o4 :: some (.ref x) :: T) (.ref x :: st) h := ev_of d_7_69 rfl
theorem d_7_71 : decode (cd 7) 71 = .ok (.iload 9, 2) := by rw [cd_7]; decide +kernel
theorem e_7_71 {d : Nat} {h : mM} {o0 o1 o2 o3 o4 o5 o6 o7 o8 : Option Value} {T : mLs} {x : Int32} {st : List Value} : ev d 7 71 (o0 :: o1 :: o2 :: o3 :: o4 :: o5 :: o6 :: o7 :: o8 :: some (.int x) :: T) st h = ev d 7 73 (o0 :: o1 :: o2 :: o3 :: o4 :: o5 :: o6 :: o7 :: o8 :: some (.int x) :: T) (.int x :: st) h := ev_of d_7_71 rfl
theorem d_7_73 : decode (cd 7) 73 = .ok (.invokevirtual 77, 3) := by rw [cd_7]; decide +kernel
theorem e_7_73 {d : Nat} {h : mM} {L : mLs} {st : List Value} {a : Nat} {x0 : Int32} (hc : mCat st ≤ 8) : ev (d + 1) 7 73 L (.int x0 :: .ref a :: st) h = if mK h a = 3 then cV (ev d 16 0 [some (.ref a), some (.int x0)] [] h) (fun v h1 => ev (d + 1) 7 76 L (v ++ st) h1) else none := ev_cv (mj := 16) (as := [.int x0]) (rest := st) d_7_73 (by decide +kernel) rfl rfl (by show _ ≤ List.length _; simp only [List.length_cons]; have : na 16 = 1 := rfl; omega) rfl (Nat.le_of_ble_eq_true rfl) hc
theorem d_7_76 : decode (cd 7) 76 = .ok (.iload_n 2, 1) := by rw [cd_7]; decide +kernel
theorem e_7_76 {d : Nat} {h : mM} {o0 o1 : Option Value} {T : mLs} {x : Int32} {st : List Value} : ev d 7 76 (o0 :: o1 :: some (.int x) :: T) st h = ev d 7 77 (o0 :: o1 :: some (.int x) :: T) (.int x :: st) h := ev_of d_7_76 rfl
theorem d_7_77 : decode (cd 7) 77 = .ok (.isub, 1) := by rw [cd_7]; decide +kernel
theorem e_7_77 {d : Nat} {h : mM} {L : mLs} {st : List Value} {x y : Int32} : ev d 7 77 L (.int y :: .int x :: st) h = ev d 7 78 L (.int (x - y) :: st) h := ev_of d_7_77 rfl
theorem d_7_78 : decode (cd 7) 78 = .ok (.istore 10, 2) := by rw [cd_7]; decide +kernel
theorem e_7_78 {d : Nat} {h : mM} {o0 o1 o2 o3 o4 o5 o6 o7 o8 o9 o10 : Option Value} {T : mLs} {x : Int32} {st : List Value} (hl : mLong o9 = false) : ev d 7 78 (o0 :: o1 :: o2 :: o3 :: o4 :: o5 :: o6 :: o7 :: o8 :: o9 :: o10 :: T) (.int x :: st) h = ev d 7 80 (o0 :: o1 :: o2 :: o3 :: o4 :: o5 :: o6 :: o7 :: o8 :: o9 :: some (.int x) :: T) st h := ev_st_i d_7_78 (by decide +kernel) (mS1_s (j := 9) hl)
theorem d_7_80 : decode (cd 7) 80 = .ok (.aload 8, 2) := by rw [cd_7]; decide +kernel
theorem e_7_80 {d : Nat} {h : mM} {o0 o1 o2 o3 o4 o5 o6 o7 : Option Value} {T : mLs} {x : Nat} {st : List Value} : ev d 7 80 (o0 :: o1 :: o2 :: o3 :: o4 :: o5 :: o6 :: o7 :: some (.ref x) :: T) st h = ev d 7 82 (o0 :: o1 :: o2 :: o3 :: o4 :: o5 :: o6 :: o7 :: some (.ref x) :: T) (.ref x :: st) h := ev_of d_7_80 rfl
theorem d_7_82 : decode (cd 7) 82 = .ok (.iload 10, 2) := by rw [cd_7]; decide +kernel
theorem e_7_82 {d : Nat} {h : mM} {o0 o1 o2 o3 o4 o5 o6 o7 o8 o9 : Option Value} {T : mLs} {x : Int32} {st : List Value} : ev d 7 82 (o0 :: o1 :: o2 :: o3 :: o4 :: o5 :: o6 :: o7 :: o8 :: o9 :: some (.int x) :: T) st h = ev d 7 84 (o0 :: o1 :: o2 :: o3 :: o4 :: o5 :: o6 :: o7 :: o8 :: o9 :: some (.int x) :: T) (.int x :: st) h := ev_of d_7_82 rfl
theorem d_7_84 : decode (cd 7) 84 = .ok (.iload 9, 2) := by rw [cd_7]; decide +kernel
theorem e_7_84 {d : Nat} {h : mM} {o0 o1 o2 o3 o4 o5 o6 o7 o8 : Option Value} {T : mLs} {x : Int32} {st : List Value} : ev d 7 84 (o0 :: o1 :: o2 :: o3 :: o4 :: o5 :: o6 :: o7 :: o8 :: some (.int x) :: T) st h = ev d 7 86 (o0 :: o1 :: o2 :: o3 :: o4 :: o5 :: o6 :: o7 :: o8 :: some (.int x) :: T) (.int x :: st) h := ev_of d_7_84 rfl
theorem d_7_86 : decode (cd 7) 86 = .ok (.iload 6, 2) := by rw [cd_7]; decide +kernel
theorem e_7_86 {d : Nat} {h : mM} {o0 o1 o2 o3 o4 o5 : Option Value} {T : mLs} {x : Int32} {st : List Value} : ev d 7 86 (o0 :: o1 :: o2 :: o3 :: o4 :: o5 :: some (.int x) :: T) st h = ev d 7 88 (o0 :: o1 :: o2 :: o3 :: o4 :: o5 :: some (.int x) :: T) (.int x :: st) h := ev_of d_7_86 rfl
theorem d_7_88 : decode (cd 7) 88 = .ok (.invokevirtual 128, 3) := by rw [cd_7]; decide +kernel
theorem e_7_88 {d : Nat} {h : mM} {L : mLs} {st : List Value} {a : Nat} {x0 : Int32} {x1 : Int32} {x2 : Int32} (hc : mCat st ≤ 8) : ev (d + 1) 7 88 L (.int x2 :: .int x1 :: .int x0 :: .ref a :: st) h = if mK h a = 6 then cV (ev d 28 0 [some (.ref a), some (.int x0), some (.int x1), some (.int x2)] [] h) (fun v h1 => ev (d + 1) 7 91 L (v ++ st) h1) else none := ev_cv (mj := 28) (as := [.int x0, .int x1, .int x2]) (rest := st) d_7_88 (by decide +kernel) rfl rfl (by show _ ≤ List.length _; simp only [List.length_cons]; have : na 28 = 3 := rfl; omega) rfl (Nat.le_of_ble_eq_true rfl) hc
theorem d_7_91 : decode (cd 7) 91 = .ok (.ifCond .eq 50, 3) := by rw [cd_7]; decide +kernel
theorem e_7_91 {d : Nat} {h : mM} {L : mLs} {st : List Value} {x : Int32} : ev d 7 91 L (.int x :: st) h = if x = 0 then ev d 7 141 L st h else ev d 7 94 L st h := ev_if (x = 0) inferInstance rfl d_7_91 (by decide)
theorem d_7_94 : decode (cd 7) 94 = .ok (.aload_n 1, 1) := by rw [cd_7]; decide +kernel
theorem e_7_94 {d : Nat} {h : mM} {o0 : Option Value} {T : mLs} {x : Nat} {st : List Value} : ev d 7 94 (o0 :: some (.ref x) :: T) st h = ev d 7 95 (o0 :: some (.ref x) :: T) (.ref x :: st) h := ev_of d_7_94 rfl
theorem d_7_95 : decode (cd 7) 95 = .ok (.aload 4, 2) := by rw [cd_7]; decide +kernel
theorem e_7_95 {d : Nat} {h : mM} {o0 o1 o2 o3 : Option Value} {T : mLs} {x : Nat} {st : List Value} : ev d 7 95 (o0 :: o1 :: o2 :: o3 :: some (.ref x) :: T) st h = ev d 7 97 (o0 :: o1 :: o2 :: o3 :: some (.ref x) :: T) (.ref x :: st) h := ev_of d_7_95 rfl
theorem d_7_97 : decode (cd 7) 97 = .ok (.getfield 112, 3) := by rw [cd_7]; decide +kernel
theorem e_7_97 {d : Nat} {h : mM} {L : mLs} {st : List Value} {a : Nat} : ev d 7 97 L (.ref a :: st) h = if mK h a = 2 then ev d 7 100 L (.int (mI h a 3) :: st) h else none := ev_gI d_7_97 (by decide +kernel) (by decide +kernel)
theorem d_7_100 : decode (cd 7) 100 = .ok (.iload 9, 2) := by rw [cd_7]; decide +kernel
theorem e_7_100 {d : Nat} {h : mM} {o0 o1 o2 o3 o4 o5 o6 o7 o8 : Option Value} {T : mLs} {x : Int32} {st : List Value} : ev d 7 100 (o0 :: o1 :: o2 :: o3 :: o4 :: o5 :: o6 :: o7 :: o8 :: some (.int x) :: T) st h = ev d 7 102 (o0 :: o1 :: o2 :: o3 :: o4 :: o5 :: o6 :: o7 :: o8 :: some (.int x) :: T) (.int x :: st) h := ev_of d_7_100 rfl
theorem d_7_102 : decode (cd 7) 102 = .ok (.aload 8, 2) := by rw [cd_7]; decide +kernel
theorem e_7_102 {d : Nat} {h : mM} {o0 o1 o2 o3 o4 o5 o6 o7 : Option Value} {T : mLs} {x : Nat} {st : List Value} : ev d 7 102 (o0 :: o1 :: o2 :: o3 :: o4 :: o5 :: o6 :: o7 :: some (.ref x) :: T) st h = ev d 7 104 (o0 :: o1 :: o2 :: o3 :: o4 :: o5 :: o6 :: o7 :: some (.ref x) :: T) (.ref x :: st) h := ev_of d_7_102 rfl
theorem d_7_104 : decode (cd 7) 104 = .ok (.getfield 134, 3) := by rw [cd_7]; decide +kernel
theorem e_7_104 {d : Nat} {h : mM} {L : mLs} {st : List Value} {a : Nat} : ev d 7 104 L (.ref a :: st) h = if mK h a = 6 then ev d 7 107 L (.int (mI h a 1) :: st) h else none := ev_gI d_7_104 (by decide +kernel) (by decide +kernel)
theorem d_7_107 : decode (cd 7) 107 = .ok (.isub, 1) := by rw [cd_7]; decide +kernel
theorem e_7_107 {d : Nat} {h : mM} {L : mLs} {st : List Value} {x y : Int32} : ev d 7 107 L (.int y :: .int x :: st) h = ev d 7 108 L (.int (x - y) :: st) h := ev_of d_7_107 rfl
theorem d_7_108 : decode (cd 7) 108 = .ok (.iastore, 1) := by rw [cd_7]; decide +kernel
theorem e_7_108 {d : Nat} {h : mM} {L : mLs} {st : List Value} {a : Nat} {i v : Int32} : ev d 7 108 L (.int v :: .int i :: .ref a :: st) h = if mK h a = 11 ∧ ixOK i (mL h a) = true then ev d 7 109 L st (wI h a i.toNatClampNeg v) else none := ev_is d_7_108
theorem d_7_109 : decode (cd 7) 109 = .ok (.aload_n 0, 1) := by rw [cd_7]; decide +kernel
theorem e_7_109 {d : Nat} {h : mM} {T : mLs} {x : Nat} {st : List Value} : ev d 7 109 ( some (.ref x) :: T) st h = ev d 7 110 ( some (.ref x) :: T) (.ref x :: st) h := ev_of d_7_109 rfl
theorem d_7_110 : decode (cd 7) 110 = .ok (.dup, 1) := by rw [cd_7]; decide +kernel
theorem e_7_110r {d : Nat} {h : mM} {L : mLs} {st : List Value} {a : Nat} : ev d 7 110 L (.ref a :: st) h = ev d 7 111 L (.ref a :: .ref a :: st) h := ev_of d_7_110 rfl
theorem e_7_110i {d : Nat} {h : mM} {L : mLs} {st : List Value} {x : Int32} : ev d 7 110 L (.int x :: st) h = ev d 7 111 L (.int x :: .int x :: st) h := ev_of d_7_110 rfl
theorem d_7_111 : decode (cd 7) 111 = .ok (.getfield 25, 3) := by rw [cd_7]; decide +kernel
theorem e_7_111 {d : Nat} {h : mM} {L : mLs} {st : List Value} {a : Nat} : ev d 7 111 L (.ref a :: st) h = if mK h a = 1 then ev d 7 114 L (.int (mI h a 5) :: st) h else none := ev_gI d_7_111 (by decide +kernel) (by decide +kernel)
theorem d_7_114 : decode (cd 7) 114 = .ok (.aload 8, 2) := by rw [cd_7]; decide +kernel
theorem e_7_114 {d : Nat} {h : mM} {o0 o1 o2 o3 o4 o5 o6 o7 : Option Value} {T : mLs} {x : Nat} {st : List Value} : ev d 7 114 (o0 :: o1 :: o2 :: o3 :: o4 :: o5 :: o6 :: o7 :: some (.ref x) :: T) st h = ev d 7 116 (o0 :: o1 :: o2 :: o3 :: o4 :: o5 :: o6 :: o7 :: some (.ref x) :: T) (.ref x :: st) h := ev_of d_7_114 rfl
theorem d_7_116 : decode (cd 7) 116 = .ok (.getfield 134, 3) := by rw [cd_7]; decide +kernel
theorem e_7_116 {d : Nat} {h : mM} {L : mLs} {st : List Value} {a : Nat} : ev d 7 116 L (.ref a :: st) h = if mK h a = 6 then ev d 7 119 L (.int (mI h a 1) :: st) h else none := ev_gI d_7_116 (by decide +kernel) (by decide +kernel)
theorem d_7_119 : decode (cd 7) 119 = .ok (.iadd, 1) := by rw [cd_7]; decide +kernel
theorem e_7_119 {d : Nat} {h : mM} {L : mLs} {st : List Value} {x y : Int32} : ev d 7 119 L (.int y :: .int x :: st) h = ev d 7 120 L (.int (x + y) :: st) h := ev_of d_7_119 rfl
theorem d_7_120 : decode (cd 7) 120 = .ok (.putfield 25, 3) := by rw [cd_7]; decide +kernel
theorem e_7_120 {d : Nat} {h : mM} {L : mLs} {st : List Value} {a : Nat} {v : Int32} : ev d 7 120 L (.int v :: .ref a :: st) h = if mK h a = 1 then ev d 7 123 L st (wI h a 5 v) else none := ev_pI d_7_120 (by decide +kernel) (by decide +kernel) (by decide +kernel)
theorem d_7_123 : decode (cd 7) 123 = .ok (.aload_n 0, 1) := by rw [cd_7]; decide +kernel
theorem e_7_123 {d : Nat} {h : mM} {T : mLs} {x : Nat} {st : List Value} : ev d 7 123 ( some (.ref x) :: T) st h = ev d 7 124 ( some (.ref x) :: T) (.ref x :: st) h := ev_of d_7_123 rfl
theorem d_7_124 : decode (cd 7) 124 = .ok (.getfield 9, 3) := by rw [cd_7]; decide +kernel
theorem e_7_124 {d : Nat} {h : mM} {L : mLs} {st : List Value} {a : Nat} : ev d 7 124 L (.ref a :: st) h = if mK h a = 1 then oB (mR h a 1) (fun b => ev d 7 127 L (.ref b :: st) h) else none := ev_gR d_7_124 (by decide +kernel) (by decide +kernel)
theorem d_7_127 : decode (cd 7) 127 = .ok (.iload_n 3, 1) := by rw [cd_7]; decide +kernel
theorem e_7_127 {d : Nat} {h : mM} {o0 o1 o2 : Option Value} {T : mLs} {x : Int32} {st : List Value} : ev d 7 127 (o0 :: o1 :: o2 :: some (.int x) :: T) st h = ev d 7 128 (o0 :: o1 :: o2 :: some (.int x) :: T) (.int x :: st) h := ev_of d_7_127 rfl
theorem d_7_128 : decode (cd 7) 128 = .ok (.iconst 3, 1) := by rw [cd_7]; decide +kernel
theorem e_7_128 {d : Nat} {h : mM} {L : mLs} {st : List Value} : ev d 7 128 L st h = ev d 7 129 L (.int 3 :: st) h := ev_of d_7_128 rfl
theorem d_7_129 : decode (cd 7) 129 = .ok (.imul, 1) := by rw [cd_7]; decide +kernel
theorem e_7_129 {d : Nat} {h : mM} {L : mLs} {st : List Value} {x y : Int32} : ev d 7 129 L (.int y :: .int x :: st) h = ev d 7 130 L (.int (x * y) :: st) h := ev_of d_7_129 rfl
theorem d_7_130 : decode (cd 7) 130 = .ok (.iload 7, 2) := by rw [cd_7]; decide +kernel
theorem e_7_130 {d : Nat} {h : mM} {o0 o1 o2 o3 o4 o5 o6 : Option Value} {T : mLs} {x : Int32} {st : List Value} : ev d 7 130 (o0 :: o1 :: o2 :: o3 :: o4 :: o5 :: o6 :: some (.int x) :: T) st h = ev d 7 132 (o0 :: o1 :: o2 :: o3 :: o4 :: o5 :: o6 :: some (.int x) :: T) (.int x :: st) h := ev_of d_7_130 rfl
theorem d_7_132 : decode (cd 7) 132 = .ok (.iadd, 1) := by rw [cd_7]; decide +kernel
theorem e_7_132 {d : Nat} {h : mM} {L : mLs} {st : List Value} {x y : Int32} : ev d 7 132 L (.int y :: .int x :: st) h = ev d 7 133 L (.int (x + y) :: st) h := ev_of d_7_132 rfl
theorem d_7_133 : decode (cd 7) 133 = .ok (.aload 8, 2) := by rw [cd_7]; decide +kernel
theorem e_7_133 {d : Nat} {h : mM} {o0 o1 o2 o3 o4 o5 o6 o7 : Option Value} {T : mLs} {x : Nat} {st : List Value} : ev d 7 133 (o0 :: o1 :: o2 :: o3 :: o4 :: o5 :: o6 :: o7 :: some (.ref x) :: T) st h = ev d 7 135 (o0 :: o1 :: o2 :: o3 :: o4 :: o5 :: o6 :: o7 :: some (.ref x) :: T) (.ref x :: st) h := ev_of d_7_133 rfl
theorem d_7_135 : decode (cd 7) 135 = .ok (.iload 10, 2) := by rw [cd_7]; decide +kernel
theorem e_7_135 {d : Nat} {h : mM} {o0 o1 o2 o3 o4 o5 o6 o7 o8 o9 : Option Value} {T : mLs} {x : Int32} {st : List Value} : ev d 7 135 (o0 :: o1 :: o2 :: o3 :: o4 :: o5 :: o6 :: o7 :: o8 :: o9 :: some (.int x) :: T) st h = ev d 7 137 (o0 :: o1 :: o2 :: o3 :: o4 :: o5 :: o6 :: o7 :: o8 :: o9 :: some (.int x) :: T) (.int x :: st) h := ev_of d_7_135 rfl
theorem d_7_137 : decode (cd 7) 137 = .ok (.invokevirtual 137, 3) := by rw [cd_7]; decide +kernel
theorem e_7_137 {d : Nat} {h : mM} {L : mLs} {st : List Value} {a : Nat} {x0 : Int32} (hc : mCat st ≤ 8) : ev (d + 1) 7 137 L (.int x0 :: .ref a :: st) h = if mK h a = 6 then cV (ev d 29 0 [some (.ref a), some (.int x0)] [] h) (fun v h1 => ev (d + 1) 7 140 L (v ++ st) h1) else none := ev_cv (mj := 29) (as := [.int x0]) (rest := st) d_7_137 (by decide +kernel) rfl rfl (by show _ ≤ List.length _; simp only [List.length_cons]; have : na 29 = 1 := rfl; omega) rfl (Nat.le_of_ble_eq_true rfl) hc
theorem d_7_140 : decode (cd 7) 140 = .ok (.iastore, 1) := by rw [cd_7]; decide +kernel
theorem e_7_140 {d : Nat} {h : mM} {L : mLs} {st : List Value} {a : Nat} {i v : Int32} : ev d 7 140 L (.int v :: .int i :: .ref a :: st) h = if mK h a = 11 ∧ ixOK i (mL h a) = true then ev d 7 141 L st (wI h a i.toNatClampNeg v) else none := ev_is d_7_140
theorem d_7_141 : decode (cd 7) 141 = .ok (.iinc 7 1, 3) := by rw [cd_7]; decide +kernel
theorem e_7_141 {d : Nat} {h : mM} {o0 o1 o2 o3 o4 o5 o6 : Option Value} {T : mLs} {x : Int32} {st : List Value} (hl : mLong o6 = false) : ev d 7 141 (o0 :: o1 :: o2 :: o3 :: o4 :: o5 :: o6 :: some (.int x) :: T) st h = ev d 7 144 (o0 :: o1 :: o2 :: o3 :: o4 :: o5 :: o6 :: some (.int (x + 1)) :: T) st h := ev_inc d_7_141 (by decide +kernel) rfl rfl (mS1_s (j := 6) hl)
theorem d_7_144 : decode (cd 7) 144 = .ok (.goto (-104), 3) := by rw [cd_7]; decide +kernel
theorem e_7_144 {d : Nat} {h : mM} {L : mLs} {st : List Value} : ev d 7 144 L st h = ev d 7 40 L st h := ev_go d_7_144 (by decide)
theorem d_7_147 : decode (cd 7) 147 = .ok (.return_, 1) := by rw [cd_7]; decide +kernel
theorem e_7_147 {d : Nat} {h : mM} {L : mLs} : ev d 7 147 L [] h = some (none, h) := ev_rv d_7_147 (by decide +kernel)
-- 8: Flow.spillBanks
theorem cd_8 : cd 8 = prog_3_method_8_code := rfl
theorem d_8_0 : decode (cd 8) 0 = .ok (.iconst 0, 1) := by rw [cd_8]; decide +kernel
theorem e_8_0 {d : Nat} {h : mM} {L : mLs} {st : List Value} : ev d 8 0 L st h = ev d 8 1 L (.int 0 :: st) h := ev_of d_8_0 rfl
theorem d_8_1 : decode (cd 8) 1 = .ok (.istore_n 2, 1) := by rw [cd_8]; decide +kernel
theorem e_8_1 {d : Nat} {h : mM} {o0 o1 o2 : Option Value} {T : mLs} {x : Int32} {st : List Value} (hl : mLong o1 = false) : ev d 8 1 (o0 :: o1 :: o2 :: T) (.int x :: st) h = ev d 8 2 (o0 :: o1 :: some (.int x) :: T) st h := ev_st_in d_8_1 (by decide +kernel) (mS1_s (j := 1) hl)
theorem d_8_2 : decode (cd 8) 2 = .ok (.iload_n 2, 1) := by rw [cd_8]; decide +kernel
theorem e_8_2 {d : Nat} {h : mM} {o0 o1 : Option Value} {T : mLs} {x : Int32} {st : List Value} : ev d 8 2 (o0 :: o1 :: some (.int x) :: T) st h = ev d 8 3 (o0 :: o1 :: some (.int x) :: T) (.int x :: st) h := ev_of d_8_2 rfl
theorem d_8_3 : decode (cd 8) 3 = .ok (.aload_n 0, 1) := by rw [cd_8]; decide +kernel
theorem e_8_3 {d : Nat} {h : mM} {T : mLs} {x : Nat} {st : List Value} : ev d 8 3 ( some (.ref x) :: T) st h = ev d 8 4 ( some (.ref x) :: T) (.ref x :: st) h := ev_of d_8_3 rfl
theorem d_8_4 : decode (cd 8) 4 = .ok (.getfield 28, 3) := by rw [cd_8]; decide +kernel
theorem e_8_4 {d : Nat} {h : mM} {L : mLs} {st : List Value} {a : Nat} : ev d 8 4 L (.ref a :: st) h = if mK h a = 1 then oB (mR h a 0) (fun b => ev d 8 7 L (.ref b :: st) h) else none := ev_gR d_8_4 (by decide +kernel) (by decide +kernel)
theorem d_8_7 : decode (cd 8) 7 = .ok (.getfield 47, 3) := by rw [cd_8]; decide +kernel
theorem e_8_7 {d : Nat} {h : mM} {L : mLs} {st : List Value} {a : Nat} : ev d 8 7 L (.ref a :: st) h = if mK h a = 8 then ev d 8 10 L (.int (mI h a 4) :: st) h else none := ev_gI d_8_7 (by decide +kernel) (by decide +kernel)
theorem d_8_10 : decode (cd 8) 10 = .ok (.if_icmp .ge 47, 3) := by rw [cd_8]; decide +kernel
theorem e_8_10 {d : Nat} {h : mM} {L : mLs} {st : List Value} {x y : Int32} : ev d 8 10 L (.int y :: .int x :: st) h = if y ≤ x then ev d 8 57 L st h else ev d 8 13 L st h := ev_ic (y ≤ x) inferInstance rfl d_8_10 (by decide)
theorem d_8_13 : decode (cd 8) 13 = .ok (.aload_n 1, 1) := by rw [cd_8]; decide +kernel
theorem e_8_13 {d : Nat} {h : mM} {o0 : Option Value} {T : mLs} {x : Nat} {st : List Value} : ev d 8 13 (o0 :: some (.ref x) :: T) st h = ev d 8 14 (o0 :: some (.ref x) :: T) (.ref x :: st) h := ev_of d_8_13 rfl
theorem d_8_14 : decode (cd 8) 14 = .ok (.iload_n 2, 1) := by rw [cd_8]; decide +kernel
theorem e_8_14 {d : Nat} {h : mM} {o0 o1 : Option Value} {T : mLs} {x : Int32} {st : List Value} : ev d 8 14 (o0 :: o1 :: some (.int x) :: T) st h = ev d 8 15 (o0 :: o1 :: some (.int x) :: T) (.int x :: st) h := ev_of d_8_14 rfl
theorem d_8_15 : decode (cd 8) 15 = .ok (.iaload, 1) := by rw [cd_8]; decide +kernel
theorem e_8_15 {d : Nat} {h : mM} {L : mLs} {st : List Value} {a : Nat} {i : Int32} : ev d 8 15 L (.int i :: .ref a :: st) h = if (mK h a = 11 ∨ mK h a = 19) ∧ ixOK i (mL h a) = true then ev d 8 16 L (.int (mI h a i.toNatClampNeg) :: st) h else none := ev_ia d_8_15
theorem d_8_16 : decode (cd 8) 16 = .ok (.aload_n 0, 1) := by rw [cd_8]; decide +kernel
theorem e_8_16 {d : Nat} {h : mM} {T : mLs} {x : Nat} {st : List Value} : ev d 8 16 ( some (.ref x) :: T) st h = ev d 8 17 ( some (.ref x) :: T) (.ref x :: st) h := ev_of d_8_16 rfl
theorem d_8_17 : decode (cd 8) 17 = .ok (.getfield 28, 3) := by rw [cd_8]; decide +kernel
theorem e_8_17 {d : Nat} {h : mM} {L : mLs} {st : List Value} {a : Nat} : ev d 8 17 L (.ref a :: st) h = if mK h a = 1 then oB (mR h a 0) (fun b => ev d 8 20 L (.ref b :: st) h) else none := ev_gR d_8_17 (by decide +kernel) (by decide +kernel)
theorem d_8_20 : decode (cd 8) 20 = .ok (.getfield 52, 3) := by rw [cd_8]; decide +kernel
theorem e_8_20 {d : Nat} {h : mM} {L : mLs} {st : List Value} {a : Nat} : ev d 8 20 L (.ref a :: st) h = if mK h a = 8 then oB (mR h a 0) (fun b => ev d 8 23 L (.ref b :: st) h) else none := ev_gR d_8_20 (by decide +kernel) (by decide +kernel)
theorem d_8_23 : decode (cd 8) 23 = .ok (.iload_n 2, 1) := by rw [cd_8]; decide +kernel
theorem e_8_23 {d : Nat} {h : mM} {o0 o1 : Option Value} {T : mLs} {x : Int32} {st : List Value} : ev d 8 23 (o0 :: o1 :: some (.int x) :: T) st h = ev d 8 24 (o0 :: o1 :: some (.int x) :: T) (.int x :: st) h := ev_of d_8_23 rfl
theorem d_8_24 : decode (cd 8) 24 = .ok (.aaload, 1) := by rw [cd_8]; decide +kernel
theorem e_8_24 {d : Nat} {h : mM} {L : mLs} {st : List Value} {a : Nat} {i : Int32} : ev d 8 24 L (.int i :: .ref a :: st) h = if (12 < mK h a ∧ mK h a < 19) ∧ ixOK i (mL h a) = true then oB (mR h a i.toNatClampNeg) (fun b => ev d 8 25 L (.ref b :: st) h) else none := ev_aa d_8_24
theorem d_8_25 : decode (cd 8) 25 = .ok (.invokevirtual 140, 3) := by rw [cd_8]; decide +kernel
theorem e_8_25 {d : Nat} {h : mM} {L : mLs} {st : List Value} {a : Nat} (hc : mCat st ≤ 8) : ev (d + 1) 8 25 L (.ref a :: st) h = if mK h a = 3 then cV (ev d 17 0 [some (.ref a)] [] h) (fun v h1 => ev (d + 1) 8 28 L (v ++ st) h1) else none := ev_cv (mj := 17) (as := []) (rest := st) d_8_25 (by decide +kernel) rfl rfl (by show _ ≤ List.length _; simp only [List.length_cons]; have : na 17 = 0 := rfl; omega) rfl (Nat.le_of_ble_eq_true rfl) hc
theorem d_8_28 : decode (cd 8) 28 = .ok (.isub, 1) := by rw [cd_8]; decide +kernel
theorem e_8_28 {d : Nat} {h : mM} {L : mLs} {st : List Value} {x y : Int32} : ev d 8 28 L (.int y :: .int x :: st) h = ev d 8 29 L (.int (x - y) :: st) h := ev_of d_8_28 rfl
theorem d_8_29 : decode (cd 8) 29 = .ok (.istore_n 3, 1) := by rw [cd_8]; decide +kernel
theorem e_8_29 {d : Nat} {h : mM} {o0 o1 o2 o3 : Option Value} {T : mLs} {x : Int32} {st : List Value} (hl : mLong o2 = false) : ev d 8 29 (o0 :: o1 :: o2 :: o3 :: T) (.int x :: st) h = ev d 8 30 (o0 :: o1 :: o2 :: some (.int x) :: T) st h := ev_st_in d_8_29 (by decide +kernel) (mS1_s (j := 2) hl)
theorem d_8_30 : decode (cd 8) 30 = .ok (.iload_n 3, 1) := by rw [cd_8]; decide +kernel
theorem e_8_30 {d : Nat} {h : mM} {o0 o1 o2 : Option Value} {T : mLs} {x : Int32} {st : List Value} : ev d 8 30 (o0 :: o1 :: o2 :: some (.int x) :: T) st h = ev d 8 31 (o0 :: o1 :: o2 :: some (.int x) :: T) (.int x :: st) h := ev_of d_8_30 rfl
theorem d_8_31 : decode (cd 8) 31 = .ok (.ifCond .le 20, 3) := by rw [cd_8]; decide +kernel
theorem e_8_31 {d : Nat} {h : mM} {L : mLs} {st : List Value} {x : Int32} : ev d 8 31 L (.int x :: st) h = if x ≤ 0 then ev d 8 51 L st h else ev d 8 34 L st h := ev_if (x ≤ 0) inferInstance rfl d_8_31 (by decide)
theorem d_8_34 : decode (cd 8) 34 = .ok (.aload_n 1, 1) := by rw [cd_8]; decide +kernel
theorem e_8_34 {d : Nat} {h : mM} {o0 : Option Value} {T : mLs} {x : Nat} {st : List Value} : ev d 8 34 (o0 :: some (.ref x) :: T) st h = ev d 8 35 (o0 :: some (.ref x) :: T) (.ref x :: st) h := ev_of d_8_34 rfl
theorem d_8_35 : decode (cd 8) 35 = .ok (.iload_n 2, 1) := by rw [cd_8]; decide +kernel
theorem e_8_35 {d : Nat} {h : mM} {o0 o1 : Option Value} {T : mLs} {x : Int32} {st : List Value} : ev d 8 35 (o0 :: o1 :: some (.int x) :: T) st h = ev d 8 36 (o0 :: o1 :: some (.int x) :: T) (.int x :: st) h := ev_of d_8_35 rfl
theorem d_8_36 : decode (cd 8) 36 = .ok (.dup2, 1) := by rw [cd_8]; decide +kernel
theorem e_8_36 {d : Nat} {h : mM} {L : mLs} {st : List Value} {a : Nat} {i : Int32} : ev d 8 36 L (.int i :: .ref a :: st) h = ev d 8 37 L (.int i :: .ref a :: .int i :: .ref a :: st) h := ev_of d_8_36 rfl
theorem d_8_37 : decode (cd 8) 37 = .ok (.iaload, 1) := by rw [cd_8]; decide +kernel
theorem e_8_37 {d : Nat} {h : mM} {L : mLs} {st : List Value} {a : Nat} {i : Int32} : ev d 8 37 L (.int i :: .ref a :: st) h = if (mK h a = 11 ∨ mK h a = 19) ∧ ixOK i (mL h a) = true then ev d 8 38 L (.int (mI h a i.toNatClampNeg) :: st) h else none := ev_ia d_8_37
theorem d_8_38 : decode (cd 8) 38 = .ok (.iload_n 3, 1) := by rw [cd_8]; decide +kernel
theorem e_8_38 {d : Nat} {h : mM} {o0 o1 o2 : Option Value} {T : mLs} {x : Int32} {st : List Value} : ev d 8 38 (o0 :: o1 :: o2 :: some (.int x) :: T) st h = ev d 8 39 (o0 :: o1 :: o2 :: some (.int x) :: T) (.int x :: st) h := ev_of d_8_38 rfl
theorem d_8_39 : decode (cd 8) 39 = .ok (.isub, 1) := by rw [cd_8]; decide +kernel
theorem e_8_39 {d : Nat} {h : mM} {L : mLs} {st : List Value} {x y : Int32} : ev d 8 39 L (.int y :: .int x :: st) h = ev d 8 40 L (.int (x - y) :: st) h := ev_of d_8_39 rfl
theorem d_8_40 : decode (cd 8) 40 = .ok (.iastore, 1) := by rw [cd_8]; decide +kernel
theorem e_8_40 {d : Nat} {h : mM} {L : mLs} {st : List Value} {a : Nat} {i v : Int32} : ev d 8 40 L (.int v :: .int i :: .ref a :: st) h = if mK h a = 11 ∧ ixOK i (mL h a) = true then ev d 8 41 L st (wI h a i.toNatClampNeg v) else none := ev_is d_8_40
theorem d_8_41 : decode (cd 8) 41 = .ok (.aload_n 0, 1) := by rw [cd_8]; decide +kernel
theorem e_8_41 {d : Nat} {h : mM} {T : mLs} {x : Nat} {st : List Value} : ev d 8 41 ( some (.ref x) :: T) st h = ev d 8 42 ( some (.ref x) :: T) (.ref x :: st) h := ev_of d_8_41 rfl
theorem d_8_42 : decode (cd 8) 42 = .ok (.dup, 1) := by rw [cd_8]; decide +kernel
theorem e_8_42r {d : Nat} {h : mM} {L : mLs} {st : List Value} {a : Nat} : ev d 8 42 L (.ref a :: st) h = ev d 8 43 L (.ref a :: .ref a :: st) h := ev_of d_8_42 rfl
theorem e_8_42i {d : Nat} {h : mM} {L : mLs} {st : List Value} {x : Int32} : ev d 8 42 L (.int x :: st) h = ev d 8 43 L (.int x :: .int x :: st) h := ev_of d_8_42 rfl
theorem d_8_43 : decode (cd 8) 43 = .ok (.getfield 22, 3) := by rw [cd_8]; decide +kernel
theorem e_8_43 {d : Nat} {h : mM} {L : mLs} {st : List Value} {a : Nat} : ev d 8 43 L (.ref a :: st) h = if mK h a = 1 then ev d 8 46 L (.int (mI h a 4) :: st) h else none := ev_gI d_8_43 (by decide +kernel) (by decide +kernel)
theorem d_8_46 : decode (cd 8) 46 = .ok (.iload_n 3, 1) := by rw [cd_8]; decide +kernel
theorem e_8_46 {d : Nat} {h : mM} {o0 o1 o2 : Option Value} {T : mLs} {x : Int32} {st : List Value} : ev d 8 46 (o0 :: o1 :: o2 :: some (.int x) :: T) st h = ev d 8 47 (o0 :: o1 :: o2 :: some (.int x) :: T) (.int x :: st) h := ev_of d_8_46 rfl
theorem d_8_47 : decode (cd 8) 47 = .ok (.iadd, 1) := by rw [cd_8]; decide +kernel
theorem e_8_47 {d : Nat} {h : mM} {L : mLs} {st : List Value} {x y : Int32} : ev d 8 47 L (.int y :: .int x :: st) h = ev d 8 48 L (.int (x + y) :: st) h := ev_of d_8_47 rfl
theorem d_8_48 : decode (cd 8) 48 = .ok (.putfield 22, 3) := by rw [cd_8]; decide +kernel
theorem e_8_48 {d : Nat} {h : mM} {L : mLs} {st : List Value} {a : Nat} {v : Int32} : ev d 8 48 L (.int v :: .ref a :: st) h = if mK h a = 1 then ev d 8 51 L st (wI h a 4 v) else none := ev_pI d_8_48 (by decide +kernel) (by decide +kernel) (by decide +kernel)
theorem d_8_51 : decode (cd 8) 51 = .ok (.iinc 2 1, 3) := by rw [cd_8]; decide +kernel
theorem e_8_51 {d : Nat} {h : mM} {o0 o1 : Option Value} {T : mLs} {x : Int32} {st : List Value} (hl : mLong o1 = false) : ev d 8 51 (o0 :: o1 :: some (.int x) :: T) st h = ev d 8 54 (o0 :: o1 :: some (.int (x + 1)) :: T) st h := ev_inc d_8_51 (by decide +kernel) rfl rfl (mS1_s (j := 1) hl)
theorem d_8_54 : decode (cd 8) 54 = .ok (.goto (-52), 3) := by rw [cd_8]; decide +kernel
theorem e_8_54 {d : Nat} {h : mM} {L : mLs} {st : List Value} : ev d 8 54 L st h = ev d 8 2 L st h := ev_go d_8_54 (by decide)
theorem d_8_57 : decode (cd 8) 57 = .ok (.return_, 1) := by rw [cd_8]; decide +kernel
theorem e_8_57 {d : Nat} {h : mM} {L : mLs} : ev d 8 57 L [] h = some (none, h) := ev_rv d_8_57 (by decide +kernel)
-- 9: Flow.groundBy
theorem cd_9 : cd 9 = prog_3_method_9_code := rfl
theorem d_9_0 : decode (cd 9) 0 = .ok (.iconst 0, 1) := by rw [cd_9]; decide +kernel
theorem e_9_0 {d : Nat} {h : mM} {L : mLs} {st : List Value} : ev d 9 0 L st h = ev d 9 1 L (.int 0 :: st) h := ev_of d_9_0 rfl
theorem d_9_1 : decode (cd 9) 1 = .ok (.istore_n 2, 1) := by rw [cd_9]; decide +kernel
theorem e_9_1 {d : Nat} {h : mM} {o0 o1 o2 : Option Value} {T : mLs} {x : Int32} {st : List Value} (hl : mLong o1 = false) : ev d 9 1 (o0 :: o1 :: o2 :: T) (.int x :: st) h = ev d 9 2 (o0 :: o1 :: some (.int x) :: T) st h := ev_st_in d_9_1 (by decide +kernel) (mS1_s (j := 1) hl)
theorem d_9_2 : decode (cd 9) 2 = .ok (.iconst 0, 1) := by rw [cd_9]; decide +kernel
theorem e_9_2 {d : Nat} {h : mM} {L : mLs} {st : List Value} : ev d 9 2 L st h = ev d 9 3 L (.int 0 :: st) h := ev_of d_9_2 rfl
theorem d_9_3 : decode (cd 9) 3 = .ok (.istore_n 3, 1) := by rw [cd_9]; decide +kernel
theorem e_9_3 {d : Nat} {h : mM} {o0 o1 o2 o3 : Option Value} {T : mLs} {x : Int32} {st : List Value} (hl : mLong o2 = false) : ev d 9 3 (o0 :: o1 :: o2 :: o3 :: T) (.int x :: st) h = ev d 9 4 (o0 :: o1 :: o2 :: some (.int x) :: T) st h := ev_st_in d_9_3 (by decide +kernel) (mS1_s (j := 2) hl)
theorem d_9_4 : decode (cd 9) 4 = .ok (.iload_n 3, 1) := by rw [cd_9]; decide +kernel
theorem e_9_4 {d : Nat} {h : mM} {o0 o1 o2 : Option Value} {T : mLs} {x : Int32} {st : List Value} : ev d 9 4 (o0 :: o1 :: o2 :: some (.int x) :: T) st h = ev d 9 5 (o0 :: o1 :: o2 :: some (.int x) :: T) (.int x :: st) h := ev_of d_9_4 rfl
theorem d_9_5 : decode (cd 9) 5 = .ok (.iconst 3, 1) := by rw [cd_9]; decide +kernel
theorem e_9_5 {d : Nat} {h : mM} {L : mLs} {st : List Value} : ev d 9 5 L st h = ev d 9 6 L (.int 3 :: st) h := ev_of d_9_5 rfl
theorem d_9_6 : decode (cd 9) 6 = .ok (.if_icmp .ge 22, 3) := by rw [cd_9]; decide +kernel
theorem e_9_6 {d : Nat} {h : mM} {L : mLs} {st : List Value} {x y : Int32} : ev d 9 6 L (.int y :: .int x :: st) h = if y ≤ x then ev d 9 28 L st h else ev d 9 9 L st h := ev_ic (y ≤ x) inferInstance rfl d_9_6 (by decide)
theorem d_9_9 : decode (cd 9) 9 = .ok (.iload_n 2, 1) := by rw [cd_9]; decide +kernel
theorem e_9_9 {d : Nat} {h : mM} {o0 o1 : Option Value} {T : mLs} {x : Int32} {st : List Value} : ev d 9 9 (o0 :: o1 :: some (.int x) :: T) st h = ev d 9 10 (o0 :: o1 :: some (.int x) :: T) (.int x :: st) h := ev_of d_9_9 rfl
theorem d_9_10 : decode (cd 9) 10 = .ok (.aload_n 0, 1) := by rw [cd_9]; decide +kernel
theorem e_9_10 {d : Nat} {h : mM} {T : mLs} {x : Nat} {st : List Value} : ev d 9 10 ( some (.ref x) :: T) st h = ev d 9 11 ( some (.ref x) :: T) (.ref x :: st) h := ev_of d_9_10 rfl
theorem d_9_11 : decode (cd 9) 11 = .ok (.getfield 9, 3) := by rw [cd_9]; decide +kernel
theorem e_9_11 {d : Nat} {h : mM} {L : mLs} {st : List Value} {a : Nat} : ev d 9 11 L (.ref a :: st) h = if mK h a = 1 then oB (mR h a 1) (fun b => ev d 9 14 L (.ref b :: st) h) else none := ev_gR d_9_11 (by decide +kernel) (by decide +kernel)
theorem d_9_14 : decode (cd 9) 14 = .ok (.iload_n 1, 1) := by rw [cd_9]; decide +kernel
theorem e_9_14 {d : Nat} {h : mM} {o0 : Option Value} {T : mLs} {x : Int32} {st : List Value} : ev d 9 14 (o0 :: some (.int x) :: T) st h = ev d 9 15 (o0 :: some (.int x) :: T) (.int x :: st) h := ev_of d_9_14 rfl
theorem d_9_15 : decode (cd 9) 15 = .ok (.iconst 3, 1) := by rw [cd_9]; decide +kernel
theorem e_9_15 {d : Nat} {h : mM} {L : mLs} {st : List Value} : ev d 9 15 L st h = ev d 9 16 L (.int 3 :: st) h := ev_of d_9_15 rfl
theorem d_9_16 : decode (cd 9) 16 = .ok (.imul, 1) := by rw [cd_9]; decide +kernel
theorem e_9_16 {d : Nat} {h : mM} {L : mLs} {st : List Value} {x y : Int32} : ev d 9 16 L (.int y :: .int x :: st) h = ev d 9 17 L (.int (x * y) :: st) h := ev_of d_9_16 rfl
theorem d_9_17 : decode (cd 9) 17 = .ok (.iload_n 3, 1) := by rw [cd_9]; decide +kernel
theorem e_9_17 {d : Nat} {h : mM} {o0 o1 o2 : Option Value} {T : mLs} {x : Int32} {st : List Value} : ev d 9 17 (o0 :: o1 :: o2 :: some (.int x) :: T) st h = ev d 9 18 (o0 :: o1 :: o2 :: some (.int x) :: T) (.int x :: st) h := ev_of d_9_17 rfl
theorem d_9_18 : decode (cd 9) 18 = .ok (.iadd, 1) := by rw [cd_9]; decide +kernel
theorem e_9_18 {d : Nat} {h : mM} {L : mLs} {st : List Value} {x y : Int32} : ev d 9 18 L (.int y :: .int x :: st) h = ev d 9 19 L (.int (x + y) :: st) h := ev_of d_9_18 rfl
theorem d_9_19 : decode (cd 9) 19 = .ok (.iaload, 1) := by rw [cd_9]; decide +kernel
theorem e_9_19 {d : Nat} {h : mM} {L : mLs} {st : List Value} {a : Nat} {i : Int32} : ev d 9 19 L (.int i :: .ref a :: st) h = if (mK h a = 11 ∨ mK h a = 19) ∧ ixOK i (mL h a) = true then ev d 9 20 L (.int (mI h a i.toNatClampNeg) :: st) h else none := ev_ia d_9_19
theorem d_9_20 : decode (cd 9) 20 = .ok (.iadd, 1) := by rw [cd_9]; decide +kernel
theorem e_9_20 {d : Nat} {h : mM} {L : mLs} {st : List Value} {x y : Int32} : ev d 9 20 L (.int y :: .int x :: st) h = ev d 9 21 L (.int (x + y) :: st) h := ev_of d_9_20 rfl
theorem d_9_21 : decode (cd 9) 21 = .ok (.istore_n 2, 1) := by rw [cd_9]; decide +kernel
theorem e_9_21 {d : Nat} {h : mM} {o0 o1 o2 : Option Value} {T : mLs} {x : Int32} {st : List Value} (hl : mLong o1 = false) : ev d 9 21 (o0 :: o1 :: o2 :: T) (.int x :: st) h = ev d 9 22 (o0 :: o1 :: some (.int x) :: T) st h := ev_st_in d_9_21 (by decide +kernel) (mS1_s (j := 1) hl)
theorem d_9_22 : decode (cd 9) 22 = .ok (.iinc 3 1, 3) := by rw [cd_9]; decide +kernel
theorem e_9_22 {d : Nat} {h : mM} {o0 o1 o2 : Option Value} {T : mLs} {x : Int32} {st : List Value} (hl : mLong o2 = false) : ev d 9 22 (o0 :: o1 :: o2 :: some (.int x) :: T) st h = ev d 9 25 (o0 :: o1 :: o2 :: some (.int (x + 1)) :: T) st h := ev_inc d_9_22 (by decide +kernel) rfl rfl (mS1_s (j := 2) hl)
theorem d_9_25 : decode (cd 9) 25 = .ok (.goto (-21), 3) := by rw [cd_9]; decide +kernel
theorem e_9_25 {d : Nat} {h : mM} {L : mLs} {st : List Value} : ev d 9 25 L st h = ev d 9 4 L st h := ev_go d_9_25 (by decide)
theorem d_9_28 : decode (cd 9) 28 = .ok (.iload_n 2, 1) := by rw [cd_9]; decide +kernel
theorem e_9_28 {d : Nat} {h : mM} {o0 o1 : Option Value} {T : mLs} {x : Int32} {st : List Value} : ev d 9 28 (o0 :: o1 :: some (.int x) :: T) st h = ev d 9 29 (o0 :: o1 :: some (.int x) :: T) (.int x :: st) h := ev_of d_9_28 rfl
theorem d_9_29 : decode (cd 9) 29 = .ok (.ireturn, 1) := by rw [cd_9]; decide +kernel
theorem e_9_29 {d : Nat} {h : mM} {L : mLs} {v : Int32} : ev d 9 29 L [.int v] h = some (some (.int v), h) := ev_ri d_9_29 (by decide +kernel)
-- 10: Flow.stonesThatRan
theorem cd_10 : cd 10 = prog_3_method_10_code := rfl
theorem d_10_0 : decode (cd 10) 0 = .ok (.iconst 0, 1) := by rw [cd_10]; decide +kernel
theorem e_10_0 {d : Nat} {h : mM} {L : mLs} {st : List Value} : ev d 10 0 L st h = ev d 10 1 L (.int 0 :: st) h := ev_of d_10_0 rfl
theorem d_10_1 : decode (cd 10) 1 = .ok (.istore_n 2, 1) := by rw [cd_10]; decide +kernel
theorem e_10_1 {d : Nat} {h : mM} {o0 o1 o2 : Option Value} {T : mLs} {x : Int32} {st : List Value} (hl : mLong o1 = false) : ev d 10 1 (o0 :: o1 :: o2 :: T) (.int x :: st) h = ev d 10 2 (o0 :: o1 :: some (.int x) :: T) st h := ev_st_in d_10_1 (by decide +kernel) (mS1_s (j := 1) hl)
theorem d_10_2 : decode (cd 10) 2 = .ok (.iconst 0, 1) := by rw [cd_10]; decide +kernel
theorem e_10_2 {d : Nat} {h : mM} {L : mLs} {st : List Value} : ev d 10 2 L st h = ev d 10 3 L (.int 0 :: st) h := ev_of d_10_2 rfl
theorem d_10_3 : decode (cd 10) 3 = .ok (.istore_n 3, 1) := by rw [cd_10]; decide +kernel
theorem e_10_3 {d : Nat} {h : mM} {o0 o1 o2 o3 : Option Value} {T : mLs} {x : Int32} {st : List Value} (hl : mLong o2 = false) : ev d 10 3 (o0 :: o1 :: o2 :: o3 :: T) (.int x :: st) h = ev d 10 4 (o0 :: o1 :: o2 :: some (.int x) :: T) st h := ev_st_in d_10_3 (by decide +kernel) (mS1_s (j := 2) hl)
theorem d_10_4 : decode (cd 10) 4 = .ok (.iload_n 3, 1) := by rw [cd_10]; decide +kernel
theorem e_10_4 {d : Nat} {h : mM} {o0 o1 o2 : Option Value} {T : mLs} {x : Int32} {st : List Value} : ev d 10 4 (o0 :: o1 :: o2 :: some (.int x) :: T) st h = ev d 10 5 (o0 :: o1 :: o2 :: some (.int x) :: T) (.int x :: st) h := ev_of d_10_4 rfl
theorem d_10_5 : decode (cd 10) 5 = .ok (.iconst 3, 1) := by rw [cd_10]; decide +kernel
theorem e_10_5 {d : Nat} {h : mM} {L : mLs} {st : List Value} : ev d 10 5 L st h = ev d 10 6 L (.int 3 :: st) h := ev_of d_10_5 rfl
theorem d_10_6 : decode (cd 10) 6 = .ok (.if_icmp .ge 25, 3) := by rw [cd_10]; decide +kernel
theorem e_10_6 {d : Nat} {h : mM} {L : mLs} {st : List Value} {x y : Int32} : ev d 10 6 L (.int y :: .int x :: st) h = if y ≤ x then ev d 10 31 L st h else ev d 10 9 L st h := ev_ic (y ≤ x) inferInstance rfl d_10_6 (by decide)
theorem d_10_9 : decode (cd 10) 9 = .ok (.aload_n 0, 1) := by rw [cd_10]; decide +kernel
theorem e_10_9 {d : Nat} {h : mM} {T : mLs} {x : Nat} {st : List Value} : ev d 10 9 ( some (.ref x) :: T) st h = ev d 10 10 ( some (.ref x) :: T) (.ref x :: st) h := ev_of d_10_9 rfl
theorem d_10_10 : decode (cd 10) 10 = .ok (.getfield 9, 3) := by rw [cd_10]; decide +kernel
theorem e_10_10 {d : Nat} {h : mM} {L : mLs} {st : List Value} {a : Nat} : ev d 10 10 L (.ref a :: st) h = if mK h a = 1 then oB (mR h a 1) (fun b => ev d 10 13 L (.ref b :: st) h) else none := ev_gR d_10_10 (by decide +kernel) (by decide +kernel)
theorem d_10_13 : decode (cd 10) 13 = .ok (.iload_n 1, 1) := by rw [cd_10]; decide +kernel
theorem e_10_13 {d : Nat} {h : mM} {o0 : Option Value} {T : mLs} {x : Int32} {st : List Value} : ev d 10 13 (o0 :: some (.int x) :: T) st h = ev d 10 14 (o0 :: some (.int x) :: T) (.int x :: st) h := ev_of d_10_13 rfl
theorem d_10_14 : decode (cd 10) 14 = .ok (.iconst 3, 1) := by rw [cd_10]; decide +kernel
theorem e_10_14 {d : Nat} {h : mM} {L : mLs} {st : List Value} : ev d 10 14 L st h = ev d 10 15 L (.int 3 :: st) h := ev_of d_10_14 rfl
theorem d_10_15 : decode (cd 10) 15 = .ok (.imul, 1) := by rw [cd_10]; decide +kernel
theorem e_10_15 {d : Nat} {h : mM} {L : mLs} {st : List Value} {x y : Int32} : ev d 10 15 L (.int y :: .int x :: st) h = ev d 10 16 L (.int (x * y) :: st) h := ev_of d_10_15 rfl
theorem d_10_16 : decode (cd 10) 16 = .ok (.iload_n 3, 1) := by rw [cd_10]; decide +kernel
theorem e_10_16 {d : Nat} {h : mM} {o0 o1 o2 : Option Value} {T : mLs} {x : Int32} {st : List Value} : ev d 10 16 (o0 :: o1 :: o2 :: some (.int x) :: T) st h = ev d 10 17 (o0 :: o1 :: o2 :: some (.int x) :: T) (.int x :: st) h := ev_of d_10_16 rfl
theorem d_10_17 : decode (cd 10) 17 = .ok (.iadd, 1) := by rw [cd_10]; decide +kernel
theorem e_10_17 {d : Nat} {h : mM} {L : mLs} {st : List Value} {x y : Int32} : ev d 10 17 L (.int y :: .int x :: st) h = ev d 10 18 L (.int (x + y) :: st) h := ev_of d_10_17 rfl
theorem d_10_18 : decode (cd 10) 18 = .ok (.iaload, 1) := by rw [cd_10]; decide +kernel
theorem e_10_18 {d : Nat} {h : mM} {L : mLs} {st : List Value} {a : Nat} {i : Int32} : ev d 10 18 L (.int i :: .ref a :: st) h = if (mK h a = 11 ∨ mK h a = 19) ∧ ixOK i (mL h a) = true then ev d 10 19 L (.int (mI h a i.toNatClampNeg) :: st) h else none := ev_ia d_10_18
theorem d_10_19 : decode (cd 10) 19 = .ok (.ifCond .le 6, 3) := by rw [cd_10]; decide +kernel
theorem e_10_19 {d : Nat} {h : mM} {L : mLs} {st : List Value} {x : Int32} : ev d 10 19 L (.int x :: st) h = if x ≤ 0 then ev d 10 25 L st h else ev d 10 22 L st h := ev_if (x ≤ 0) inferInstance rfl d_10_19 (by decide)
theorem d_10_22 : decode (cd 10) 22 = .ok (.iinc 2 1, 3) := by rw [cd_10]; decide +kernel
theorem e_10_22 {d : Nat} {h : mM} {o0 o1 : Option Value} {T : mLs} {x : Int32} {st : List Value} (hl : mLong o1 = false) : ev d 10 22 (o0 :: o1 :: some (.int x) :: T) st h = ev d 10 25 (o0 :: o1 :: some (.int (x + 1)) :: T) st h := ev_inc d_10_22 (by decide +kernel) rfl rfl (mS1_s (j := 1) hl)
theorem d_10_25 : decode (cd 10) 25 = .ok (.iinc 3 1, 3) := by rw [cd_10]; decide +kernel
theorem e_10_25 {d : Nat} {h : mM} {o0 o1 o2 : Option Value} {T : mLs} {x : Int32} {st : List Value} (hl : mLong o2 = false) : ev d 10 25 (o0 :: o1 :: o2 :: some (.int x) :: T) st h = ev d 10 28 (o0 :: o1 :: o2 :: some (.int (x + 1)) :: T) st h := ev_inc d_10_25 (by decide +kernel) rfl rfl (mS1_s (j := 2) hl)
theorem d_10_28 : decode (cd 10) 28 = .ok (.goto (-24), 3) := by rw [cd_10]; decide +kernel
theorem e_10_28 {d : Nat} {h : mM} {L : mLs} {st : List Value} : ev d 10 28 L st h = ev d 10 4 L st h := ev_go d_10_28 (by decide)
theorem d_10_31 : decode (cd 10) 31 = .ok (.iload_n 2, 1) := by rw [cd_10]; decide +kernel
theorem e_10_31 {d : Nat} {h : mM} {o0 o1 : Option Value} {T : mLs} {x : Int32} {st : List Value} : ev d 10 31 (o0 :: o1 :: some (.int x) :: T) st h = ev d 10 32 (o0 :: o1 :: some (.int x) :: T) (.int x :: st) h := ev_of d_10_31 rfl
theorem d_10_32 : decode (cd 10) 32 = .ok (.ireturn, 1) := by rw [cd_10]; decide +kernel
theorem e_10_32 {d : Nat} {h : mM} {L : mLs} {v : Int32} : ev d 10 32 L [.int v] h = some (some (.int v), h) := ev_ri d_10_32 (by decide +kernel)
-- 11: Mill.<init>
theorem cd_11 : cd 11 = prog_4_method_1_code := rfl
theorem d_11_0 : decode (cd 11) 0 = .ok (.aload_n 0, 1) := by rw [cd_11]; decide +kernel
theorem e_11_0 {d : Nat} {h : mM} {T : mLs} {x : Nat} {st : List Value} : ev d 11 0 ( some (.ref x) :: T) st h = ev d 11 1 ( some (.ref x) :: T) (.ref x :: st) h := ev_of d_11_0 rfl
theorem d_11_1 : decode (cd 11) 1 = .ok (.invokespecial 3, 3) := by rw [cd_11]; decide +kernel
theorem e_11_1 {d : Nat} {h : mM} {L : mLs} {st : List Value} {a : Nat} (hc : mCat st ≤ 8) : ev d 11 1 L (.ref a :: st) h = ev d 11 4 L st h := ev_obj (mj := 0) d_11_1 (by decide +kernel) hc
theorem d_11_4 : decode (cd 11) 4 = .ok (.aload_n 0, 1) := by rw [cd_11]; decide +kernel
theorem e_11_4 {d : Nat} {h : mM} {T : mLs} {x : Nat} {st : List Value} : ev d 11 4 ( some (.ref x) :: T) st h = ev d 11 5 ( some (.ref x) :: T) (.ref x :: st) h := ev_of d_11_4 rfl
theorem d_11_5 : decode (cd 11) 5 = .ok (.iconst 3, 1) := by rw [cd_11]; decide +kernel
theorem e_11_5 {d : Nat} {h : mM} {L : mLs} {st : List Value} : ev d 11 5 L st h = ev d 11 6 L (.int 3 :: st) h := ev_of d_11_5 rfl
theorem d_11_6 : decode (cd 11) 6 = .ok (.anewarray 9, 3) := by rw [cd_11]; decide +kernel
theorem e_11_6 {d : Nat} {h : mM} {L : mLs} {st : List Value} {n : Int32} (hn : ¬ n < 0) (h1 : n.toNatClampNeg ≤ 1000) : ev d 11 6 L (.int n :: st) h = ev d 11 9 L (.ref (mN h) :: st) (wN h 16 n.toNatClampNeg) := ev_anew d_11_6 (by decide +kernel : nGet (ow 11) 9 = some 6) (by decide) hn h1
theorem d_11_9 : decode (cd 11) 9 = .ok (.putfield 11, 3) := by rw [cd_11]; decide +kernel
theorem e_11_9 {d : Nat} {h : mM} {L : mLs} {st : List Value} {a b : Nat} : ev d 11 9 L (.ref b :: .ref a :: st) h = if mK h a = 2 then ev d 11 12 L st (wR h a 0 (some b)) else none := ev_pR d_11_9 (by decide +kernel) (by decide +kernel) (by decide +kernel)
theorem d_11_12 : decode (cd 11) 12 = .ok (.aload_n 0, 1) := by rw [cd_11]; decide +kernel
theorem e_11_12 {d : Nat} {h : mM} {T : mLs} {x : Nat} {st : List Value} : ev d 11 12 ( some (.ref x) :: T) st h = ev d 11 13 ( some (.ref x) :: T) (.ref x :: st) h := ev_of d_11_12 rfl
theorem d_11_13 : decode (cd 11) 13 = .ok (.bipush 12, 2) := by rw [cd_11]; decide +kernel
theorem e_11_13 {d : Nat} {h : mM} {L : mLs} {st : List Value} : ev d 11 13 L st h = ev d 11 15 L (.int 12 :: st) h := ev_of d_11_13 rfl
theorem d_11_15 : decode (cd 11) 15 = .ok (.anewarray 17, 3) := by rw [cd_11]; decide +kernel
theorem e_11_15 {d : Nat} {h : mM} {L : mLs} {st : List Value} {n : Int32} (hn : ¬ n < 0) (h1 : n.toNatClampNeg ≤ 1000) : ev d 11 15 L (.int n :: st) h = ev d 11 18 L (.ref (mN h) :: st) (wN h 17 n.toNatClampNeg) := ev_anew d_11_15 (by decide +kernel : nGet (ow 11) 17 = some 4) (by decide) hn h1
theorem d_11_18 : decode (cd 11) 18 = .ok (.putfield 19, 3) := by rw [cd_11]; decide +kernel
theorem e_11_18 {d : Nat} {h : mM} {L : mLs} {st : List Value} {a b : Nat} : ev d 11 18 L (.ref b :: .ref a :: st) h = if mK h a = 2 then ev d 11 21 L st (wR h a 1 (some b)) else none := ev_pR d_11_18 (by decide +kernel) (by decide +kernel) (by decide +kernel)
theorem d_11_21 : decode (cd 11) 21 = .ok (.aload_n 0, 1) := by rw [cd_11]; decide +kernel
theorem e_11_21 {d : Nat} {h : mM} {T : mLs} {x : Nat} {st : List Value} : ev d 11 21 ( some (.ref x) :: T) st h = ev d 11 22 ( some (.ref x) :: T) (.ref x :: st) h := ev_of d_11_21 rfl
theorem d_11_22 : decode (cd 11) 22 = .ok (.iconst 0, 1) := by rw [cd_11]; decide +kernel
theorem e_11_22 {d : Nat} {h : mM} {L : mLs} {st : List Value} : ev d 11 22 L st h = ev d 11 23 L (.int 0 :: st) h := ev_of d_11_22 rfl
theorem d_11_23 : decode (cd 11) 23 = .ok (.putfield 23, 3) := by rw [cd_11]; decide +kernel
theorem e_11_23 {d : Nat} {h : mM} {L : mLs} {st : List Value} {a : Nat} {v : Int32} : ev d 11 23 L (.int v :: .ref a :: st) h = if mK h a = 2 then ev d 11 26 L st (wI h a 2 v) else none := ev_pI d_11_23 (by decide +kernel) (by decide +kernel) (by decide +kernel)
theorem d_11_26 : decode (cd 11) 26 = .ok (.aload_n 0, 1) := by rw [cd_11]; decide +kernel
theorem e_11_26 {d : Nat} {h : mM} {T : mLs} {x : Nat} {st : List Value} : ev d 11 26 ( some (.ref x) :: T) st h = ev d 11 27 ( some (.ref x) :: T) (.ref x :: st) h := ev_of d_11_26 rfl
theorem d_11_27 : decode (cd 11) 27 = .ok (.iconst 0, 1) := by rw [cd_11]; decide +kernel
theorem e_11_27 {d : Nat} {h : mM} {L : mLs} {st : List Value} : ev d 11 27 L st h = ev d 11 28 L (.int 0 :: st) h := ev_of d_11_27 rfl
theorem d_11_28 : decode (cd 11) 28 = .ok (.putfield 27, 3) := by rw [cd_11]; decide +kernel
theorem e_11_28 {d : Nat} {h : mM} {L : mLs} {st : List Value} {a : Nat} {v : Int32} : ev d 11 28 L (.int v :: .ref a :: st) h = if mK h a = 2 then ev d 11 31 L st (wI h a 3 v) else none := ev_pI d_11_28 (by decide +kernel) (by decide +kernel) (by decide +kernel)
theorem d_11_31 : decode (cd 11) 31 = .ok (.aload_n 0, 1) := by rw [cd_11]; decide +kernel
theorem e_11_31 {d : Nat} {h : mM} {T : mLs} {x : Nat} {st : List Value} : ev d 11 31 ( some (.ref x) :: T) st h = ev d 11 32 ( some (.ref x) :: T) (.ref x :: st) h := ev_of d_11_31 rfl
theorem d_11_32 : decode (cd 11) 32 = .ok (.iconst 0, 1) := by rw [cd_11]; decide +kernel
theorem e_11_32 {d : Nat} {h : mM} {L : mLs} {st : List Value} : ev d 11 32 L st h = ev d 11 33 L (.int 0 :: st) h := ev_of d_11_32 rfl
theorem d_11_33 : decode (cd 11) 33 = .ok (.putfield 30, 3) := by rw [cd_11]; decide +kernel
theorem e_11_33 {d : Nat} {h : mM} {L : mLs} {st : List Value} {a : Nat} {v : Int32} : ev d 11 33 L (.int v :: .ref a :: st) h = if mK h a = 2 then ev d 11 36 L st (wI h a 4 v) else none := ev_pI d_11_33 (by decide +kernel) (by decide +kernel) (by decide +kernel)
theorem d_11_36 : decode (cd 11) 36 = .ok (.aload_n 0, 1) := by rw [cd_11]; decide +kernel
theorem e_11_36 {d : Nat} {h : mM} {T : mLs} {x : Nat} {st : List Value} : ev d 11 36 ( some (.ref x) :: T) st h = ev d 11 37 ( some (.ref x) :: T) (.ref x :: st) h := ev_of d_11_36 rfl
theorem d_11_37 : decode (cd 11) 37 = .ok (.iconst 0, 1) := by rw [cd_11]; decide +kernel
theorem e_11_37 {d : Nat} {h : mM} {L : mLs} {st : List Value} : ev d 11 37 L st h = ev d 11 38 L (.int 0 :: st) h := ev_of d_11_37 rfl
theorem d_11_38 : decode (cd 11) 38 = .ok (.putfield 33, 3) := by rw [cd_11]; decide +kernel
theorem e_11_38 {d : Nat} {h : mM} {L : mLs} {st : List Value} {a : Nat} {v : Int32} : ev d 11 38 L (.int v :: .ref a :: st) h = if mK h a = 2 then ev d 11 41 L st (wI h a 5 v) else none := ev_pI d_11_38 (by decide +kernel) (by decide +kernel) (by decide +kernel)
theorem d_11_41 : decode (cd 11) 41 = .ok (.aload_n 0, 1) := by rw [cd_11]; decide +kernel
theorem e_11_41 {d : Nat} {h : mM} {T : mLs} {x : Nat} {st : List Value} : ev d 11 41 ( some (.ref x) :: T) st h = ev d 11 42 ( some (.ref x) :: T) (.ref x :: st) h := ev_of d_11_41 rfl
theorem d_11_42 : decode (cd 11) 42 = .ok (.iconst 0, 1) := by rw [cd_11]; decide +kernel
theorem e_11_42 {d : Nat} {h : mM} {L : mLs} {st : List Value} : ev d 11 42 L st h = ev d 11 43 L (.int 0 :: st) h := ev_of d_11_42 rfl
theorem d_11_43 : decode (cd 11) 43 = .ok (.putfield 36, 3) := by rw [cd_11]; decide +kernel
theorem e_11_43 {d : Nat} {h : mM} {L : mLs} {st : List Value} {a : Nat} {v : Int32} : ev d 11 43 L (.int v :: .ref a :: st) h = if mK h a = 2 then ev d 11 46 L st (wI h a 6 v) else none := ev_pI d_11_43 (by decide +kernel) (by decide +kernel) (by decide +kernel)
theorem d_11_46 : decode (cd 11) 46 = .ok (.aload_n 0, 1) := by rw [cd_11]; decide +kernel
theorem e_11_46 {d : Nat} {h : mM} {T : mLs} {x : Nat} {st : List Value} : ev d 11 46 ( some (.ref x) :: T) st h = ev d 11 47 ( some (.ref x) :: T) (.ref x :: st) h := ev_of d_11_46 rfl
theorem d_11_47 : decode (cd 11) 47 = .ok (.iconst 0, 1) := by rw [cd_11]; decide +kernel
theorem e_11_47 {d : Nat} {h : mM} {L : mLs} {st : List Value} : ev d 11 47 L st h = ev d 11 48 L (.int 0 :: st) h := ev_of d_11_47 rfl
theorem d_11_48 : decode (cd 11) 48 = .ok (.putfield 39, 3) := by rw [cd_11]; decide +kernel
theorem e_11_48 {d : Nat} {h : mM} {L : mLs} {st : List Value} {a : Nat} {v : Int32} : ev d 11 48 L (.int v :: .ref a :: st) h = if mK h a = 2 then ev d 11 51 L st (wI h a 7 v) else none := ev_pI d_11_48 (by decide +kernel) (by decide +kernel) (by decide +kernel)
theorem d_11_51 : decode (cd 11) 51 = .ok (.aload_n 0, 1) := by rw [cd_11]; decide +kernel
theorem e_11_51 {d : Nat} {h : mM} {T : mLs} {x : Nat} {st : List Value} : ev d 11 51 ( some (.ref x) :: T) st h = ev d 11 52 ( some (.ref x) :: T) (.ref x :: st) h := ev_of d_11_51 rfl
theorem d_11_52 : decode (cd 11) 52 = .ok (.iconst 0, 1) := by rw [cd_11]; decide +kernel
theorem e_11_52 {d : Nat} {h : mM} {L : mLs} {st : List Value} : ev d 11 52 L st h = ev d 11 53 L (.int 0 :: st) h := ev_of d_11_52 rfl
theorem d_11_53 : decode (cd 11) 53 = .ok (.putfield 42, 3) := by rw [cd_11]; decide +kernel
theorem e_11_53 {d : Nat} {h : mM} {L : mLs} {st : List Value} {a : Nat} {v : Int32} : ev d 11 53 L (.int v :: .ref a :: st) h = if mK h a = 2 then ev d 11 56 L st (wI h a 8 v) else none := ev_pI d_11_53 (by decide +kernel) (by decide +kernel) (by decide +kernel)
theorem d_11_56 : decode (cd 11) 56 = .ok (.aload_n 0, 1) := by rw [cd_11]; decide +kernel
theorem e_11_56 {d : Nat} {h : mM} {T : mLs} {x : Nat} {st : List Value} : ev d 11 56 ( some (.ref x) :: T) st h = ev d 11 57 ( some (.ref x) :: T) (.ref x :: st) h := ev_of d_11_56 rfl
theorem d_11_57 : decode (cd 11) 57 = .ok (.iconst 0, 1) := by rw [cd_11]; decide +kernel
theorem e_11_57 {d : Nat} {h : mM} {L : mLs} {st : List Value} : ev d 11 57 L st h = ev d 11 58 L (.int 0 :: st) h := ev_of d_11_57 rfl
theorem d_11_58 : decode (cd 11) 58 = .ok (.putfield 45, 3) := by rw [cd_11]; decide +kernel
theorem e_11_58 {d : Nat} {h : mM} {L : mLs} {st : List Value} {a : Nat} {v : Int32} : ev d 11 58 L (.int v :: .ref a :: st) h = if mK h a = 2 then ev d 11 61 L st (wI h a 9 v) else none := ev_pI d_11_58 (by decide +kernel) (by decide +kernel) (by decide +kernel)
theorem d_11_61 : decode (cd 11) 61 = .ok (.aload_n 0, 1) := by rw [cd_11]; decide +kernel
theorem e_11_61 {d : Nat} {h : mM} {T : mLs} {x : Nat} {st : List Value} : ev d 11 61 ( some (.ref x) :: T) st h = ev d 11 62 ( some (.ref x) :: T) (.ref x :: st) h := ev_of d_11_61 rfl
theorem d_11_62 : decode (cd 11) 62 = .ok (.iconst 0, 1) := by rw [cd_11]; decide +kernel
theorem e_11_62 {d : Nat} {h : mM} {L : mLs} {st : List Value} : ev d 11 62 L st h = ev d 11 63 L (.int 0 :: st) h := ev_of d_11_62 rfl
theorem d_11_63 : decode (cd 11) 63 = .ok (.putfield 48, 3) := by rw [cd_11]; decide +kernel
theorem e_11_63 {d : Nat} {h : mM} {L : mLs} {st : List Value} {a : Nat} {v : Int32} : ev d 11 63 L (.int v :: .ref a :: st) h = if mK h a = 2 then ev d 11 66 L st (wI h a 10 v) else none := ev_pI d_11_63 (by decide +kernel) (by decide +kernel) (by decide +kernel)
theorem d_11_66 : decode (cd 11) 66 = .ok (.aload_n 0, 1) := by rw [cd_11]; decide +kernel
theorem e_11_66 {d : Nat} {h : mM} {T : mLs} {x : Nat} {st : List Value} : ev d 11 66 ( some (.ref x) :: T) st h = ev d 11 67 ( some (.ref x) :: T) (.ref x :: st) h := ev_of d_11_66 rfl
theorem d_11_67 : decode (cd 11) 67 = .ok (.iconst 0, 1) := by rw [cd_11]; decide +kernel
theorem e_11_67 {d : Nat} {h : mM} {L : mLs} {st : List Value} : ev d 11 67 L st h = ev d 11 68 L (.int 0 :: st) h := ev_of d_11_67 rfl
theorem d_11_68 : decode (cd 11) 68 = .ok (.putfield 51, 3) := by rw [cd_11]; decide +kernel
theorem e_11_68 {d : Nat} {h : mM} {L : mLs} {st : List Value} {a : Nat} {v : Int32} : ev d 11 68 L (.int v :: .ref a :: st) h = if mK h a = 2 then ev d 11 71 L st (wI h a 11 v) else none := ev_pI d_11_68 (by decide +kernel) (by decide +kernel) (by decide +kernel)
theorem d_11_71 : decode (cd 11) 71 = .ok (.aload_n 0, 1) := by rw [cd_11]; decide +kernel
theorem e_11_71 {d : Nat} {h : mM} {T : mLs} {x : Nat} {st : List Value} : ev d 11 71 ( some (.ref x) :: T) st h = ev d 11 72 ( some (.ref x) :: T) (.ref x :: st) h := ev_of d_11_71 rfl
theorem d_11_72 : decode (cd 11) 72 = .ok (.iconst 0, 1) := by rw [cd_11]; decide +kernel
theorem e_11_72 {d : Nat} {h : mM} {L : mLs} {st : List Value} : ev d 11 72 L st h = ev d 11 73 L (.int 0 :: st) h := ev_of d_11_72 rfl
theorem d_11_73 : decode (cd 11) 73 = .ok (.putfield 54, 3) := by rw [cd_11]; decide +kernel
theorem e_11_73 {d : Nat} {h : mM} {L : mLs} {st : List Value} {a : Nat} {v : Int32} : ev d 11 73 L (.int v :: .ref a :: st) h = if mK h a = 2 then ev d 11 76 L st (wI h a 12 v) else none := ev_pI d_11_73 (by decide +kernel) (by decide +kernel) (by decide +kernel)
theorem d_11_76 : decode (cd 11) 76 = .ok (.aload_n 0, 1) := by rw [cd_11]; decide +kernel
theorem e_11_76 {d : Nat} {h : mM} {T : mLs} {x : Nat} {st : List Value} : ev d 11 76 ( some (.ref x) :: T) st h = ev d 11 77 ( some (.ref x) :: T) (.ref x :: st) h := ev_of d_11_76 rfl
theorem d_11_77 : decode (cd 11) 77 = .ok (.iconst 0, 1) := by rw [cd_11]; decide +kernel
theorem e_11_77 {d : Nat} {h : mM} {L : mLs} {st : List Value} : ev d 11 77 L st h = ev d 11 78 L (.int 0 :: st) h := ev_of d_11_77 rfl
theorem d_11_78 : decode (cd 11) 78 = .ok (.putfield 57, 3) := by rw [cd_11]; decide +kernel
theorem e_11_78 {d : Nat} {h : mM} {L : mLs} {st : List Value} {a : Nat} {v : Int32} : ev d 11 78 L (.int v :: .ref a :: st) h = if mK h a = 2 then ev d 11 81 L st (wI h a 13 v) else none := ev_pI d_11_78 (by decide +kernel) (by decide +kernel) (by decide +kernel)
theorem d_11_81 : decode (cd 11) 81 = .ok (.aload_n 0, 1) := by rw [cd_11]; decide +kernel
theorem e_11_81 {d : Nat} {h : mM} {T : mLs} {x : Nat} {st : List Value} : ev d 11 81 ( some (.ref x) :: T) st h = ev d 11 82 ( some (.ref x) :: T) (.ref x :: st) h := ev_of d_11_81 rfl
theorem d_11_82 : decode (cd 11) 82 = .ok (.iconst 0, 1) := by rw [cd_11]; decide +kernel
theorem e_11_82 {d : Nat} {h : mM} {L : mLs} {st : List Value} : ev d 11 82 L st h = ev d 11 83 L (.int 0 :: st) h := ev_of d_11_82 rfl
theorem d_11_83 : decode (cd 11) 83 = .ok (.putfield 60, 3) := by rw [cd_11]; decide +kernel
theorem e_11_83 {d : Nat} {h : mM} {L : mLs} {st : List Value} {a : Nat} {v : Int32} : ev d 11 83 L (.int v :: .ref a :: st) h = if mK h a = 2 then ev d 11 86 L st (wI h a 14 v) else none := ev_pI d_11_83 (by decide +kernel) (by decide +kernel) (by decide +kernel)
theorem d_11_86 : decode (cd 11) 86 = .ok (.iconst 0, 1) := by rw [cd_11]; decide +kernel
theorem e_11_86 {d : Nat} {h : mM} {L : mLs} {st : List Value} : ev d 11 86 L st h = ev d 11 87 L (.int 0 :: st) h := ev_of d_11_86 rfl
theorem d_11_87 : decode (cd 11) 87 = .ok (.istore_n 1, 1) := by rw [cd_11]; decide +kernel
theorem e_11_87 {d : Nat} {h : mM} {o0 o1 : Option Value} {T : mLs} {x : Int32} {st : List Value} (hl : mLong o0 = false) : ev d 11 87 (o0 :: o1 :: T) (.int x :: st) h = ev d 11 88 (o0 :: some (.int x) :: T) st h := ev_st_in d_11_87 (by decide +kernel) (mS1_s (j := 0) hl)
theorem d_11_88 : decode (cd 11) 88 = .ok (.iload_n 1, 1) := by rw [cd_11]; decide +kernel
theorem e_11_88 {d : Nat} {h : mM} {o0 : Option Value} {T : mLs} {x : Int32} {st : List Value} : ev d 11 88 (o0 :: some (.int x) :: T) st h = ev d 11 89 (o0 :: some (.int x) :: T) (.int x :: st) h := ev_of d_11_88 rfl
theorem d_11_89 : decode (cd 11) 89 = .ok (.iconst 3, 1) := by rw [cd_11]; decide +kernel
theorem e_11_89 {d : Nat} {h : mM} {L : mLs} {st : List Value} : ev d 11 89 L st h = ev d 11 90 L (.int 3 :: st) h := ev_of d_11_89 rfl
theorem d_11_90 : decode (cd 11) 90 = .ok (.if_icmp .ge 22, 3) := by rw [cd_11]; decide +kernel
theorem e_11_90 {d : Nat} {h : mM} {L : mLs} {st : List Value} {x y : Int32} : ev d 11 90 L (.int y :: .int x :: st) h = if y ≤ x then ev d 11 112 L st h else ev d 11 93 L st h := ev_ic (y ≤ x) inferInstance rfl d_11_90 (by decide)
theorem d_11_93 : decode (cd 11) 93 = .ok (.aload_n 0, 1) := by rw [cd_11]; decide +kernel
theorem e_11_93 {d : Nat} {h : mM} {T : mLs} {x : Nat} {st : List Value} : ev d 11 93 ( some (.ref x) :: T) st h = ev d 11 94 ( some (.ref x) :: T) (.ref x :: st) h := ev_of d_11_93 rfl
theorem d_11_94 : decode (cd 11) 94 = .ok (.getfield 11, 3) := by rw [cd_11]; decide +kernel
theorem e_11_94 {d : Nat} {h : mM} {L : mLs} {st : List Value} {a : Nat} : ev d 11 94 L (.ref a :: st) h = if mK h a = 2 then oB (mR h a 0) (fun b => ev d 11 97 L (.ref b :: st) h) else none := ev_gR d_11_94 (by decide +kernel) (by decide +kernel)
theorem d_11_97 : decode (cd 11) 97 = .ok (.iload_n 1, 1) := by rw [cd_11]; decide +kernel
theorem e_11_97 {d : Nat} {h : mM} {o0 : Option Value} {T : mLs} {x : Int32} {st : List Value} : ev d 11 97 (o0 :: some (.int x) :: T) st h = ev d 11 98 (o0 :: some (.int x) :: T) (.int x :: st) h := ev_of d_11_97 rfl
theorem d_11_98 : decode (cd 11) 98 = .ok (.new 9, 3) := by rw [cd_11]; decide +kernel
theorem e_11_98 {d : Nat} {h : mM} {L : mLs} {st : List Value} : ev d 11 98 L st h = ev d 11 101 L (.ref (mN h) :: st) (wN h 6 5) := ev_new d_11_98 (by decide +kernel)
theorem d_11_101 : decode (cd 11) 101 = .ok (.dup, 1) := by rw [cd_11]; decide +kernel
theorem e_11_101r {d : Nat} {h : mM} {L : mLs} {st : List Value} {a : Nat} : ev d 11 101 L (.ref a :: st) h = ev d 11 102 L (.ref a :: .ref a :: st) h := ev_of d_11_101 rfl
theorem e_11_101i {d : Nat} {h : mM} {L : mLs} {st : List Value} {x : Int32} : ev d 11 101 L (.int x :: st) h = ev d 11 102 L (.int x :: .int x :: st) h := ev_of d_11_101 rfl
theorem d_11_102 : decode (cd 11) 102 = .ok (.invokespecial 63, 3) := by rw [cd_11]; decide +kernel
theorem e_11_102 {d : Nat} {h : mM} {L : mLs} {st : List Value} {a : Nat} (hc : mCat st ≤ 8) : ev (d + 1) 11 102 L (.ref a :: st) h = cV (ev d 27 0 [some (.ref a)] [] h) (fun v h1 => ev (d + 1) 11 105 L (v ++ st) h1) := ev_ci (kd := 4) (mj := 27) (as := []) (rest := st) d_11_102 (by decide +kernel) (by decide) rfl rfl (by show _ ≤ List.length _; simp only [List.length_cons]; have : na 27 = 0 := rfl; omega) rfl (Nat.le_of_ble_eq_true rfl) hc
theorem d_11_105 : decode (cd 11) 105 = .ok (.aastore, 1) := by rw [cd_11]; decide +kernel
theorem e_11_105 {d : Nat} {h : mM} {L : mLs} {st : List Value} {a b : Nat} {i : Int32} : ev d 11 105 L (.ref b :: .int i :: .ref a :: st) h = if (12 < mK h a ∧ mK h a < 18) ∧ mK h b = mEl (mK h a) ∧ ixOK i (mL h a) = true then ev d 11 106 L st (wR h a i.toNatClampNeg (some b)) else none := ev_as d_11_105
theorem d_11_106 : decode (cd 11) 106 = .ok (.iinc 1 1, 3) := by rw [cd_11]; decide +kernel
theorem e_11_106 {d : Nat} {h : mM} {o0 : Option Value} {T : mLs} {x : Int32} {st : List Value} (hl : mLong o0 = false) : ev d 11 106 (o0 :: some (.int x) :: T) st h = ev d 11 109 (o0 :: some (.int (x + 1)) :: T) st h := ev_inc d_11_106 (by decide +kernel) rfl rfl (mS1_s (j := 0) hl)
theorem d_11_109 : decode (cd 11) 109 = .ok (.goto (-21), 3) := by rw [cd_11]; decide +kernel
theorem e_11_109 {d : Nat} {h : mM} {L : mLs} {st : List Value} : ev d 11 109 L st h = ev d 11 88 L st h := ev_go d_11_109 (by decide)
theorem d_11_112 : decode (cd 11) 112 = .ok (.iconst 0, 1) := by rw [cd_11]; decide +kernel
theorem e_11_112 {d : Nat} {h : mM} {L : mLs} {st : List Value} : ev d 11 112 L st h = ev d 11 113 L (.int 0 :: st) h := ev_of d_11_112 rfl
theorem d_11_113 : decode (cd 11) 113 = .ok (.istore_n 1, 1) := by rw [cd_11]; decide +kernel
theorem e_11_113 {d : Nat} {h : mM} {o0 o1 : Option Value} {T : mLs} {x : Int32} {st : List Value} (hl : mLong o0 = false) : ev d 11 113 (o0 :: o1 :: T) (.int x :: st) h = ev d 11 114 (o0 :: some (.int x) :: T) st h := ev_st_in d_11_113 (by decide +kernel) (mS1_s (j := 0) hl)
theorem d_11_114 : decode (cd 11) 114 = .ok (.iload_n 1, 1) := by rw [cd_11]; decide +kernel
theorem e_11_114 {d : Nat} {h : mM} {o0 : Option Value} {T : mLs} {x : Int32} {st : List Value} : ev d 11 114 (o0 :: some (.int x) :: T) st h = ev d 11 115 (o0 :: some (.int x) :: T) (.int x :: st) h := ev_of d_11_114 rfl
theorem d_11_115 : decode (cd 11) 115 = .ok (.bipush 12, 2) := by rw [cd_11]; decide +kernel
theorem e_11_115 {d : Nat} {h : mM} {L : mLs} {st : List Value} : ev d 11 115 L st h = ev d 11 117 L (.int 12 :: st) h := ev_of d_11_115 rfl
theorem d_11_117 : decode (cd 11) 117 = .ok (.if_icmp .ge 22, 3) := by rw [cd_11]; decide +kernel
theorem e_11_117 {d : Nat} {h : mM} {L : mLs} {st : List Value} {x y : Int32} : ev d 11 117 L (.int y :: .int x :: st) h = if y ≤ x then ev d 11 139 L st h else ev d 11 120 L st h := ev_ic (y ≤ x) inferInstance rfl d_11_117 (by decide)
theorem d_11_120 : decode (cd 11) 120 = .ok (.aload_n 0, 1) := by rw [cd_11]; decide +kernel
theorem e_11_120 {d : Nat} {h : mM} {T : mLs} {x : Nat} {st : List Value} : ev d 11 120 ( some (.ref x) :: T) st h = ev d 11 121 ( some (.ref x) :: T) (.ref x :: st) h := ev_of d_11_120 rfl
theorem d_11_121 : decode (cd 11) 121 = .ok (.getfield 19, 3) := by rw [cd_11]; decide +kernel
theorem e_11_121 {d : Nat} {h : mM} {L : mLs} {st : List Value} {a : Nat} : ev d 11 121 L (.ref a :: st) h = if mK h a = 2 then oB (mR h a 1) (fun b => ev d 11 124 L (.ref b :: st) h) else none := ev_gR d_11_121 (by decide +kernel) (by decide +kernel)
theorem d_11_124 : decode (cd 11) 124 = .ok (.iload_n 1, 1) := by rw [cd_11]; decide +kernel
theorem e_11_124 {d : Nat} {h : mM} {o0 : Option Value} {T : mLs} {x : Int32} {st : List Value} : ev d 11 124 (o0 :: some (.int x) :: T) st h = ev d 11 125 (o0 :: some (.int x) :: T) (.int x :: st) h := ev_of d_11_124 rfl
theorem d_11_125 : decode (cd 11) 125 = .ok (.new 17, 3) := by rw [cd_11]; decide +kernel
theorem e_11_125 {d : Nat} {h : mM} {L : mLs} {st : List Value} : ev d 11 125 L st h = ev d 11 128 L (.ref (mN h) :: st) (wN h 4 4) := ev_new d_11_125 (by decide +kernel)
theorem d_11_128 : decode (cd 11) 128 = .ok (.dup, 1) := by rw [cd_11]; decide +kernel
theorem e_11_128r {d : Nat} {h : mM} {L : mLs} {st : List Value} {a : Nat} : ev d 11 128 L (.ref a :: st) h = ev d 11 129 L (.ref a :: .ref a :: st) h := ev_of d_11_128 rfl
theorem e_11_128i {d : Nat} {h : mM} {L : mLs} {st : List Value} {x : Int32} : ev d 11 128 L (.int x :: st) h = ev d 11 129 L (.int x :: .int x :: st) h := ev_of d_11_128 rfl
theorem d_11_129 : decode (cd 11) 129 = .ok (.invokespecial 64, 3) := by rw [cd_11]; decide +kernel
theorem e_11_129 {d : Nat} {h : mM} {L : mLs} {st : List Value} {a : Nat} (hc : mCat st ≤ 8) : ev (d + 1) 11 129 L (.ref a :: st) h = cV (ev d 20 0 [some (.ref a)] [] h) (fun v h1 => ev (d + 1) 11 132 L (v ++ st) h1) := ev_ci (kd := 4) (mj := 20) (as := []) (rest := st) d_11_129 (by decide +kernel) (by decide) rfl rfl (by show _ ≤ List.length _; simp only [List.length_cons]; have : na 20 = 0 := rfl; omega) rfl (Nat.le_of_ble_eq_true rfl) hc
theorem d_11_132 : decode (cd 11) 132 = .ok (.aastore, 1) := by rw [cd_11]; decide +kernel
theorem e_11_132 {d : Nat} {h : mM} {L : mLs} {st : List Value} {a b : Nat} {i : Int32} : ev d 11 132 L (.ref b :: .int i :: .ref a :: st) h = if (12 < mK h a ∧ mK h a < 18) ∧ mK h b = mEl (mK h a) ∧ ixOK i (mL h a) = true then ev d 11 133 L st (wR h a i.toNatClampNeg (some b)) else none := ev_as d_11_132
theorem d_11_133 : decode (cd 11) 133 = .ok (.iinc 1 1, 3) := by rw [cd_11]; decide +kernel
theorem e_11_133 {d : Nat} {h : mM} {o0 : Option Value} {T : mLs} {x : Int32} {st : List Value} (hl : mLong o0 = false) : ev d 11 133 (o0 :: some (.int x) :: T) st h = ev d 11 136 (o0 :: some (.int (x + 1)) :: T) st h := ev_inc d_11_133 (by decide +kernel) rfl rfl (mS1_s (j := 0) hl)
theorem d_11_136 : decode (cd 11) 136 = .ok (.goto (-22), 3) := by rw [cd_11]; decide +kernel
theorem e_11_136 {d : Nat} {h : mM} {L : mLs} {st : List Value} : ev d 11 136 L st h = ev d 11 114 L st h := ev_go d_11_136 (by decide)
theorem d_11_139 : decode (cd 11) 139 = .ok (.return_, 1) := by rw [cd_11]; decide +kernel
theorem e_11_139 {d : Nat} {h : mM} {L : mLs} : ev d 11 139 L [] h = some (none, h) := ev_rv d_11_139 (by decide +kernel)
-- 12: Mill.isOf
theorem cd_12 : cd 12 = prog_4_method_2_code := rfl
theorem d_12_0 : decode (cd 12) 0 = .ok (.iload_n 1, 1) := by rw [cd_12]; decide +kernel
theorem e_12_0 {d : Nat} {h : mM} {o0 : Option Value} {T : mLs} {x : Int32} {st : List Value} : ev d 12 0 (o0 :: some (.int x) :: T) st h = ev d 12 1 (o0 :: some (.int x) :: T) (.int x :: st) h := ev_of d_12_0 rfl
theorem d_12_1 : decode (cd 12) 1 = .ok (.ifCond .eq 11, 3) := by rw [cd_12]; decide +kernel
theorem e_12_1 {d : Nat} {h : mM} {L : mLs} {st : List Value} {x : Int32} : ev d 12 1 L (.int x :: st) h = if x = 0 then ev d 12 12 L st h else ev d 12 4 L st h := ev_if (x = 0) inferInstance rfl d_12_1 (by decide)
theorem d_12_4 : decode (cd 12) 4 = .ok (.iload_n 1, 1) := by rw [cd_12]; decide +kernel
theorem e_12_4 {d : Nat} {h : mM} {o0 : Option Value} {T : mLs} {x : Int32} {st : List Value} : ev d 12 4 (o0 :: some (.int x) :: T) st h = ev d 12 5 (o0 :: some (.int x) :: T) (.int x :: st) h := ev_of d_12_4 rfl
theorem d_12_5 : decode (cd 12) 5 = .ok (.aload_n 0, 1) := by rw [cd_12]; decide +kernel
theorem e_12_5 {d : Nat} {h : mM} {T : mLs} {x : Nat} {st : List Value} : ev d 12 5 ( some (.ref x) :: T) st h = ev d 12 6 ( some (.ref x) :: T) (.ref x :: st) h := ev_of d_12_5 rfl
theorem d_12_6 : decode (cd 12) 6 = .ok (.getfield 23, 3) := by rw [cd_12]; decide +kernel
theorem e_12_6 {d : Nat} {h : mM} {L : mLs} {st : List Value} {a : Nat} : ev d 12 6 L (.ref a :: st) h = if mK h a = 2 then ev d 12 9 L (.int (mI h a 2) :: st) h else none := ev_gI d_12_6 (by decide +kernel) (by decide +kernel)
theorem d_12_9 : decode (cd 12) 9 = .ok (.if_icmp .ne 7, 3) := by rw [cd_12]; decide +kernel
theorem e_12_9 {d : Nat} {h : mM} {L : mLs} {st : List Value} {x y : Int32} : ev d 12 9 L (.int y :: .int x :: st) h = if ¬ x = y then ev d 12 16 L st h else ev d 12 12 L st h := ev_ic (¬ x = y) inferInstance rfl d_12_9 (by decide)
theorem d_12_12 : decode (cd 12) 12 = .ok (.iconst 1, 1) := by rw [cd_12]; decide +kernel
theorem e_12_12 {d : Nat} {h : mM} {L : mLs} {st : List Value} : ev d 12 12 L st h = ev d 12 13 L (.int 1 :: st) h := ev_of d_12_12 rfl
theorem d_12_13 : decode (cd 12) 13 = .ok (.goto 4, 3) := by rw [cd_12]; decide +kernel
theorem e_12_13 {d : Nat} {h : mM} {L : mLs} {st : List Value} : ev d 12 13 L st h = ev d 12 17 L st h := ev_go d_12_13 (by decide)
theorem d_12_16 : decode (cd 12) 16 = .ok (.iconst 0, 1) := by rw [cd_12]; decide +kernel
theorem e_12_16 {d : Nat} {h : mM} {L : mLs} {st : List Value} : ev d 12 16 L st h = ev d 12 17 L (.int 0 :: st) h := ev_of d_12_16 rfl
theorem d_12_17 : decode (cd 12) 17 = .ok (.ireturn, 1) := by rw [cd_12]; decide +kernel
theorem e_12_17 {d : Nat} {h : mM} {L : mLs} {v : Int32} : ev d 12 17 L [.int v] h = if mZO v = true then some (some (.int v), h) else none := ev_rz d_12_17 (by decide +kernel)
-- 13: Mill.take
theorem cd_13 : cd 13 = prog_4_method_3_code := rfl
theorem d_13_0 : decode (cd 13) 0 = .ok (.aload_n 0, 1) := by rw [cd_13]; decide +kernel
theorem e_13_0 {d : Nat} {h : mM} {T : mLs} {x : Nat} {st : List Value} : ev d 13 0 ( some (.ref x) :: T) st h = ev d 13 1 ( some (.ref x) :: T) (.ref x :: st) h := ev_of d_13_0 rfl
theorem d_13_1 : decode (cd 13) 1 = .ok (.dup, 1) := by rw [cd_13]; decide +kernel
theorem e_13_1r {d : Nat} {h : mM} {L : mLs} {st : List Value} {a : Nat} : ev d 13 1 L (.ref a :: st) h = ev d 13 2 L (.ref a :: .ref a :: st) h := ev_of d_13_1 rfl
theorem e_13_1i {d : Nat} {h : mM} {L : mLs} {st : List Value} {x : Int32} : ev d 13 1 L (.int x :: st) h = ev d 13 2 L (.int x :: .int x :: st) h := ev_of d_13_1 rfl
theorem d_13_2 : decode (cd 13) 2 = .ok (.getfield 45, 3) := by rw [cd_13]; decide +kernel
theorem e_13_2 {d : Nat} {h : mM} {L : mLs} {st : List Value} {a : Nat} : ev d 13 2 L (.ref a :: st) h = if mK h a = 2 then ev d 13 5 L (.int (mI h a 9) :: st) h else none := ev_gI d_13_2 (by decide +kernel) (by decide +kernel)
theorem d_13_5 : decode (cd 13) 5 = .ok (.iload_n 1, 1) := by rw [cd_13]; decide +kernel
theorem e_13_5 {d : Nat} {h : mM} {o0 : Option Value} {T : mLs} {x : Int32} {st : List Value} : ev d 13 5 (o0 :: some (.int x) :: T) st h = ev d 13 6 (o0 :: some (.int x) :: T) (.int x :: st) h := ev_of d_13_5 rfl
theorem d_13_6 : decode (cd 13) 6 = .ok (.iadd, 1) := by rw [cd_13]; decide +kernel
theorem e_13_6 {d : Nat} {h : mM} {L : mLs} {st : List Value} {x y : Int32} : ev d 13 6 L (.int y :: .int x :: st) h = ev d 13 7 L (.int (x + y) :: st) h := ev_of d_13_6 rfl
theorem d_13_7 : decode (cd 13) 7 = .ok (.putfield 45, 3) := by rw [cd_13]; decide +kernel
theorem e_13_7 {d : Nat} {h : mM} {L : mLs} {st : List Value} {a : Nat} {v : Int32} : ev d 13 7 L (.int v :: .ref a :: st) h = if mK h a = 2 then ev d 13 10 L st (wI h a 9 v) else none := ev_pI d_13_7 (by decide +kernel) (by decide +kernel) (by decide +kernel)
theorem d_13_10 : decode (cd 13) 10 = .ok (.iload_n 1, 1) := by rw [cd_13]; decide +kernel
theorem e_13_10 {d : Nat} {h : mM} {o0 : Option Value} {T : mLs} {x : Int32} {st : List Value} : ev d 13 10 (o0 :: some (.int x) :: T) st h = ev d 13 11 (o0 :: some (.int x) :: T) (.int x :: st) h := ev_of d_13_10 rfl
theorem d_13_11 : decode (cd 13) 11 = .ok (.istore 4, 2) := by rw [cd_13]; decide +kernel
theorem e_13_11 {d : Nat} {h : mM} {o0 o1 o2 o3 o4 : Option Value} {T : mLs} {x : Int32} {st : List Value} (hl : mLong o3 = false) : ev d 13 11 (o0 :: o1 :: o2 :: o3 :: o4 :: T) (.int x :: st) h = ev d 13 13 (o0 :: o1 :: o2 :: o3 :: some (.int x) :: T) st h := ev_st_i d_13_11 (by decide +kernel) (mS1_s (j := 3) hl)
theorem d_13_13 : decode (cd 13) 13 = .ok (.iconst 0, 1) := by rw [cd_13]; decide +kernel
theorem e_13_13 {d : Nat} {h : mM} {L : mLs} {st : List Value} : ev d 13 13 L st h = ev d 13 14 L (.int 0 :: st) h := ev_of d_13_13 rfl
theorem d_13_14 : decode (cd 13) 14 = .ok (.istore 5, 2) := by rw [cd_13]; decide +kernel
theorem e_13_14 {d : Nat} {h : mM} {o0 o1 o2 o3 o4 o5 : Option Value} {T : mLs} {x : Int32} {st : List Value} (hl : mLong o4 = false) : ev d 13 14 (o0 :: o1 :: o2 :: o3 :: o4 :: o5 :: T) (.int x :: st) h = ev d 13 16 (o0 :: o1 :: o2 :: o3 :: o4 :: some (.int x) :: T) st h := ev_st_i d_13_14 (by decide +kernel) (mS1_s (j := 4) hl)
theorem d_13_16 : decode (cd 13) 16 = .ok (.iload 5, 2) := by rw [cd_13]; decide +kernel
theorem e_13_16 {d : Nat} {h : mM} {o0 o1 o2 o3 o4 : Option Value} {T : mLs} {x : Int32} {st : List Value} : ev d 13 16 (o0 :: o1 :: o2 :: o3 :: o4 :: some (.int x) :: T) st h = ev d 13 18 (o0 :: o1 :: o2 :: o3 :: o4 :: some (.int x) :: T) (.int x :: st) h := ev_of d_13_16 rfl
theorem d_13_18 : decode (cd 13) 18 = .ok (.bipush 12, 2) := by rw [cd_13]; decide +kernel
theorem e_13_18 {d : Nat} {h : mM} {L : mLs} {st : List Value} : ev d 13 18 L st h = ev d 13 20 L (.int 12 :: st) h := ev_of d_13_18 rfl
theorem d_13_20 : decode (cd 13) 20 = .ok (.if_icmp .ge 74, 3) := by rw [cd_13]; decide +kernel
theorem e_13_20 {d : Nat} {h : mM} {L : mLs} {st : List Value} {x y : Int32} : ev d 13 20 L (.int y :: .int x :: st) h = if y ≤ x then ev d 13 94 L st h else ev d 13 23 L st h := ev_ic (y ≤ x) inferInstance rfl d_13_20 (by decide)
theorem d_13_23 : decode (cd 13) 23 = .ok (.aload_n 0, 1) := by rw [cd_13]; decide +kernel
theorem e_13_23 {d : Nat} {h : mM} {T : mLs} {x : Nat} {st : List Value} : ev d 13 23 ( some (.ref x) :: T) st h = ev d 13 24 ( some (.ref x) :: T) (.ref x :: st) h := ev_of d_13_23 rfl
theorem d_13_24 : decode (cd 13) 24 = .ok (.getfield 42, 3) := by rw [cd_13]; decide +kernel
theorem e_13_24 {d : Nat} {h : mM} {L : mLs} {st : List Value} {a : Nat} : ev d 13 24 L (.ref a :: st) h = if mK h a = 2 then ev d 13 27 L (.int (mI h a 8) :: st) h else none := ev_gI d_13_24 (by decide +kernel) (by decide +kernel)
theorem d_13_27 : decode (cd 13) 27 = .ok (.ifCond .le 67, 3) := by rw [cd_13]; decide +kernel
theorem e_13_27 {d : Nat} {h : mM} {L : mLs} {st : List Value} {x : Int32} : ev d 13 27 L (.int x :: st) h = if x ≤ 0 then ev d 13 94 L st h else ev d 13 30 L st h := ev_if (x ≤ 0) inferInstance rfl d_13_27 (by decide)
theorem d_13_30 : decode (cd 13) 30 = .ok (.iload 4, 2) := by rw [cd_13]; decide +kernel
theorem e_13_30 {d : Nat} {h : mM} {o0 o1 o2 o3 : Option Value} {T : mLs} {x : Int32} {st : List Value} : ev d 13 30 (o0 :: o1 :: o2 :: o3 :: some (.int x) :: T) st h = ev d 13 32 (o0 :: o1 :: o2 :: o3 :: some (.int x) :: T) (.int x :: st) h := ev_of d_13_30 rfl
theorem d_13_32 : decode (cd 13) 32 = .ok (.ifCond .le 62, 3) := by rw [cd_13]; decide +kernel
theorem e_13_32 {d : Nat} {h : mM} {L : mLs} {st : List Value} {x : Int32} : ev d 13 32 L (.int x :: st) h = if x ≤ 0 then ev d 13 94 L st h else ev d 13 35 L st h := ev_if (x ≤ 0) inferInstance rfl d_13_32 (by decide)
theorem d_13_35 : decode (cd 13) 35 = .ok (.aload_n 0, 1) := by rw [cd_13]; decide +kernel
theorem e_13_35 {d : Nat} {h : mM} {T : mLs} {x : Nat} {st : List Value} : ev d 13 35 ( some (.ref x) :: T) st h = ev d 13 36 ( some (.ref x) :: T) (.ref x :: st) h := ev_of d_13_35 rfl
theorem d_13_36 : decode (cd 13) 36 = .ok (.getfield 19, 3) := by rw [cd_13]; decide +kernel
theorem e_13_36 {d : Nat} {h : mM} {L : mLs} {st : List Value} {a : Nat} : ev d 13 36 L (.ref a :: st) h = if mK h a = 2 then oB (mR h a 1) (fun b => ev d 13 39 L (.ref b :: st) h) else none := ev_gR d_13_36 (by decide +kernel) (by decide +kernel)
theorem d_13_39 : decode (cd 13) 39 = .ok (.iconst 0, 1) := by rw [cd_13]; decide +kernel
theorem e_13_39 {d : Nat} {h : mM} {L : mLs} {st : List Value} : ev d 13 39 L st h = ev d 13 40 L (.int 0 :: st) h := ev_of d_13_39 rfl
theorem d_13_40 : decode (cd 13) 40 = .ok (.aaload, 1) := by rw [cd_13]; decide +kernel
theorem e_13_40 {d : Nat} {h : mM} {L : mLs} {st : List Value} {a : Nat} {i : Int32} : ev d 13 40 L (.int i :: .ref a :: st) h = if (12 < mK h a ∧ mK h a < 19) ∧ ixOK i (mL h a) = true then oB (mR h a i.toNatClampNeg) (fun b => ev d 13 41 L (.ref b :: st) h) else none := ev_aa d_13_40
theorem d_13_41 : decode (cd 13) 41 = .ok (.astore 6, 2) := by rw [cd_13]; decide +kernel
theorem e_13_41 {d : Nat} {h : mM} {o0 o1 o2 o3 o4 o5 o6 : Option Value} {T : mLs} {x : Nat} {st : List Value} (hl : mLong o5 = false) : ev d 13 41 (o0 :: o1 :: o2 :: o3 :: o4 :: o5 :: o6 :: T) (.ref x :: st) h = ev d 13 43 (o0 :: o1 :: o2 :: o3 :: o4 :: o5 :: some (.ref x) :: T) st h := ev_st_r d_13_41 (by decide +kernel) (mS1_s (j := 5) hl)
theorem d_13_43 : decode (cd 13) 43 = .ok (.iload 4, 2) := by rw [cd_13]; decide +kernel
theorem e_13_43 {d : Nat} {h : mM} {o0 o1 o2 o3 : Option Value} {T : mLs} {x : Int32} {st : List Value} : ev d 13 43 (o0 :: o1 :: o2 :: o3 :: some (.int x) :: T) st h = ev d 13 45 (o0 :: o1 :: o2 :: o3 :: some (.int x) :: T) (.int x :: st) h := ev_of d_13_43 rfl
theorem d_13_45 : decode (cd 13) 45 = .ok (.aload 6, 2) := by rw [cd_13]; decide +kernel
theorem e_13_45 {d : Nat} {h : mM} {o0 o1 o2 o3 o4 o5 : Option Value} {T : mLs} {x : Nat} {st : List Value} : ev d 13 45 (o0 :: o1 :: o2 :: o3 :: o4 :: o5 :: some (.ref x) :: T) st h = ev d 13 47 (o0 :: o1 :: o2 :: o3 :: o4 :: o5 :: some (.ref x) :: T) (.ref x :: st) h := ev_of d_13_45 rfl
theorem d_13_47 : decode (cd 13) 47 = .ok (.getfield 65, 3) := by rw [cd_13]; decide +kernel
theorem e_13_47 {d : Nat} {h : mM} {L : mLs} {st : List Value} {a : Nat} : ev d 13 47 L (.ref a :: st) h = if mK h a = 4 then ev d 13 50 L (.int (mI h a 2) :: st) h else none := ev_gI d_13_47 (by decide +kernel) (by decide +kernel)
theorem d_13_50 : decode (cd 13) 50 = .ok (.invokestatic 68, 3) := by rw [cd_13]; decide +kernel
theorem e_13_50 {d : Nat} {h : mM} {L : mLs} {st : List Value} {x y : Int32} (hc : mCat st ≤ 8) : ev d 13 50 L (.int y :: .int x :: st) h = ev d 13 53 L (.int (if y < x then y else x) :: st) h := ev_min (mj := 0) d_13_50 (by decide +kernel) hc
theorem d_13_53 : decode (cd 13) 53 = .ok (.istore 7, 2) := by rw [cd_13]; decide +kernel
theorem e_13_53 {d : Nat} {h : mM} {o0 o1 o2 o3 o4 o5 o6 o7 : Option Value} {T : mLs} {x : Int32} {st : List Value} (hl : mLong o6 = false) : ev d 13 53 (o0 :: o1 :: o2 :: o3 :: o4 :: o5 :: o6 :: o7 :: T) (.int x :: st) h = ev d 13 55 (o0 :: o1 :: o2 :: o3 :: o4 :: o5 :: o6 :: some (.int x) :: T) st h := ev_st_i d_13_53 (by decide +kernel) (mS1_s (j := 6) hl)
theorem d_13_55 : decode (cd 13) 55 = .ok (.aload 6, 2) := by rw [cd_13]; decide +kernel
theorem e_13_55 {d : Nat} {h : mM} {o0 o1 o2 o3 o4 o5 : Option Value} {T : mLs} {x : Nat} {st : List Value} : ev d 13 55 (o0 :: o1 :: o2 :: o3 :: o4 :: o5 :: some (.ref x) :: T) st h = ev d 13 57 (o0 :: o1 :: o2 :: o3 :: o4 :: o5 :: some (.ref x) :: T) (.ref x :: st) h := ev_of d_13_55 rfl
theorem d_13_57 : decode (cd 13) 57 = .ok (.dup, 1) := by rw [cd_13]; decide +kernel
theorem e_13_57r {d : Nat} {h : mM} {L : mLs} {st : List Value} {a : Nat} : ev d 13 57 L (.ref a :: st) h = ev d 13 58 L (.ref a :: .ref a :: st) h := ev_of d_13_57 rfl
theorem e_13_57i {d : Nat} {h : mM} {L : mLs} {st : List Value} {x : Int32} : ev d 13 57 L (.int x :: st) h = ev d 13 58 L (.int x :: .int x :: st) h := ev_of d_13_57 rfl
theorem d_13_58 : decode (cd 13) 58 = .ok (.getfield 65, 3) := by rw [cd_13]; decide +kernel
theorem e_13_58 {d : Nat} {h : mM} {L : mLs} {st : List Value} {a : Nat} : ev d 13 58 L (.ref a :: st) h = if mK h a = 4 then ev d 13 61 L (.int (mI h a 2) :: st) h else none := ev_gI d_13_58 (by decide +kernel) (by decide +kernel)
theorem d_13_61 : decode (cd 13) 61 = .ok (.iload 7, 2) := by rw [cd_13]; decide +kernel
theorem e_13_61 {d : Nat} {h : mM} {o0 o1 o2 o3 o4 o5 o6 : Option Value} {T : mLs} {x : Int32} {st : List Value} : ev d 13 61 (o0 :: o1 :: o2 :: o3 :: o4 :: o5 :: o6 :: some (.int x) :: T) st h = ev d 13 63 (o0 :: o1 :: o2 :: o3 :: o4 :: o5 :: o6 :: some (.int x) :: T) (.int x :: st) h := ev_of d_13_61 rfl
theorem d_13_63 : decode (cd 13) 63 = .ok (.isub, 1) := by rw [cd_13]; decide +kernel
theorem e_13_63 {d : Nat} {h : mM} {L : mLs} {st : List Value} {x y : Int32} : ev d 13 63 L (.int y :: .int x :: st) h = ev d 13 64 L (.int (x - y) :: st) h := ev_of d_13_63 rfl
theorem d_13_64 : decode (cd 13) 64 = .ok (.putfield 65, 3) := by rw [cd_13]; decide +kernel
theorem e_13_64 {d : Nat} {h : mM} {L : mLs} {st : List Value} {a : Nat} {v : Int32} : ev d 13 64 L (.int v :: .ref a :: st) h = if mK h a = 4 then ev d 13 67 L st (wI h a 2 v) else none := ev_pI d_13_64 (by decide +kernel) (by decide +kernel) (by decide +kernel)
theorem d_13_67 : decode (cd 13) 67 = .ok (.iload 4, 2) := by rw [cd_13]; decide +kernel
theorem e_13_67 {d : Nat} {h : mM} {o0 o1 o2 o3 : Option Value} {T : mLs} {x : Int32} {st : List Value} : ev d 13 67 (o0 :: o1 :: o2 :: o3 :: some (.int x) :: T) st h = ev d 13 69 (o0 :: o1 :: o2 :: o3 :: some (.int x) :: T) (.int x :: st) h := ev_of d_13_67 rfl
theorem d_13_69 : decode (cd 13) 69 = .ok (.iload 7, 2) := by rw [cd_13]; decide +kernel
theorem e_13_69 {d : Nat} {h : mM} {o0 o1 o2 o3 o4 o5 o6 : Option Value} {T : mLs} {x : Int32} {st : List Value} : ev d 13 69 (o0 :: o1 :: o2 :: o3 :: o4 :: o5 :: o6 :: some (.int x) :: T) st h = ev d 13 71 (o0 :: o1 :: o2 :: o3 :: o4 :: o5 :: o6 :: some (.int x) :: T) (.int x :: st) h := ev_of d_13_69 rfl
theorem d_13_71 : decode (cd 13) 71 = .ok (.isub, 1) := by rw [cd_13]; decide +kernel
theorem e_13_71 {d : Nat} {h : mM} {L : mLs} {st : List Value} {x y : Int32} : ev d 13 71 L (.int y :: .int x :: st) h = ev d 13 72 L (.int (x - y) :: st) h := ev_of d_13_71 rfl
theorem d_13_72 : decode (cd 13) 72 = .ok (.istore 4, 2) := by rw [cd_13]; decide +kernel
theorem e_13_72 {d : Nat} {h : mM} {o0 o1 o2 o3 o4 : Option Value} {T : mLs} {x : Int32} {st : List Value} (hl : mLong o3 = false) : ev d 13 72 (o0 :: o1 :: o2 :: o3 :: o4 :: T) (.int x :: st) h = ev d 13 74 (o0 :: o1 :: o2 :: o3 :: some (.int x) :: T) st h := ev_st_i d_13_72 (by decide +kernel) (mS1_s (j := 3) hl)
theorem d_13_74 : decode (cd 13) 74 = .ok (.aload 6, 2) := by rw [cd_13]; decide +kernel
theorem e_13_74 {d : Nat} {h : mM} {o0 o1 o2 o3 o4 o5 : Option Value} {T : mLs} {x : Nat} {st : List Value} : ev d 13 74 (o0 :: o1 :: o2 :: o3 :: o4 :: o5 :: some (.ref x) :: T) st h = ev d 13 76 (o0 :: o1 :: o2 :: o3 :: o4 :: o5 :: some (.ref x) :: T) (.ref x :: st) h := ev_of d_13_74 rfl
theorem d_13_76 : decode (cd 13) 76 = .ok (.getfield 65, 3) := by rw [cd_13]; decide +kernel
theorem e_13_76 {d : Nat} {h : mM} {L : mLs} {st : List Value} {a : Nat} : ev d 13 76 L (.ref a :: st) h = if mK h a = 4 then ev d 13 79 L (.int (mI h a 2) :: st) h else none := ev_gI d_13_76 (by decide +kernel) (by decide +kernel)
theorem d_13_79 : decode (cd 13) 79 = .ok (.ifCond .ne 9, 3) := by rw [cd_13]; decide +kernel
theorem e_13_79 {d : Nat} {h : mM} {L : mLs} {st : List Value} {x : Int32} : ev d 13 79 L (.int x :: st) h = if ¬ x = 0 then ev d 13 88 L st h else ev d 13 82 L st h := ev_if (¬ x = 0) inferInstance rfl d_13_79 (by decide)
theorem d_13_82 : decode (cd 13) 82 = .ok (.aload_n 0, 1) := by rw [cd_13]; decide +kernel
theorem e_13_82 {d : Nat} {h : mM} {T : mLs} {x : Nat} {st : List Value} : ev d 13 82 ( some (.ref x) :: T) st h = ev d 13 83 ( some (.ref x) :: T) (.ref x :: st) h := ev_of d_13_82 rfl
theorem d_13_83 : decode (cd 13) 83 = .ok (.iload_n 2, 1) := by rw [cd_13]; decide +kernel
theorem e_13_83 {d : Nat} {h : mM} {o0 o1 : Option Value} {T : mLs} {x : Int32} {st : List Value} : ev d 13 83 (o0 :: o1 :: some (.int x) :: T) st h = ev d 13 84 (o0 :: o1 :: some (.int x) :: T) (.int x :: st) h := ev_of d_13_83 rfl
theorem d_13_84 : decode (cd 13) 84 = .ok (.aload_n 3, 1) := by rw [cd_13]; decide +kernel
theorem e_13_84 {d : Nat} {h : mM} {o0 o1 o2 : Option Value} {T : mLs} {x : Nat} {st : List Value} : ev d 13 84 (o0 :: o1 :: o2 :: some (.ref x) :: T) st h = ev d 13 85 (o0 :: o1 :: o2 :: some (.ref x) :: T) (.ref x :: st) h := ev_of d_13_84 rfl
theorem d_13_85 : decode (cd 13) 85 = .ok (.invokevirtual 74, 3) := by rw [cd_13]; decide +kernel
theorem e_13_85 {d : Nat} {h : mM} {L : mLs} {st : List Value} {a : Nat} {x0 : Int32} {x1 : Nat} (hc : mCat st ≤ 8) : ev (d + 1) 13 85 L (.ref x1 :: .int x0 :: .ref a :: st) h = if mK h a = 2 then cV (ev d 14 0 [some (.ref a), some (.int x0), some (.ref x1), none, none, none] [] h) (fun v h1 => ev (d + 1) 13 88 L (v ++ st) h1) else none := ev_cv (mj := 14) (as := [.int x0, .ref x1]) (rest := st) d_13_85 (by decide +kernel) rfl rfl (by show _ ≤ List.length _; simp only [List.length_cons]; have : na 14 = 2 := rfl; omega) rfl (Nat.le_of_ble_eq_true rfl) hc
theorem d_13_88 : decode (cd 13) 88 = .ok (.iinc 5 1, 3) := by rw [cd_13]; decide +kernel
theorem e_13_88 {d : Nat} {h : mM} {o0 o1 o2 o3 o4 : Option Value} {T : mLs} {x : Int32} {st : List Value} (hl : mLong o4 = false) : ev d 13 88 (o0 :: o1 :: o2 :: o3 :: o4 :: some (.int x) :: T) st h = ev d 13 91 (o0 :: o1 :: o2 :: o3 :: o4 :: some (.int (x + 1)) :: T) st h := ev_inc d_13_88 (by decide +kernel) rfl rfl (mS1_s (j := 4) hl)
theorem d_13_91 : decode (cd 13) 91 = .ok (.goto (-75), 3) := by rw [cd_13]; decide +kernel
theorem e_13_91 {d : Nat} {h : mM} {L : mLs} {st : List Value} : ev d 13 91 L st h = ev d 13 16 L st h := ev_go d_13_91 (by decide)
theorem d_13_94 : decode (cd 13) 94 = .ok (.aload_n 0, 1) := by rw [cd_13]; decide +kernel
theorem e_13_94 {d : Nat} {h : mM} {T : mLs} {x : Nat} {st : List Value} : ev d 13 94 ( some (.ref x) :: T) st h = ev d 13 95 ( some (.ref x) :: T) (.ref x :: st) h := ev_of d_13_94 rfl
theorem d_13_95 : decode (cd 13) 95 = .ok (.dup, 1) := by rw [cd_13]; decide +kernel
theorem e_13_95r {d : Nat} {h : mM} {L : mLs} {st : List Value} {a : Nat} : ev d 13 95 L (.ref a :: st) h = ev d 13 96 L (.ref a :: .ref a :: st) h := ev_of d_13_95 rfl
theorem e_13_95i {d : Nat} {h : mM} {L : mLs} {st : List Value} {x : Int32} : ev d 13 95 L (.int x :: st) h = ev d 13 96 L (.int x :: .int x :: st) h := ev_of d_13_95 rfl
theorem d_13_96 : decode (cd 13) 96 = .ok (.getfield 57, 3) := by rw [cd_13]; decide +kernel
theorem e_13_96 {d : Nat} {h : mM} {L : mLs} {st : List Value} {a : Nat} : ev d 13 96 L (.ref a :: st) h = if mK h a = 2 then ev d 13 99 L (.int (mI h a 13) :: st) h else none := ev_gI d_13_96 (by decide +kernel) (by decide +kernel)
theorem d_13_99 : decode (cd 13) 99 = .ok (.iload 4, 2) := by rw [cd_13]; decide +kernel
theorem e_13_99 {d : Nat} {h : mM} {o0 o1 o2 o3 : Option Value} {T : mLs} {x : Int32} {st : List Value} : ev d 13 99 (o0 :: o1 :: o2 :: o3 :: some (.int x) :: T) st h = ev d 13 101 (o0 :: o1 :: o2 :: o3 :: some (.int x) :: T) (.int x :: st) h := ev_of d_13_99 rfl
theorem d_13_101 : decode (cd 13) 101 = .ok (.iadd, 1) := by rw [cd_13]; decide +kernel
theorem e_13_101 {d : Nat} {h : mM} {L : mLs} {st : List Value} {x y : Int32} : ev d 13 101 L (.int y :: .int x :: st) h = ev d 13 102 L (.int (x + y) :: st) h := ev_of d_13_101 rfl
theorem d_13_102 : decode (cd 13) 102 = .ok (.putfield 57, 3) := by rw [cd_13]; decide +kernel
theorem e_13_102 {d : Nat} {h : mM} {L : mLs} {st : List Value} {a : Nat} {v : Int32} : ev d 13 102 L (.int v :: .ref a :: st) h = if mK h a = 2 then ev d 13 105 L st (wI h a 13 v) else none := ev_pI d_13_102 (by decide +kernel) (by decide +kernel) (by decide +kernel)
theorem d_13_105 : decode (cd 13) 105 = .ok (.return_, 1) := by rw [cd_13]; decide +kernel
theorem e_13_105 {d : Nat} {h : mM} {L : mLs} : ev d 13 105 L [] h = some (none, h) := ev_rv d_13_105 (by decide +kernel)
-- 14: Mill.finishFirst
theorem cd_14 : cd 14 = prog_4_method_4_code := rfl
theorem d_14_0 : decode (cd 14) 0 = .ok (.aload_n 0, 1) := by rw [cd_14]; decide +kernel
theorem e_14_0 {d : Nat} {h : mM} {T : mLs} {x : Nat} {st : List Value} : ev d 14 0 ( some (.ref x) :: T) st h = ev d 14 1 ( some (.ref x) :: T) (.ref x :: st) h := ev_of d_14_0 rfl
theorem d_14_1 : decode (cd 14) 1 = .ok (.getfield 19, 3) := by rw [cd_14]; decide +kernel
theorem e_14_1 {d : Nat} {h : mM} {L : mLs} {st : List Value} {a : Nat} : ev d 14 1 L (.ref a :: st) h = if mK h a = 2 then oB (mR h a 1) (fun b => ev d 14 4 L (.ref b :: st) h) else none := ev_gR d_14_1 (by decide +kernel) (by decide +kernel)
theorem d_14_4 : decode (cd 14) 4 = .ok (.iconst 0, 1) := by rw [cd_14]; decide +kernel
theorem e_14_4 {d : Nat} {h : mM} {L : mLs} {st : List Value} : ev d 14 4 L st h = ev d 14 5 L (.int 0 :: st) h := ev_of d_14_4 rfl
theorem d_14_5 : decode (cd 14) 5 = .ok (.aaload, 1) := by rw [cd_14]; decide +kernel
theorem e_14_5 {d : Nat} {h : mM} {L : mLs} {st : List Value} {a : Nat} {i : Int32} : ev d 14 5 L (.int i :: .ref a :: st) h = if (12 < mK h a ∧ mK h a < 19) ∧ ixOK i (mL h a) = true then oB (mR h a i.toNatClampNeg) (fun b => ev d 14 6 L (.ref b :: st) h) else none := ev_aa d_14_5
theorem d_14_6 : decode (cd 14) 6 = .ok (.astore_n 3, 1) := by rw [cd_14]; decide +kernel
theorem e_14_6 {d : Nat} {h : mM} {o0 o1 o2 o3 : Option Value} {T : mLs} {x : Nat} {st : List Value} (hl : mLong o2 = false) : ev d 14 6 (o0 :: o1 :: o2 :: o3 :: T) (.ref x :: st) h = ev d 14 7 (o0 :: o1 :: o2 :: some (.ref x) :: T) st h := ev_st_rn d_14_6 (by decide +kernel) (mS1_s (j := 2) hl)
theorem d_14_7 : decode (cd 14) 7 = .ok (.aload_n 0, 1) := by rw [cd_14]; decide +kernel
theorem e_14_7 {d : Nat} {h : mM} {T : mLs} {x : Nat} {st : List Value} : ev d 14 7 ( some (.ref x) :: T) st h = ev d 14 8 ( some (.ref x) :: T) (.ref x :: st) h := ev_of d_14_7 rfl
theorem d_14_8 : decode (cd 14) 8 = .ok (.getfield 23, 3) := by rw [cd_14]; decide +kernel
theorem e_14_8 {d : Nat} {h : mM} {L : mLs} {st : List Value} {a : Nat} : ev d 14 8 L (.ref a :: st) h = if mK h a = 2 then ev d 14 11 L (.int (mI h a 2) :: st) h else none := ev_gI d_14_8 (by decide +kernel) (by decide +kernel)
theorem d_14_11 : decode (cd 14) 11 = .ok (.iconst 1, 1) := by rw [cd_14]; decide +kernel
theorem e_14_11 {d : Nat} {h : mM} {L : mLs} {st : List Value} : ev d 14 11 L st h = ev d 14 12 L (.int 1 :: st) h := ev_of d_14_11 rfl
theorem d_14_12 : decode (cd 14) 12 = .ok (.if_icmp .ne 7, 3) := by rw [cd_14]; decide +kernel
theorem e_14_12 {d : Nat} {h : mM} {L : mLs} {st : List Value} {x y : Int32} : ev d 14 12 L (.int y :: .int x :: st) h = if ¬ x = y then ev d 14 19 L st h else ev d 14 15 L st h := ev_ic (¬ x = y) inferInstance rfl d_14_12 (by decide)
theorem d_14_15 : decode (cd 14) 15 = .ok (.iconst 0, 1) := by rw [cd_14]; decide +kernel
theorem e_14_15 {d : Nat} {h : mM} {L : mLs} {st : List Value} : ev d 14 15 L st h = ev d 14 16 L (.int 0 :: st) h := ev_of d_14_15 rfl
theorem d_14_16 : decode (cd 14) 16 = .ok (.goto 10, 3) := by rw [cd_14]; decide +kernel
theorem e_14_16 {d : Nat} {h : mM} {L : mLs} {st : List Value} : ev d 14 16 L st h = ev d 14 26 L st h := ev_go d_14_16 (by decide)
theorem d_14_19 : decode (cd 14) 19 = .ok (.aload_n 3, 1) := by rw [cd_14]; decide +kernel
theorem e_14_19 {d : Nat} {h : mM} {o0 o1 o2 : Option Value} {T : mLs} {x : Nat} {st : List Value} : ev d 14 19 (o0 :: o1 :: o2 :: some (.ref x) :: T) st h = ev d 14 20 (o0 :: o1 :: o2 :: some (.ref x) :: T) (.ref x :: st) h := ev_of d_14_19 rfl
theorem d_14_20 : decode (cd 14) 20 = .ok (.getfield 78, 3) := by rw [cd_14]; decide +kernel
theorem e_14_20 {d : Nat} {h : mM} {L : mLs} {st : List Value} {a : Nat} : ev d 14 20 L (.ref a :: st) h = if mK h a = 4 then ev d 14 23 L (.int (mI h a 1) :: st) h else none := ev_gI d_14_20 (by decide +kernel) (by decide +kernel)
theorem d_14_23 : decode (cd 14) 23 = .ok (.bipush 16, 2) := by rw [cd_14]; decide +kernel
theorem e_14_23 {d : Nat} {h : mM} {L : mLs} {st : List Value} : ev d 14 23 L st h = ev d 14 25 L (.int 16 :: st) h := ev_of d_14_23 rfl
theorem d_14_25 : decode (cd 14) 25 = .ok (.idiv, 1) := by rw [cd_14]; decide +kernel
theorem e_14_25 {d : Nat} {h : mM} {L : mLs} {st : List Value} {x y : Int32} : ev d 14 25 L (.int y :: .int x :: st) h = if y = 0 then none else ev d 14 26 L (.int (x / y) :: st) h := ev_div d_14_25
theorem d_14_26 : decode (cd 14) 26 = .ok (.istore 4, 2) := by rw [cd_14]; decide +kernel
theorem e_14_26 {d : Nat} {h : mM} {o0 o1 o2 o3 o4 : Option Value} {T : mLs} {x : Int32} {st : List Value} (hl : mLong o3 = false) : ev d 14 26 (o0 :: o1 :: o2 :: o3 :: o4 :: T) (.int x :: st) h = ev d 14 28 (o0 :: o1 :: o2 :: o3 :: some (.int x) :: T) st h := ev_st_i d_14_26 (by decide +kernel) (mS1_s (j := 3) hl)
theorem d_14_28 : decode (cd 14) 28 = .ok (.aload_n 0, 1) := by rw [cd_14]; decide +kernel
theorem e_14_28 {d : Nat} {h : mM} {T : mLs} {x : Nat} {st : List Value} : ev d 14 28 ( some (.ref x) :: T) st h = ev d 14 29 ( some (.ref x) :: T) (.ref x :: st) h := ev_of d_14_28 rfl
theorem d_14_29 : decode (cd 14) 29 = .ok (.dup, 1) := by rw [cd_14]; decide +kernel
theorem e_14_29r {d : Nat} {h : mM} {L : mLs} {st : List Value} {a : Nat} : ev d 14 29 L (.ref a :: st) h = ev d 14 30 L (.ref a :: .ref a :: st) h := ev_of d_14_29 rfl
theorem e_14_29i {d : Nat} {h : mM} {L : mLs} {st : List Value} {x : Int32} : ev d 14 29 L (.int x :: st) h = ev d 14 30 L (.int x :: .int x :: st) h := ev_of d_14_29 rfl
theorem d_14_30 : decode (cd 14) 30 = .ok (.getfield 48, 3) := by rw [cd_14]; decide +kernel
theorem e_14_30 {d : Nat} {h : mM} {L : mLs} {st : List Value} {a : Nat} : ev d 14 30 L (.ref a :: st) h = if mK h a = 2 then ev d 14 33 L (.int (mI h a 10) :: st) h else none := ev_gI d_14_30 (by decide +kernel) (by decide +kernel)
theorem d_14_33 : decode (cd 14) 33 = .ok (.iload 4, 2) := by rw [cd_14]; decide +kernel
theorem e_14_33 {d : Nat} {h : mM} {o0 o1 o2 o3 : Option Value} {T : mLs} {x : Int32} {st : List Value} : ev d 14 33 (o0 :: o1 :: o2 :: o3 :: some (.int x) :: T) st h = ev d 14 35 (o0 :: o1 :: o2 :: o3 :: some (.int x) :: T) (.int x :: st) h := ev_of d_14_33 rfl
theorem d_14_35 : decode (cd 14) 35 = .ok (.iadd, 1) := by rw [cd_14]; decide +kernel
theorem e_14_35 {d : Nat} {h : mM} {L : mLs} {st : List Value} {x y : Int32} : ev d 14 35 L (.int y :: .int x :: st) h = ev d 14 36 L (.int (x + y) :: st) h := ev_of d_14_35 rfl
theorem d_14_36 : decode (cd 14) 36 = .ok (.putfield 48, 3) := by rw [cd_14]; decide +kernel
theorem e_14_36 {d : Nat} {h : mM} {L : mLs} {st : List Value} {a : Nat} {v : Int32} : ev d 14 36 L (.int v :: .ref a :: st) h = if mK h a = 2 then ev d 14 39 L st (wI h a 10 v) else none := ev_pI d_14_36 (by decide +kernel) (by decide +kernel) (by decide +kernel)
theorem d_14_39 : decode (cd 14) 39 = .ok (.aload_n 0, 1) := by rw [cd_14]; decide +kernel
theorem e_14_39 {d : Nat} {h : mM} {T : mLs} {x : Nat} {st : List Value} : ev d 14 39 ( some (.ref x) :: T) st h = ev d 14 40 ( some (.ref x) :: T) (.ref x :: st) h := ev_of d_14_39 rfl
theorem d_14_40 : decode (cd 14) 40 = .ok (.dup, 1) := by rw [cd_14]; decide +kernel
theorem e_14_40r {d : Nat} {h : mM} {L : mLs} {st : List Value} {a : Nat} : ev d 14 40 L (.ref a :: st) h = ev d 14 41 L (.ref a :: .ref a :: st) h := ev_of d_14_40 rfl
theorem e_14_40i {d : Nat} {h : mM} {L : mLs} {st : List Value} {x : Int32} : ev d 14 40 L (.int x :: st) h = ev d 14 41 L (.int x :: .int x :: st) h := ev_of d_14_40 rfl
theorem d_14_41 : decode (cd 14) 41 = .ok (.getfield 51, 3) := by rw [cd_14]; decide +kernel
theorem e_14_41 {d : Nat} {h : mM} {L : mLs} {st : List Value} {a : Nat} : ev d 14 41 L (.ref a :: st) h = if mK h a = 2 then ev d 14 44 L (.int (mI h a 11) :: st) h else none := ev_gI d_14_41 (by decide +kernel) (by decide +kernel)
theorem d_14_44 : decode (cd 14) 44 = .ok (.iconst 1, 1) := by rw [cd_14]; decide +kernel
theorem e_14_44 {d : Nat} {h : mM} {L : mLs} {st : List Value} : ev d 14 44 L st h = ev d 14 45 L (.int 1 :: st) h := ev_of d_14_44 rfl
theorem d_14_45 : decode (cd 14) 45 = .ok (.iadd, 1) := by rw [cd_14]; decide +kernel
theorem e_14_45 {d : Nat} {h : mM} {L : mLs} {st : List Value} {x y : Int32} : ev d 14 45 L (.int y :: .int x :: st) h = ev d 14 46 L (.int (x + y) :: st) h := ev_of d_14_45 rfl
theorem d_14_46 : decode (cd 14) 46 = .ok (.putfield 51, 3) := by rw [cd_14]; decide +kernel
theorem e_14_46 {d : Nat} {h : mM} {L : mLs} {st : List Value} {a : Nat} {v : Int32} : ev d 14 46 L (.int v :: .ref a :: st) h = if mK h a = 2 then ev d 14 49 L st (wI h a 11 v) else none := ev_pI d_14_46 (by decide +kernel) (by decide +kernel) (by decide +kernel)
theorem d_14_49 : decode (cd 14) 49 = .ok (.iload_n 1, 1) := by rw [cd_14]; decide +kernel
theorem e_14_49 {d : Nat} {h : mM} {o0 : Option Value} {T : mLs} {x : Int32} {st : List Value} : ev d 14 49 (o0 :: some (.int x) :: T) st h = ev d 14 50 (o0 :: some (.int x) :: T) (.int x :: st) h := ev_of d_14_49 rfl
theorem d_14_50 : decode (cd 14) 50 = .ok (.aload_n 3, 1) := by rw [cd_14]; decide +kernel
theorem e_14_50 {d : Nat} {h : mM} {o0 o1 o2 : Option Value} {T : mLs} {x : Nat} {st : List Value} : ev d 14 50 (o0 :: o1 :: o2 :: some (.ref x) :: T) st h = ev d 14 51 (o0 :: o1 :: o2 :: some (.ref x) :: T) (.ref x :: st) h := ev_of d_14_50 rfl
theorem d_14_51 : decode (cd 14) 51 = .ok (.getfield 81, 3) := by rw [cd_14]; decide +kernel
theorem e_14_51 {d : Nat} {h : mM} {L : mLs} {st : List Value} {a : Nat} : ev d 14 51 L (.ref a :: st) h = if mK h a = 4 then ev d 14 54 L (.int (mI h a 3) :: st) h else none := ev_gI d_14_51 (by decide +kernel) (by decide +kernel)
theorem d_14_54 : decode (cd 14) 54 = .ok (.if_icmp .le 13, 3) := by rw [cd_14]; decide +kernel
theorem e_14_54 {d : Nat} {h : mM} {L : mLs} {st : List Value} {x y : Int32} : ev d 14 54 L (.int y :: .int x :: st) h = if x ≤ y then ev d 14 67 L st h else ev d 14 57 L st h := ev_ic (x ≤ y) inferInstance rfl d_14_54 (by decide)
theorem d_14_57 : decode (cd 14) 57 = .ok (.aload_n 0, 1) := by rw [cd_14]; decide +kernel
theorem e_14_57 {d : Nat} {h : mM} {T : mLs} {x : Nat} {st : List Value} : ev d 14 57 ( some (.ref x) :: T) st h = ev d 14 58 ( some (.ref x) :: T) (.ref x :: st) h := ev_of d_14_57 rfl
theorem d_14_58 : decode (cd 14) 58 = .ok (.dup, 1) := by rw [cd_14]; decide +kernel
theorem e_14_58r {d : Nat} {h : mM} {L : mLs} {st : List Value} {a : Nat} : ev d 14 58 L (.ref a :: st) h = ev d 14 59 L (.ref a :: .ref a :: st) h := ev_of d_14_58 rfl
theorem e_14_58i {d : Nat} {h : mM} {L : mLs} {st : List Value} {x : Int32} : ev d 14 58 L (.int x :: st) h = ev d 14 59 L (.int x :: .int x :: st) h := ev_of d_14_58 rfl
theorem d_14_59 : decode (cd 14) 59 = .ok (.getfield 54, 3) := by rw [cd_14]; decide +kernel
theorem e_14_59 {d : Nat} {h : mM} {L : mLs} {st : List Value} {a : Nat} : ev d 14 59 L (.ref a :: st) h = if mK h a = 2 then ev d 14 62 L (.int (mI h a 12) :: st) h else none := ev_gI d_14_59 (by decide +kernel) (by decide +kernel)
theorem d_14_62 : decode (cd 14) 62 = .ok (.iconst 1, 1) := by rw [cd_14]; decide +kernel
theorem e_14_62 {d : Nat} {h : mM} {L : mLs} {st : List Value} : ev d 14 62 L st h = ev d 14 63 L (.int 1 :: st) h := ev_of d_14_62 rfl
theorem d_14_63 : decode (cd 14) 63 = .ok (.iadd, 1) := by rw [cd_14]; decide +kernel
theorem e_14_63 {d : Nat} {h : mM} {L : mLs} {st : List Value} {x y : Int32} : ev d 14 63 L (.int y :: .int x :: st) h = ev d 14 64 L (.int (x + y) :: st) h := ev_of d_14_63 rfl
theorem d_14_64 : decode (cd 14) 64 = .ok (.putfield 54, 3) := by rw [cd_14]; decide +kernel
theorem e_14_64 {d : Nat} {h : mM} {L : mLs} {st : List Value} {a : Nat} {v : Int32} : ev d 14 64 L (.int v :: .ref a :: st) h = if mK h a = 2 then ev d 14 67 L st (wI h a 12 v) else none := ev_pI d_14_64 (by decide +kernel) (by decide +kernel) (by decide +kernel)
theorem d_14_67 : decode (cd 14) 67 = .ok (.aload_n 3, 1) := by rw [cd_14]; decide +kernel
theorem e_14_67 {d : Nat} {h : mM} {o0 o1 o2 : Option Value} {T : mLs} {x : Nat} {st : List Value} : ev d 14 67 (o0 :: o1 :: o2 :: some (.ref x) :: T) st h = ev d 14 68 (o0 :: o1 :: o2 :: some (.ref x) :: T) (.ref x :: st) h := ev_of d_14_67 rfl
theorem d_14_68 : decode (cd 14) 68 = .ok (.getfield 84, 3) := by rw [cd_14]; decide +kernel
theorem e_14_68 {d : Nat} {h : mM} {L : mLs} {st : List Value} {a : Nat} : ev d 14 68 L (.ref a :: st) h = if mK h a = 4 then ev d 14 71 L (.int (mI h a 0) :: st) h else none := ev_gI d_14_68 (by decide +kernel) (by decide +kernel)
theorem d_14_71 : decode (cd 14) 71 = .ok (.invokestatic 85, 3) := by rw [cd_14]; decide +kernel
theorem e_14_71 {d : Nat} {h : mM} {L : mLs} {st : List Value} {x0 : Int32} (hc : mCat st ≤ 8) : ev (d + 1) 14 71 L (.int x0 :: st) h = cV (ev d 68 0 [some (.int x0)] [] h) (fun v h1 => ev (d + 1) 14 74 L (v ++ st) h1) := ev_cs (kd := 3) (mj := 68) (as := [.int x0]) (rest := st) d_14_71 (by decide +kernel) (by decide) rfl rfl (by show _ ≤ List.length _; simp only [List.length_cons]; have : na 68 = 1 := rfl; omega) rfl (Nat.le_of_ble_eq_true rfl) hc
theorem d_14_74 : decode (cd 14) 74 = .ok (.ifCond .eq 19, 3) := by rw [cd_14]; decide +kernel
theorem e_14_74 {d : Nat} {h : mM} {L : mLs} {st : List Value} {x : Int32} : ev d 14 74 L (.int x :: st) h = if x = 0 then ev d 14 93 L st h else ev d 14 77 L st h := ev_if (x = 0) inferInstance rfl d_14_74 (by decide)
theorem d_14_77 : decode (cd 14) 77 = .ok (.aload_n 2, 1) := by rw [cd_14]; decide +kernel
theorem e_14_77 {d : Nat} {h : mM} {o0 o1 : Option Value} {T : mLs} {x : Nat} {st : List Value} : ev d 14 77 (o0 :: o1 :: some (.ref x) :: T) st h = ev d 14 78 (o0 :: o1 :: some (.ref x) :: T) (.ref x :: st) h := ev_of d_14_77 rfl
theorem d_14_78 : decode (cd 14) 78 = .ok (.aload_n 3, 1) := by rw [cd_14]; decide +kernel
theorem e_14_78 {d : Nat} {h : mM} {o0 o1 o2 : Option Value} {T : mLs} {x : Nat} {st : List Value} : ev d 14 78 (o0 :: o1 :: o2 :: some (.ref x) :: T) st h = ev d 14 79 (o0 :: o1 :: o2 :: some (.ref x) :: T) (.ref x :: st) h := ev_of d_14_78 rfl
theorem d_14_79 : decode (cd 14) 79 = .ok (.getfield 84, 3) := by rw [cd_14]; decide +kernel
theorem e_14_79 {d : Nat} {h : mM} {L : mLs} {st : List Value} {a : Nat} : ev d 14 79 L (.ref a :: st) h = if mK h a = 4 then ev d 14 82 L (.int (mI h a 0) :: st) h else none := ev_gI d_14_79 (by decide +kernel) (by decide +kernel)
theorem d_14_82 : decode (cd 14) 82 = .ok (.dup2, 1) := by rw [cd_14]; decide +kernel
theorem e_14_82 {d : Nat} {h : mM} {L : mLs} {st : List Value} {a : Nat} {i : Int32} : ev d 14 82 L (.int i :: .ref a :: st) h = ev d 14 83 L (.int i :: .ref a :: .int i :: .ref a :: st) h := ev_of d_14_82 rfl
theorem d_14_83 : decode (cd 14) 83 = .ok (.iaload, 1) := by rw [cd_14]; decide +kernel
theorem e_14_83 {d : Nat} {h : mM} {L : mLs} {st : List Value} {a : Nat} {i : Int32} : ev d 14 83 L (.int i :: .ref a :: st) h = if (mK h a = 11 ∨ mK h a = 19) ∧ ixOK i (mL h a) = true then ev d 14 84 L (.int (mI h a i.toNatClampNeg) :: st) h else none := ev_ia d_14_83
theorem d_14_84 : decode (cd 14) 84 = .ok (.aload_n 3, 1) := by rw [cd_14]; decide +kernel
theorem e_14_84 {d : Nat} {h : mM} {o0 o1 o2 : Option Value} {T : mLs} {x : Nat} {st : List Value} : ev d 14 84 (o0 :: o1 :: o2 :: some (.ref x) :: T) st h = ev d 14 85 (o0 :: o1 :: o2 :: some (.ref x) :: T) (.ref x :: st) h := ev_of d_14_84 rfl
theorem d_14_85 : decode (cd 14) 85 = .ok (.getfield 78, 3) := by rw [cd_14]; decide +kernel
theorem e_14_85 {d : Nat} {h : mM} {L : mLs} {st : List Value} {a : Nat} : ev d 14 85 L (.ref a :: st) h = if mK h a = 4 then ev d 14 88 L (.int (mI h a 1) :: st) h else none := ev_gI d_14_85 (by decide +kernel) (by decide +kernel)
theorem d_14_88 : decode (cd 14) 88 = .ok (.iload 4, 2) := by rw [cd_14]; decide +kernel
theorem e_14_88 {d : Nat} {h : mM} {o0 o1 o2 o3 : Option Value} {T : mLs} {x : Int32} {st : List Value} : ev d 14 88 (o0 :: o1 :: o2 :: o3 :: some (.int x) :: T) st h = ev d 14 90 (o0 :: o1 :: o2 :: o3 :: some (.int x) :: T) (.int x :: st) h := ev_of d_14_88 rfl
theorem d_14_90 : decode (cd 14) 90 = .ok (.isub, 1) := by rw [cd_14]; decide +kernel
theorem e_14_90 {d : Nat} {h : mM} {L : mLs} {st : List Value} {x y : Int32} : ev d 14 90 L (.int y :: .int x :: st) h = ev d 14 91 L (.int (x - y) :: st) h := ev_of d_14_90 rfl
theorem d_14_91 : decode (cd 14) 91 = .ok (.iadd, 1) := by rw [cd_14]; decide +kernel
theorem e_14_91 {d : Nat} {h : mM} {L : mLs} {st : List Value} {x y : Int32} : ev d 14 91 L (.int y :: .int x :: st) h = ev d 14 92 L (.int (x + y) :: st) h := ev_of d_14_91 rfl
theorem d_14_92 : decode (cd 14) 92 = .ok (.iastore, 1) := by rw [cd_14]; decide +kernel
theorem e_14_92 {d : Nat} {h : mM} {L : mLs} {st : List Value} {a : Nat} {i v : Int32} : ev d 14 92 L (.int v :: .int i :: .ref a :: st) h = if mK h a = 11 ∧ ixOK i (mL h a) = true then ev d 14 93 L st (wI h a i.toNatClampNeg v) else none := ev_is d_14_92
theorem d_14_93 : decode (cd 14) 93 = .ok (.aload_n 0, 1) := by rw [cd_14]; decide +kernel
theorem e_14_93 {d : Nat} {h : mM} {T : mLs} {x : Nat} {st : List Value} : ev d 14 93 ( some (.ref x) :: T) st h = ev d 14 94 ( some (.ref x) :: T) (.ref x :: st) h := ev_of d_14_93 rfl
theorem d_14_94 : decode (cd 14) 94 = .ok (.dup, 1) := by rw [cd_14]; decide +kernel
theorem e_14_94r {d : Nat} {h : mM} {L : mLs} {st : List Value} {a : Nat} : ev d 14 94 L (.ref a :: st) h = ev d 14 95 L (.ref a :: .ref a :: st) h := ev_of d_14_94 rfl
theorem e_14_94i {d : Nat} {h : mM} {L : mLs} {st : List Value} {x : Int32} : ev d 14 94 L (.int x :: st) h = ev d 14 95 L (.int x :: .int x :: st) h := ev_of d_14_94 rfl
theorem d_14_95 : decode (cd 14) 95 = .ok (.getfield 42, 3) := by rw [cd_14]; decide +kernel
theorem e_14_95 {d : Nat} {h : mM} {L : mLs} {st : List Value} {a : Nat} : ev d 14 95 L (.ref a :: st) h = if mK h a = 2 then ev d 14 98 L (.int (mI h a 8) :: st) h else none := ev_gI d_14_95 (by decide +kernel) (by decide +kernel)
theorem d_14_98 : decode (cd 14) 98 = .ok (.iconst 1, 1) := by rw [cd_14]; decide +kernel
theorem e_14_98 {d : Nat} {h : mM} {L : mLs} {st : List Value} : ev d 14 98 L st h = ev d 14 99 L (.int 1 :: st) h := ev_of d_14_98 rfl
theorem d_14_99 : decode (cd 14) 99 = .ok (.isub, 1) := by rw [cd_14]; decide +kernel
theorem e_14_99 {d : Nat} {h : mM} {L : mLs} {st : List Value} {x y : Int32} : ev d 14 99 L (.int y :: .int x :: st) h = ev d 14 100 L (.int (x - y) :: st) h := ev_of d_14_99 rfl
theorem d_14_100 : decode (cd 14) 100 = .ok (.putfield 42, 3) := by rw [cd_14]; decide +kernel
theorem e_14_100 {d : Nat} {h : mM} {L : mLs} {st : List Value} {a : Nat} {v : Int32} : ev d 14 100 L (.int v :: .ref a :: st) h = if mK h a = 2 then ev d 14 103 L st (wI h a 8 v) else none := ev_pI d_14_100 (by decide +kernel) (by decide +kernel) (by decide +kernel)
theorem d_14_103 : decode (cd 14) 103 = .ok (.iconst 0, 1) := by rw [cd_14]; decide +kernel
theorem e_14_103 {d : Nat} {h : mM} {L : mLs} {st : List Value} : ev d 14 103 L st h = ev d 14 104 L (.int 0 :: st) h := ev_of d_14_103 rfl
theorem d_14_104 : decode (cd 14) 104 = .ok (.istore 5, 2) := by rw [cd_14]; decide +kernel
theorem e_14_104 {d : Nat} {h : mM} {o0 o1 o2 o3 o4 o5 : Option Value} {T : mLs} {x : Int32} {st : List Value} (hl : mLong o4 = false) : ev d 14 104 (o0 :: o1 :: o2 :: o3 :: o4 :: o5 :: T) (.int x :: st) h = ev d 14 106 (o0 :: o1 :: o2 :: o3 :: o4 :: some (.int x) :: T) st h := ev_st_i d_14_104 (by decide +kernel) (mS1_s (j := 4) hl)
theorem d_14_106 : decode (cd 14) 106 = .ok (.iload 5, 2) := by rw [cd_14]; decide +kernel
theorem e_14_106 {d : Nat} {h : mM} {o0 o1 o2 o3 o4 : Option Value} {T : mLs} {x : Int32} {st : List Value} : ev d 14 106 (o0 :: o1 :: o2 :: o3 :: o4 :: some (.int x) :: T) st h = ev d 14 108 (o0 :: o1 :: o2 :: o3 :: o4 :: some (.int x) :: T) (.int x :: st) h := ev_of d_14_106 rfl
theorem d_14_108 : decode (cd 14) 108 = .ok (.bipush 11, 2) := by rw [cd_14]; decide +kernel
theorem e_14_108 {d : Nat} {h : mM} {L : mLs} {st : List Value} : ev d 14 108 L st h = ev d 14 110 L (.int 11 :: st) h := ev_of d_14_108 rfl
theorem d_14_110 : decode (cd 14) 110 = .ok (.if_icmp .ge 25, 3) := by rw [cd_14]; decide +kernel
theorem e_14_110 {d : Nat} {h : mM} {L : mLs} {st : List Value} {x y : Int32} : ev d 14 110 L (.int y :: .int x :: st) h = if y ≤ x then ev d 14 135 L st h else ev d 14 113 L st h := ev_ic (y ≤ x) inferInstance rfl d_14_110 (by decide)
theorem d_14_113 : decode (cd 14) 113 = .ok (.aload_n 0, 1) := by rw [cd_14]; decide +kernel
theorem e_14_113 {d : Nat} {h : mM} {T : mLs} {x : Nat} {st : List Value} : ev d 14 113 ( some (.ref x) :: T) st h = ev d 14 114 ( some (.ref x) :: T) (.ref x :: st) h := ev_of d_14_113 rfl
theorem d_14_114 : decode (cd 14) 114 = .ok (.getfield 19, 3) := by rw [cd_14]; decide +kernel
theorem e_14_114 {d : Nat} {h : mM} {L : mLs} {st : List Value} {a : Nat} : ev d 14 114 L (.ref a :: st) h = if mK h a = 2 then oB (mR h a 1) (fun b => ev d 14 117 L (.ref b :: st) h) else none := ev_gR d_14_114 (by decide +kernel) (by decide +kernel)
theorem d_14_117 : decode (cd 14) 117 = .ok (.iload 5, 2) := by rw [cd_14]; decide +kernel
theorem e_14_117 {d : Nat} {h : mM} {o0 o1 o2 o3 o4 : Option Value} {T : mLs} {x : Int32} {st : List Value} : ev d 14 117 (o0 :: o1 :: o2 :: o3 :: o4 :: some (.int x) :: T) st h = ev d 14 119 (o0 :: o1 :: o2 :: o3 :: o4 :: some (.int x) :: T) (.int x :: st) h := ev_of d_14_117 rfl
theorem d_14_119 : decode (cd 14) 119 = .ok (.aload_n 0, 1) := by rw [cd_14]; decide +kernel
theorem e_14_119 {d : Nat} {h : mM} {T : mLs} {x : Nat} {st : List Value} : ev d 14 119 ( some (.ref x) :: T) st h = ev d 14 120 ( some (.ref x) :: T) (.ref x :: st) h := ev_of d_14_119 rfl
theorem d_14_120 : decode (cd 14) 120 = .ok (.getfield 19, 3) := by rw [cd_14]; decide +kernel
theorem e_14_120 {d : Nat} {h : mM} {L : mLs} {st : List Value} {a : Nat} : ev d 14 120 L (.ref a :: st) h = if mK h a = 2 then oB (mR h a 1) (fun b => ev d 14 123 L (.ref b :: st) h) else none := ev_gR d_14_120 (by decide +kernel) (by decide +kernel)
theorem d_14_123 : decode (cd 14) 123 = .ok (.iload 5, 2) := by rw [cd_14]; decide +kernel
theorem e_14_123 {d : Nat} {h : mM} {o0 o1 o2 o3 o4 : Option Value} {T : mLs} {x : Int32} {st : List Value} : ev d 14 123 (o0 :: o1 :: o2 :: o3 :: o4 :: some (.int x) :: T) st h = ev d 14 125 (o0 :: o1 :: o2 :: o3 :: o4 :: some (.int x) :: T) (.int x :: st) h := ev_of d_14_123 rfl
theorem d_14_125 : decode (cd 14) 125 = .ok (.iconst 1, 1) := by rw [cd_14]; decide +kernel
theorem e_14_125 {d : Nat} {h : mM} {L : mLs} {st : List Value} : ev d 14 125 L st h = ev d 14 126 L (.int 1 :: st) h := ev_of d_14_125 rfl
theorem d_14_126 : decode (cd 14) 126 = .ok (.iadd, 1) := by rw [cd_14]; decide +kernel
theorem e_14_126 {d : Nat} {h : mM} {L : mLs} {st : List Value} {x y : Int32} : ev d 14 126 L (.int y :: .int x :: st) h = ev d 14 127 L (.int (x + y) :: st) h := ev_of d_14_126 rfl
theorem d_14_127 : decode (cd 14) 127 = .ok (.aaload, 1) := by rw [cd_14]; decide +kernel
theorem e_14_127 {d : Nat} {h : mM} {L : mLs} {st : List Value} {a : Nat} {i : Int32} : ev d 14 127 L (.int i :: .ref a :: st) h = if (12 < mK h a ∧ mK h a < 19) ∧ ixOK i (mL h a) = true then oB (mR h a i.toNatClampNeg) (fun b => ev d 14 128 L (.ref b :: st) h) else none := ev_aa d_14_127
theorem d_14_128 : decode (cd 14) 128 = .ok (.aastore, 1) := by rw [cd_14]; decide +kernel
theorem e_14_128 {d : Nat} {h : mM} {L : mLs} {st : List Value} {a b : Nat} {i : Int32} : ev d 14 128 L (.ref b :: .int i :: .ref a :: st) h = if (12 < mK h a ∧ mK h a < 18) ∧ mK h b = mEl (mK h a) ∧ ixOK i (mL h a) = true then ev d 14 129 L st (wR h a i.toNatClampNeg (some b)) else none := ev_as d_14_128
theorem d_14_129 : decode (cd 14) 129 = .ok (.iinc 5 1, 3) := by rw [cd_14]; decide +kernel
theorem e_14_129 {d : Nat} {h : mM} {o0 o1 o2 o3 o4 : Option Value} {T : mLs} {x : Int32} {st : List Value} (hl : mLong o4 = false) : ev d 14 129 (o0 :: o1 :: o2 :: o3 :: o4 :: some (.int x) :: T) st h = ev d 14 132 (o0 :: o1 :: o2 :: o3 :: o4 :: some (.int (x + 1)) :: T) st h := ev_inc d_14_129 (by decide +kernel) rfl rfl (mS1_s (j := 4) hl)
theorem d_14_132 : decode (cd 14) 132 = .ok (.goto (-26), 3) := by rw [cd_14]; decide +kernel
theorem e_14_132 {d : Nat} {h : mM} {L : mLs} {st : List Value} : ev d 14 132 L st h = ev d 14 106 L st h := ev_go d_14_132 (by decide)
theorem d_14_135 : decode (cd 14) 135 = .ok (.aload_n 0, 1) := by rw [cd_14]; decide +kernel
theorem e_14_135 {d : Nat} {h : mM} {T : mLs} {x : Nat} {st : List Value} : ev d 14 135 ( some (.ref x) :: T) st h = ev d 14 136 ( some (.ref x) :: T) (.ref x :: st) h := ev_of d_14_135 rfl
theorem d_14_136 : decode (cd 14) 136 = .ok (.getfield 19, 3) := by rw [cd_14]; decide +kernel
theorem e_14_136 {d : Nat} {h : mM} {L : mLs} {st : List Value} {a : Nat} : ev d 14 136 L (.ref a :: st) h = if mK h a = 2 then oB (mR h a 1) (fun b => ev d 14 139 L (.ref b :: st) h) else none := ev_gR d_14_136 (by decide +kernel) (by decide +kernel)
theorem d_14_139 : decode (cd 14) 139 = .ok (.bipush 11, 2) := by rw [cd_14]; decide +kernel
theorem e_14_139 {d : Nat} {h : mM} {L : mLs} {st : List Value} : ev d 14 139 L st h = ev d 14 141 L (.int 11 :: st) h := ev_of d_14_139 rfl
theorem d_14_141 : decode (cd 14) 141 = .ok (.aload_n 3, 1) := by rw [cd_14]; decide +kernel
theorem e_14_141 {d : Nat} {h : mM} {o0 o1 o2 : Option Value} {T : mLs} {x : Nat} {st : List Value} : ev d 14 141 (o0 :: o1 :: o2 :: some (.ref x) :: T) st h = ev d 14 142 (o0 :: o1 :: o2 :: some (.ref x) :: T) (.ref x :: st) h := ev_of d_14_141 rfl
theorem d_14_142 : decode (cd 14) 142 = .ok (.aastore, 1) := by rw [cd_14]; decide +kernel
theorem e_14_142 {d : Nat} {h : mM} {L : mLs} {st : List Value} {a b : Nat} {i : Int32} : ev d 14 142 L (.ref b :: .int i :: .ref a :: st) h = if (12 < mK h a ∧ mK h a < 18) ∧ mK h b = mEl (mK h a) ∧ ixOK i (mL h a) = true then ev d 14 143 L st (wR h a i.toNatClampNeg (some b)) else none := ev_as d_14_142
theorem d_14_143 : decode (cd 14) 143 = .ok (.return_, 1) := by rw [cd_14]; decide +kernel
theorem e_14_143 {d : Nat} {h : mM} {L : mLs} : ev d 14 143 L [] h = some (none, h) := ev_rv d_14_143 (by decide +kernel)
-- 15: Pond.<init>
theorem cd_15 : cd 15 = prog_5_method_1_code := rfl
theorem d_15_0 : decode (cd 15) 0 = .ok (.aload_n 0, 1) := by rw [cd_15]; decide +kernel
theorem e_15_0 {d : Nat} {h : mM} {T : mLs} {x : Nat} {st : List Value} : ev d 15 0 ( some (.ref x) :: T) st h = ev d 15 1 ( some (.ref x) :: T) (.ref x :: st) h := ev_of d_15_0 rfl
theorem d_15_1 : decode (cd 15) 1 = .ok (.invokespecial 3, 3) := by rw [cd_15]; decide +kernel
theorem e_15_1 {d : Nat} {h : mM} {L : mLs} {st : List Value} {a : Nat} (hc : mCat st ≤ 8) : ev d 15 1 L (.ref a :: st) h = ev d 15 4 L st h := ev_obj (mj := 0) d_15_1 (by decide +kernel) hc
theorem d_15_4 : decode (cd 15) 4 = .ok (.aload_n 0, 1) := by rw [cd_15]; decide +kernel
theorem e_15_4 {d : Nat} {h : mM} {T : mLs} {x : Nat} {st : List Value} : ev d 15 4 ( some (.ref x) :: T) st h = ev d 15 5 ( some (.ref x) :: T) (.ref x :: st) h := ev_of d_15_4 rfl
theorem d_15_5 : decode (cd 15) 5 = .ok (.iconst 1, 1) := by rw [cd_15]; decide +kernel
theorem e_15_5 {d : Nat} {h : mM} {L : mLs} {st : List Value} : ev d 15 5 L st h = ev d 15 6 L (.int 1 :: st) h := ev_of d_15_5 rfl
theorem d_15_6 : decode (cd 15) 6 = .ok (.putfield 9, 3) := by rw [cd_15]; decide +kernel
theorem e_15_6 {d : Nat} {h : mM} {L : mLs} {st : List Value} {a : Nat} {v : Int32} : ev d 15 6 L (.int v :: .ref a :: st) h = if mK h a = 3 then ev d 15 9 L st (wI h a 0 v) else none := ev_pI d_15_6 (by decide +kernel) (by decide +kernel) (by decide +kernel)
theorem d_15_9 : decode (cd 15) 9 = .ok (.aload_n 0, 1) := by rw [cd_15]; decide +kernel
theorem e_15_9 {d : Nat} {h : mM} {T : mLs} {x : Nat} {st : List Value} : ev d 15 9 ( some (.ref x) :: T) st h = ev d 15 10 ( some (.ref x) :: T) (.ref x :: st) h := ev_of d_15_9 rfl
theorem d_15_10 : decode (cd 15) 10 = .ok (.iconst 1, 1) := by rw [cd_15]; decide +kernel
theorem e_15_10 {d : Nat} {h : mM} {L : mLs} {st : List Value} : ev d 15 10 L st h = ev d 15 11 L (.int 1 :: st) h := ev_of d_15_10 rfl
theorem d_15_11 : decode (cd 15) 11 = .ok (.putfield 15, 3) := by rw [cd_15]; decide +kernel
theorem e_15_11 {d : Nat} {h : mM} {L : mLs} {st : List Value} {a : Nat} {v : Int32} : ev d 15 11 L (.int v :: .ref a :: st) h = if mK h a = 3 then ev d 15 14 L st (wI h a 1 v) else none := ev_pI d_15_11 (by decide +kernel) (by decide +kernel) (by decide +kernel)
theorem d_15_14 : decode (cd 15) 14 = .ok (.aload_n 0, 1) := by rw [cd_15]; decide +kernel
theorem e_15_14 {d : Nat} {h : mM} {T : mLs} {x : Nat} {st : List Value} : ev d 15 14 ( some (.ref x) :: T) st h = ev d 15 15 ( some (.ref x) :: T) (.ref x :: st) h := ev_of d_15_14 rfl
theorem d_15_15 : decode (cd 15) 15 = .ok (.iconst 0, 1) := by rw [cd_15]; decide +kernel
theorem e_15_15 {d : Nat} {h : mM} {L : mLs} {st : List Value} : ev d 15 15 L st h = ev d 15 16 L (.int 0 :: st) h := ev_of d_15_15 rfl
theorem d_15_16 : decode (cd 15) 16 = .ok (.putfield 18, 3) := by rw [cd_15]; decide +kernel
theorem e_15_16 {d : Nat} {h : mM} {L : mLs} {st : List Value} {a : Nat} {v : Int32} : ev d 15 16 L (.int v :: .ref a :: st) h = if mK h a = 3 then ev d 15 19 L st (wI h a 2 v) else none := ev_pI d_15_16 (by decide +kernel) (by decide +kernel) (by decide +kernel)
theorem d_15_19 : decode (cd 15) 19 = .ok (.aload_n 0, 1) := by rw [cd_15]; decide +kernel
theorem e_15_19 {d : Nat} {h : mM} {T : mLs} {x : Nat} {st : List Value} : ev d 15 19 ( some (.ref x) :: T) st h = ev d 15 20 ( some (.ref x) :: T) (.ref x :: st) h := ev_of d_15_19 rfl
theorem d_15_20 : decode (cd 15) 20 = .ok (.iconst 1, 1) := by rw [cd_15]; decide +kernel
theorem e_15_20 {d : Nat} {h : mM} {L : mLs} {st : List Value} : ev d 15 20 L st h = ev d 15 21 L (.int 1 :: st) h := ev_of d_15_20 rfl
theorem d_15_21 : decode (cd 15) 21 = .ok (.putfield 21, 3) := by rw [cd_15]; decide +kernel
theorem e_15_21 {d : Nat} {h : mM} {L : mLs} {st : List Value} {a : Nat} {v : Int32} : ev d 15 21 L (.int v :: .ref a :: st) h = if mK h a = 3 then ev d 15 24 L st (wI h a 3 v) else none := ev_pI d_15_21 (by decide +kernel) (by decide +kernel) (by decide +kernel)
theorem d_15_24 : decode (cd 15) 24 = .ok (.return_, 1) := by rw [cd_15]; decide +kernel
theorem e_15_24 {d : Nat} {h : mM} {L : mLs} : ev d 15 24 L [] h = some (none, h) := ev_rv d_15_24 (by decide +kernel)
-- 16: Pond.level
theorem cd_16 : cd 16 = prog_5_method_2_code := rfl
theorem d_16_0 : decode (cd 16) 0 = .ok (.aload_n 0, 1) := by rw [cd_16]; decide +kernel
theorem e_16_0 {d : Nat} {h : mM} {T : mLs} {x : Nat} {st : List Value} : ev d 16 0 ( some (.ref x) :: T) st h = ev d 16 1 ( some (.ref x) :: T) (.ref x :: st) h := ev_of d_16_0 rfl
theorem d_16_1 : decode (cd 16) 1 = .ok (.getfield 9, 3) := by rw [cd_16]; decide +kernel
theorem e_16_1 {d : Nat} {h : mM} {L : mLs} {st : List Value} {a : Nat} : ev d 16 1 L (.ref a :: st) h = if mK h a = 3 then ev d 16 4 L (.int (mI h a 0) :: st) h else none := ev_gI d_16_1 (by decide +kernel) (by decide +kernel)
theorem d_16_4 : decode (cd 16) 4 = .ok (.ifCond .le 12, 3) := by rw [cd_16]; decide +kernel
theorem e_16_4 {d : Nat} {h : mM} {L : mLs} {st : List Value} {x : Int32} : ev d 16 4 L (.int x :: st) h = if x ≤ 0 then ev d 16 16 L st h else ev d 16 7 L st h := ev_if (x ≤ 0) inferInstance rfl d_16_4 (by decide)
theorem d_16_7 : decode (cd 16) 7 = .ok (.iload_n 1, 1) := by rw [cd_16]; decide +kernel
theorem e_16_7 {d : Nat} {h : mM} {o0 : Option Value} {T : mLs} {x : Int32} {st : List Value} : ev d 16 7 (o0 :: some (.int x) :: T) st h = ev d 16 8 (o0 :: some (.int x) :: T) (.int x :: st) h := ev_of d_16_7 rfl
theorem d_16_8 : decode (cd 16) 8 = .ok (.aload_n 0, 1) := by rw [cd_16]; decide +kernel
theorem e_16_8 {d : Nat} {h : mM} {T : mLs} {x : Nat} {st : List Value} : ev d 16 8 ( some (.ref x) :: T) st h = ev d 16 9 ( some (.ref x) :: T) (.ref x :: st) h := ev_of d_16_8 rfl
theorem d_16_9 : decode (cd 16) 9 = .ok (.getfield 9, 3) := by rw [cd_16]; decide +kernel
theorem e_16_9 {d : Nat} {h : mM} {L : mLs} {st : List Value} {a : Nat} : ev d 16 9 L (.ref a :: st) h = if mK h a = 3 then ev d 16 12 L (.int (mI h a 0) :: st) h else none := ev_gI d_16_9 (by decide +kernel) (by decide +kernel)
theorem d_16_12 : decode (cd 16) 12 = .ok (.idiv, 1) := by rw [cd_16]; decide +kernel
theorem e_16_12 {d : Nat} {h : mM} {L : mLs} {st : List Value} {x y : Int32} : ev d 16 12 L (.int y :: .int x :: st) h = if y = 0 then none else ev d 16 13 L (.int (x / y) :: st) h := ev_div d_16_12
theorem d_16_13 : decode (cd 16) 13 = .ok (.goto 4, 3) := by rw [cd_16]; decide +kernel
theorem e_16_13 {d : Nat} {h : mM} {L : mLs} {st : List Value} : ev d 16 13 L st h = ev d 16 17 L st h := ev_go d_16_13 (by decide)
theorem d_16_16 : decode (cd 16) 16 = .ok (.iconst 0, 1) := by rw [cd_16]; decide +kernel
theorem e_16_16 {d : Nat} {h : mM} {L : mLs} {st : List Value} : ev d 16 16 L st h = ev d 16 17 L (.int 0 :: st) h := ev_of d_16_16 rfl
theorem d_16_17 : decode (cd 16) 17 = .ok (.ireturn, 1) := by rw [cd_16]; decide +kernel
theorem e_16_17 {d : Nat} {h : mM} {L : mLs} {v : Int32} : ev d 16 17 L [.int v] h = some (some (.int v), h) := ev_ri d_16_17 (by decide +kernel)
-- 17: Pond.brim
theorem cd_17 : cd 17 = prog_5_method_3_code := rfl
theorem d_17_0 : decode (cd 17) 0 = .ok (.aload_n 0, 1) := by rw [cd_17]; decide +kernel
theorem e_17_0 {d : Nat} {h : mM} {T : mLs} {x : Nat} {st : List Value} : ev d 17 0 ( some (.ref x) :: T) st h = ev d 17 1 ( some (.ref x) :: T) (.ref x :: st) h := ev_of d_17_0 rfl
theorem d_17_1 : decode (cd 17) 1 = .ok (.getfield 9, 3) := by rw [cd_17]; decide +kernel
theorem e_17_1 {d : Nat} {h : mM} {L : mLs} {st : List Value} {a : Nat} : ev d 17 1 L (.ref a :: st) h = if mK h a = 3 then ev d 17 4 L (.int (mI h a 0) :: st) h else none := ev_gI d_17_1 (by decide +kernel) (by decide +kernel)
theorem d_17_4 : decode (cd 17) 4 = .ok (.aload_n 0, 1) := by rw [cd_17]; decide +kernel
theorem e_17_4 {d : Nat} {h : mM} {T : mLs} {x : Nat} {st : List Value} : ev d 17 4 ( some (.ref x) :: T) st h = ev d 17 5 ( some (.ref x) :: T) (.ref x :: st) h := ev_of d_17_4 rfl
theorem d_17_5 : decode (cd 17) 5 = .ok (.getfield 15, 3) := by rw [cd_17]; decide +kernel
theorem e_17_5 {d : Nat} {h : mM} {L : mLs} {st : List Value} {a : Nat} : ev d 17 5 L (.ref a :: st) h = if mK h a = 3 then ev d 17 8 L (.int (mI h a 1) :: st) h else none := ev_gI d_17_5 (by decide +kernel) (by decide +kernel)
theorem d_17_8 : decode (cd 17) 8 = .ok (.imul, 1) := by rw [cd_17]; decide +kernel
theorem e_17_8 {d : Nat} {h : mM} {L : mLs} {st : List Value} {x y : Int32} : ev d 17 8 L (.int y :: .int x :: st) h = ev d 17 9 L (.int (x * y) :: st) h := ev_of d_17_8 rfl
theorem d_17_9 : decode (cd 17) 9 = .ok (.ireturn, 1) := by rw [cd_17]; decide +kernel
theorem e_17_9 {d : Nat} {h : mM} {L : mLs} {v : Int32} : ev d 17 9 L [.int v] h = some (some (.int v), h) := ev_ri d_17_9 (by decide +kernel)
-- 18: Pond.comesIn
theorem cd_18 : cd 18 = prog_5_method_4_code := rfl
theorem d_18_0 : decode (cd 18) 0 = .ok (.iload_n 2, 1) := by rw [cd_18]; decide +kernel
theorem e_18_0 {d : Nat} {h : mM} {o0 o1 : Option Value} {T : mLs} {x : Int32} {st : List Value} : ev d 18 0 (o0 :: o1 :: some (.int x) :: T) st h = ev d 18 1 (o0 :: o1 :: some (.int x) :: T) (.int x :: st) h := ev_of d_18_0 rfl
theorem d_18_1 : decode (cd 18) 1 = .ok (.aload_n 0, 1) := by rw [cd_18]; decide +kernel
theorem e_18_1 {d : Nat} {h : mM} {T : mLs} {x : Nat} {st : List Value} : ev d 18 1 ( some (.ref x) :: T) st h = ev d 18 2 ( some (.ref x) :: T) (.ref x :: st) h := ev_of d_18_1 rfl
theorem d_18_2 : decode (cd 18) 2 = .ok (.iload_n 1, 1) := by rw [cd_18]; decide +kernel
theorem e_18_2 {d : Nat} {h : mM} {o0 : Option Value} {T : mLs} {x : Int32} {st : List Value} : ev d 18 2 (o0 :: some (.int x) :: T) st h = ev d 18 3 (o0 :: some (.int x) :: T) (.int x :: st) h := ev_of d_18_2 rfl
theorem d_18_3 : decode (cd 18) 3 = .ok (.invokevirtual 24, 3) := by rw [cd_18]; decide +kernel
theorem e_18_3 {d : Nat} {h : mM} {L : mLs} {st : List Value} {a : Nat} {x0 : Int32} (hc : mCat st ≤ 8) : ev (d + 1) 18 3 L (.int x0 :: .ref a :: st) h = if mK h a = 3 then cV (ev d 16 0 [some (.ref a), some (.int x0)] [] h) (fun v h1 => ev (d + 1) 18 6 L (v ++ st) h1) else none := ev_cv (mj := 16) (as := [.int x0]) (rest := st) d_18_3 (by decide +kernel) rfl rfl (by show _ ≤ List.length _; simp only [List.length_cons]; have : na 16 = 1 := rfl; omega) rfl (Nat.le_of_ble_eq_true rfl) hc
theorem d_18_6 : decode (cd 18) 6 = .ok (.isub, 1) := by rw [cd_18]; decide +kernel
theorem e_18_6 {d : Nat} {h : mM} {L : mLs} {st : List Value} {x y : Int32} : ev d 18 6 L (.int y :: .int x :: st) h = ev d 18 7 L (.int (x - y) :: st) h := ev_of d_18_6 rfl
theorem d_18_7 : decode (cd 18) 7 = .ok (.istore_n 3, 1) := by rw [cd_18]; decide +kernel
theorem e_18_7 {d : Nat} {h : mM} {o0 o1 o2 o3 : Option Value} {T : mLs} {x : Int32} {st : List Value} (hl : mLong o2 = false) : ev d 18 7 (o0 :: o1 :: o2 :: o3 :: T) (.int x :: st) h = ev d 18 8 (o0 :: o1 :: o2 :: some (.int x) :: T) st h := ev_st_in d_18_7 (by decide +kernel) (mS1_s (j := 2) hl)
theorem d_18_8 : decode (cd 18) 8 = .ok (.aload_n 0, 1) := by rw [cd_18]; decide +kernel
theorem e_18_8 {d : Nat} {h : mM} {T : mLs} {x : Nat} {st : List Value} : ev d 18 8 ( some (.ref x) :: T) st h = ev d 18 9 ( some (.ref x) :: T) (.ref x :: st) h := ev_of d_18_8 rfl
theorem d_18_9 : decode (cd 18) 9 = .ok (.getfield 21, 3) := by rw [cd_18]; decide +kernel
theorem e_18_9 {d : Nat} {h : mM} {L : mLs} {st : List Value} {a : Nat} : ev d 18 9 L (.ref a :: st) h = if mK h a = 3 then ev d 18 12 L (.int (mI h a 3) :: st) h else none := ev_gI d_18_9 (by decide +kernel) (by decide +kernel)
theorem d_18_12 : decode (cd 18) 12 = .ok (.ifCond .eq 27, 3) := by rw [cd_18]; decide +kernel
theorem e_18_12 {d : Nat} {h : mM} {L : mLs} {st : List Value} {x : Int32} : ev d 18 12 L (.int x :: st) h = if x = 0 then ev d 18 39 L st h else ev d 18 15 L st h := ev_if (x = 0) inferInstance rfl d_18_12 (by decide)
theorem d_18_15 : decode (cd 18) 15 = .ok (.iload_n 3, 1) := by rw [cd_18]; decide +kernel
theorem e_18_15 {d : Nat} {h : mM} {o0 o1 o2 : Option Value} {T : mLs} {x : Int32} {st : List Value} : ev d 18 15 (o0 :: o1 :: o2 :: some (.int x) :: T) st h = ev d 18 16 (o0 :: o1 :: o2 :: some (.int x) :: T) (.int x :: st) h := ev_of d_18_15 rfl
theorem d_18_16 : decode (cd 18) 16 = .ok (.ifCond .le 23, 3) := by rw [cd_18]; decide +kernel
theorem e_18_16 {d : Nat} {h : mM} {L : mLs} {st : List Value} {x : Int32} : ev d 18 16 L (.int x :: st) h = if x ≤ 0 then ev d 18 39 L st h else ev d 18 19 L st h := ev_if (x ≤ 0) inferInstance rfl d_18_16 (by decide)
theorem d_18_19 : decode (cd 18) 19 = .ok (.aload_n 0, 1) := by rw [cd_18]; decide +kernel
theorem e_18_19 {d : Nat} {h : mM} {T : mLs} {x : Nat} {st : List Value} : ev d 18 19 ( some (.ref x) :: T) st h = ev d 18 20 ( some (.ref x) :: T) (.ref x :: st) h := ev_of d_18_19 rfl
theorem d_18_20 : decode (cd 18) 20 = .ok (.getfield 18, 3) := by rw [cd_18]; decide +kernel
theorem e_18_20 {d : Nat} {h : mM} {L : mLs} {st : List Value} {a : Nat} : ev d 18 20 L (.ref a :: st) h = if mK h a = 3 then ev d 18 23 L (.int (mI h a 2) :: st) h else none := ev_gI d_18_20 (by decide +kernel) (by decide +kernel)
theorem d_18_23 : decode (cd 18) 23 = .ok (.iload_n 3, 1) := by rw [cd_18]; decide +kernel
theorem e_18_23 {d : Nat} {h : mM} {o0 o1 o2 : Option Value} {T : mLs} {x : Int32} {st : List Value} : ev d 18 23 (o0 :: o1 :: o2 :: some (.int x) :: T) st h = ev d 18 24 (o0 :: o1 :: o2 :: some (.int x) :: T) (.int x :: st) h := ev_of d_18_23 rfl
theorem d_18_24 : decode (cd 18) 24 = .ok (.imul, 1) := by rw [cd_18]; decide +kernel
theorem e_18_24 {d : Nat} {h : mM} {L : mLs} {st : List Value} {x y : Int32} : ev d 18 24 L (.int y :: .int x :: st) h = ev d 18 25 L (.int (x * y) :: st) h := ev_of d_18_24 rfl
theorem d_18_25 : decode (cd 18) 25 = .ok (.aload_n 0, 1) := by rw [cd_18]; decide +kernel
theorem e_18_25 {d : Nat} {h : mM} {T : mLs} {x : Nat} {st : List Value} : ev d 18 25 ( some (.ref x) :: T) st h = ev d 18 26 ( some (.ref x) :: T) (.ref x :: st) h := ev_of d_18_25 rfl
theorem d_18_26 : decode (cd 18) 26 = .ok (.getfield 9, 3) := by rw [cd_18]; decide +kernel
theorem e_18_26 {d : Nat} {h : mM} {L : mLs} {st : List Value} {a : Nat} : ev d 18 26 L (.ref a :: st) h = if mK h a = 3 then ev d 18 29 L (.int (mI h a 0) :: st) h else none := ev_gI d_18_26 (by decide +kernel) (by decide +kernel)
theorem d_18_29 : decode (cd 18) 29 = .ok (.iload_n 2, 1) := by rw [cd_18]; decide +kernel
theorem e_18_29 {d : Nat} {h : mM} {o0 o1 : Option Value} {T : mLs} {x : Int32} {st : List Value} : ev d 18 29 (o0 :: o1 :: some (.int x) :: T) st h = ev d 18 30 (o0 :: o1 :: some (.int x) :: T) (.int x :: st) h := ev_of d_18_29 rfl
theorem d_18_30 : decode (cd 18) 30 = .ok (.imul, 1) := by rw [cd_18]; decide +kernel
theorem e_18_30 {d : Nat} {h : mM} {L : mLs} {st : List Value} {x y : Int32} : ev d 18 30 L (.int y :: .int x :: st) h = ev d 18 31 L (.int (x * y) :: st) h := ev_of d_18_30 rfl
theorem d_18_31 : decode (cd 18) 31 = .ok (.iload_n 1, 1) := by rw [cd_18]; decide +kernel
theorem e_18_31 {d : Nat} {h : mM} {o0 : Option Value} {T : mLs} {x : Int32} {st : List Value} : ev d 18 31 (o0 :: some (.int x) :: T) st h = ev d 18 32 (o0 :: some (.int x) :: T) (.int x :: st) h := ev_of d_18_31 rfl
theorem d_18_32 : decode (cd 18) 32 = .ok (.isub, 1) := by rw [cd_18]; decide +kernel
theorem e_18_32 {d : Nat} {h : mM} {L : mLs} {st : List Value} {x y : Int32} : ev d 18 32 L (.int y :: .int x :: st) h = ev d 18 33 L (.int (x - y) :: st) h := ev_of d_18_32 rfl
theorem d_18_33 : decode (cd 18) 33 = .ok (.invokestatic 28, 3) := by rw [cd_18]; decide +kernel
theorem e_18_33 {d : Nat} {h : mM} {L : mLs} {st : List Value} {x y : Int32} (hc : mCat st ≤ 8) : ev d 18 33 L (.int y :: .int x :: st) h = ev d 18 36 L (.int (if y < x then y else x) :: st) h := ev_min (mj := 0) d_18_33 (by decide +kernel) hc
theorem d_18_36 : decode (cd 18) 36 = .ok (.goto 4, 3) := by rw [cd_18]; decide +kernel
theorem e_18_36 {d : Nat} {h : mM} {L : mLs} {st : List Value} : ev d 18 36 L st h = ev d 18 40 L st h := ev_go d_18_36 (by decide)
theorem d_18_39 : decode (cd 18) 39 = .ok (.iconst 0, 1) := by rw [cd_18]; decide +kernel
theorem e_18_39 {d : Nat} {h : mM} {L : mLs} {st : List Value} : ev d 18 39 L st h = ev d 18 40 L (.int 0 :: st) h := ev_of d_18_39 rfl
theorem d_18_40 : decode (cd 18) 40 = .ok (.ireturn, 1) := by rw [cd_18]; decide +kernel
theorem e_18_40 {d : Nat} {h : mM} {L : mLs} {v : Int32} : ev d 18 40 L [.int v] h = some (some (.int v), h) := ev_ri d_18_40 (by decide +kernel)
-- 19: Pond.goesOut
theorem cd_19 : cd 19 = prog_5_method_5_code := rfl
theorem d_19_0 : decode (cd 19) 0 = .ok (.aload_n 0, 1) := by rw [cd_19]; decide +kernel
theorem e_19_0 {d : Nat} {h : mM} {T : mLs} {x : Nat} {st : List Value} : ev d 19 0 ( some (.ref x) :: T) st h = ev d 19 1 ( some (.ref x) :: T) (.ref x :: st) h := ev_of d_19_0 rfl
theorem d_19_1 : decode (cd 19) 1 = .ok (.iload_n 1, 1) := by rw [cd_19]; decide +kernel
theorem e_19_1 {d : Nat} {h : mM} {o0 : Option Value} {T : mLs} {x : Int32} {st : List Value} : ev d 19 1 (o0 :: some (.int x) :: T) st h = ev d 19 2 (o0 :: some (.int x) :: T) (.int x :: st) h := ev_of d_19_1 rfl
theorem d_19_2 : decode (cd 19) 2 = .ok (.invokevirtual 24, 3) := by rw [cd_19]; decide +kernel
theorem e_19_2 {d : Nat} {h : mM} {L : mLs} {st : List Value} {a : Nat} {x0 : Int32} (hc : mCat st ≤ 8) : ev (d + 1) 19 2 L (.int x0 :: .ref a :: st) h = if mK h a = 3 then cV (ev d 16 0 [some (.ref a), some (.int x0)] [] h) (fun v h1 => ev (d + 1) 19 5 L (v ++ st) h1) else none := ev_cv (mj := 16) (as := [.int x0]) (rest := st) d_19_2 (by decide +kernel) rfl rfl (by show _ ≤ List.length _; simp only [List.length_cons]; have : na 16 = 1 := rfl; omega) rfl (Nat.le_of_ble_eq_true rfl) hc
theorem d_19_5 : decode (cd 19) 5 = .ok (.iload_n 2, 1) := by rw [cd_19]; decide +kernel
theorem e_19_5 {d : Nat} {h : mM} {o0 o1 : Option Value} {T : mLs} {x : Int32} {st : List Value} : ev d 19 5 (o0 :: o1 :: some (.int x) :: T) st h = ev d 19 6 (o0 :: o1 :: some (.int x) :: T) (.int x :: st) h := ev_of d_19_5 rfl
theorem d_19_6 : decode (cd 19) 6 = .ok (.isub, 1) := by rw [cd_19]; decide +kernel
theorem e_19_6 {d : Nat} {h : mM} {L : mLs} {st : List Value} {x y : Int32} : ev d 19 6 L (.int y :: .int x :: st) h = ev d 19 7 L (.int (x - y) :: st) h := ev_of d_19_6 rfl
theorem d_19_7 : decode (cd 19) 7 = .ok (.istore_n 3, 1) := by rw [cd_19]; decide +kernel
theorem e_19_7 {d : Nat} {h : mM} {o0 o1 o2 o3 : Option Value} {T : mLs} {x : Int32} {st : List Value} (hl : mLong o2 = false) : ev d 19 7 (o0 :: o1 :: o2 :: o3 :: T) (.int x :: st) h = ev d 19 8 (o0 :: o1 :: o2 :: some (.int x) :: T) st h := ev_st_in d_19_7 (by decide +kernel) (mS1_s (j := 2) hl)
theorem d_19_8 : decode (cd 19) 8 = .ok (.aload_n 0, 1) := by rw [cd_19]; decide +kernel
theorem e_19_8 {d : Nat} {h : mM} {T : mLs} {x : Nat} {st : List Value} : ev d 19 8 ( some (.ref x) :: T) st h = ev d 19 9 ( some (.ref x) :: T) (.ref x :: st) h := ev_of d_19_8 rfl
theorem d_19_9 : decode (cd 19) 9 = .ok (.getfield 21, 3) := by rw [cd_19]; decide +kernel
theorem e_19_9 {d : Nat} {h : mM} {L : mLs} {st : List Value} {a : Nat} : ev d 19 9 L (.ref a :: st) h = if mK h a = 3 then ev d 19 12 L (.int (mI h a 3) :: st) h else none := ev_gI d_19_9 (by decide +kernel) (by decide +kernel)
theorem d_19_12 : decode (cd 19) 12 = .ok (.iconst 2, 1) := by rw [cd_19]; decide +kernel
theorem e_19_12 {d : Nat} {h : mM} {L : mLs} {st : List Value} : ev d 19 12 L st h = ev d 19 13 L (.int 2 :: st) h := ev_of d_19_12 rfl
theorem d_19_13 : decode (cd 19) 13 = .ok (.if_icmp .ne 27, 3) := by rw [cd_19]; decide +kernel
theorem e_19_13 {d : Nat} {h : mM} {L : mLs} {st : List Value} {x y : Int32} : ev d 19 13 L (.int y :: .int x :: st) h = if ¬ x = y then ev d 19 40 L st h else ev d 19 16 L st h := ev_ic (¬ x = y) inferInstance rfl d_19_13 (by decide)
theorem d_19_16 : decode (cd 19) 16 = .ok (.iload_n 3, 1) := by rw [cd_19]; decide +kernel
theorem e_19_16 {d : Nat} {h : mM} {o0 o1 o2 : Option Value} {T : mLs} {x : Int32} {st : List Value} : ev d 19 16 (o0 :: o1 :: o2 :: some (.int x) :: T) st h = ev d 19 17 (o0 :: o1 :: o2 :: some (.int x) :: T) (.int x :: st) h := ev_of d_19_16 rfl
theorem d_19_17 : decode (cd 19) 17 = .ok (.ifCond .le 23, 3) := by rw [cd_19]; decide +kernel
theorem e_19_17 {d : Nat} {h : mM} {L : mLs} {st : List Value} {x : Int32} : ev d 19 17 L (.int x :: st) h = if x ≤ 0 then ev d 19 40 L st h else ev d 19 20 L st h := ev_if (x ≤ 0) inferInstance rfl d_19_17 (by decide)
theorem d_19_20 : decode (cd 19) 20 = .ok (.aload_n 0, 1) := by rw [cd_19]; decide +kernel
theorem e_19_20 {d : Nat} {h : mM} {T : mLs} {x : Nat} {st : List Value} : ev d 19 20 ( some (.ref x) :: T) st h = ev d 19 21 ( some (.ref x) :: T) (.ref x :: st) h := ev_of d_19_20 rfl
theorem d_19_21 : decode (cd 19) 21 = .ok (.getfield 18, 3) := by rw [cd_19]; decide +kernel
theorem e_19_21 {d : Nat} {h : mM} {L : mLs} {st : List Value} {a : Nat} : ev d 19 21 L (.ref a :: st) h = if mK h a = 3 then ev d 19 24 L (.int (mI h a 2) :: st) h else none := ev_gI d_19_21 (by decide +kernel) (by decide +kernel)
theorem d_19_24 : decode (cd 19) 24 = .ok (.iload_n 3, 1) := by rw [cd_19]; decide +kernel
theorem e_19_24 {d : Nat} {h : mM} {o0 o1 o2 : Option Value} {T : mLs} {x : Int32} {st : List Value} : ev d 19 24 (o0 :: o1 :: o2 :: some (.int x) :: T) st h = ev d 19 25 (o0 :: o1 :: o2 :: some (.int x) :: T) (.int x :: st) h := ev_of d_19_24 rfl
theorem d_19_25 : decode (cd 19) 25 = .ok (.imul, 1) := by rw [cd_19]; decide +kernel
theorem e_19_25 {d : Nat} {h : mM} {L : mLs} {st : List Value} {x y : Int32} : ev d 19 25 L (.int y :: .int x :: st) h = ev d 19 26 L (.int (x * y) :: st) h := ev_of d_19_25 rfl
theorem d_19_26 : decode (cd 19) 26 = .ok (.iload_n 1, 1) := by rw [cd_19]; decide +kernel
theorem e_19_26 {d : Nat} {h : mM} {o0 : Option Value} {T : mLs} {x : Int32} {st : List Value} : ev d 19 26 (o0 :: some (.int x) :: T) st h = ev d 19 27 (o0 :: some (.int x) :: T) (.int x :: st) h := ev_of d_19_26 rfl
theorem d_19_27 : decode (cd 19) 27 = .ok (.aload_n 0, 1) := by rw [cd_19]; decide +kernel
theorem e_19_27 {d : Nat} {h : mM} {T : mLs} {x : Nat} {st : List Value} : ev d 19 27 ( some (.ref x) :: T) st h = ev d 19 28 ( some (.ref x) :: T) (.ref x :: st) h := ev_of d_19_27 rfl
theorem d_19_28 : decode (cd 19) 28 = .ok (.getfield 9, 3) := by rw [cd_19]; decide +kernel
theorem e_19_28 {d : Nat} {h : mM} {L : mLs} {st : List Value} {a : Nat} : ev d 19 28 L (.ref a :: st) h = if mK h a = 3 then ev d 19 31 L (.int (mI h a 0) :: st) h else none := ev_gI d_19_28 (by decide +kernel) (by decide +kernel)
theorem d_19_31 : decode (cd 19) 31 = .ok (.iload_n 2, 1) := by rw [cd_19]; decide +kernel
theorem e_19_31 {d : Nat} {h : mM} {o0 o1 : Option Value} {T : mLs} {x : Int32} {st : List Value} : ev d 19 31 (o0 :: o1 :: some (.int x) :: T) st h = ev d 19 32 (o0 :: o1 :: some (.int x) :: T) (.int x :: st) h := ev_of d_19_31 rfl
theorem d_19_32 : decode (cd 19) 32 = .ok (.imul, 1) := by rw [cd_19]; decide +kernel
theorem e_19_32 {d : Nat} {h : mM} {L : mLs} {st : List Value} {x y : Int32} : ev d 19 32 L (.int y :: .int x :: st) h = ev d 19 33 L (.int (x * y) :: st) h := ev_of d_19_32 rfl
theorem d_19_33 : decode (cd 19) 33 = .ok (.isub, 1) := by rw [cd_19]; decide +kernel
theorem e_19_33 {d : Nat} {h : mM} {L : mLs} {st : List Value} {x y : Int32} : ev d 19 33 L (.int y :: .int x :: st) h = ev d 19 34 L (.int (x - y) :: st) h := ev_of d_19_33 rfl
theorem d_19_34 : decode (cd 19) 34 = .ok (.invokestatic 28, 3) := by rw [cd_19]; decide +kernel
theorem e_19_34 {d : Nat} {h : mM} {L : mLs} {st : List Value} {x y : Int32} (hc : mCat st ≤ 8) : ev d 19 34 L (.int y :: .int x :: st) h = ev d 19 37 L (.int (if y < x then y else x) :: st) h := ev_min (mj := 0) d_19_34 (by decide +kernel) hc
theorem d_19_37 : decode (cd 19) 37 = .ok (.goto 4, 3) := by rw [cd_19]; decide +kernel
theorem e_19_37 {d : Nat} {h : mM} {L : mLs} {st : List Value} : ev d 19 37 L st h = ev d 19 41 L st h := ev_go d_19_37 (by decide)
theorem d_19_40 : decode (cd 19) 40 = .ok (.iconst 0, 1) := by rw [cd_19]; decide +kernel
theorem e_19_40 {d : Nat} {h : mM} {L : mLs} {st : List Value} : ev d 19 40 L st h = ev d 19 41 L (.int 0 :: st) h := ev_of d_19_40 rfl
theorem d_19_41 : decode (cd 19) 41 = .ok (.ireturn, 1) := by rw [cd_19]; decide +kernel
theorem e_19_41 {d : Nat} {h : mM} {L : mLs} {v : Int32} : ev d 19 41 L [.int v] h = some (some (.int v), h) := ev_ri d_19_41 (by decide +kernel)
-- 20: Sack.<init>
theorem cd_20 : cd 20 = prog_6_method_1_code := rfl
theorem d_20_0 : decode (cd 20) 0 = .ok (.aload_n 0, 1) := by rw [cd_20]; decide +kernel
theorem e_20_0 {d : Nat} {h : mM} {T : mLs} {x : Nat} {st : List Value} : ev d 20 0 ( some (.ref x) :: T) st h = ev d 20 1 ( some (.ref x) :: T) (.ref x :: st) h := ev_of d_20_0 rfl
theorem d_20_1 : decode (cd 20) 1 = .ok (.invokespecial 1, 3) := by rw [cd_20]; decide +kernel
theorem e_20_1 {d : Nat} {h : mM} {L : mLs} {st : List Value} {a : Nat} (hc : mCat st ≤ 8) : ev d 20 1 L (.ref a :: st) h = ev d 20 4 L st h := ev_obj (mj := 0) d_20_1 (by decide +kernel) hc
theorem d_20_4 : decode (cd 20) 4 = .ok (.aload_n 0, 1) := by rw [cd_20]; decide +kernel
theorem e_20_4 {d : Nat} {h : mM} {T : mLs} {x : Nat} {st : List Value} : ev d 20 4 ( some (.ref x) :: T) st h = ev d 20 5 ( some (.ref x) :: T) (.ref x :: st) h := ev_of d_20_4 rfl
theorem d_20_5 : decode (cd 20) 5 = .ok (.iconst 0, 1) := by rw [cd_20]; decide +kernel
theorem e_20_5 {d : Nat} {h : mM} {L : mLs} {st : List Value} : ev d 20 5 L st h = ev d 20 6 L (.int 0 :: st) h := ev_of d_20_5 rfl
theorem d_20_6 : decode (cd 20) 6 = .ok (.putfield 7, 3) := by rw [cd_20]; decide +kernel
theorem e_20_6 {d : Nat} {h : mM} {L : mLs} {st : List Value} {a : Nat} {v : Int32} : ev d 20 6 L (.int v :: .ref a :: st) h = if mK h a = 4 then ev d 20 9 L st (wI h a 0 v) else none := ev_pI d_20_6 (by decide +kernel) (by decide +kernel) (by decide +kernel)
theorem d_20_9 : decode (cd 20) 9 = .ok (.aload_n 0, 1) := by rw [cd_20]; decide +kernel
theorem e_20_9 {d : Nat} {h : mM} {T : mLs} {x : Nat} {st : List Value} : ev d 20 9 ( some (.ref x) :: T) st h = ev d 20 10 ( some (.ref x) :: T) (.ref x :: st) h := ev_of d_20_9 rfl
theorem d_20_10 : decode (cd 20) 10 = .ok (.iconst 0, 1) := by rw [cd_20]; decide +kernel
theorem e_20_10 {d : Nat} {h : mM} {L : mLs} {st : List Value} : ev d 20 10 L st h = ev d 20 11 L (.int 0 :: st) h := ev_of d_20_10 rfl
theorem d_20_11 : decode (cd 20) 11 = .ok (.putfield 13, 3) := by rw [cd_20]; decide +kernel
theorem e_20_11 {d : Nat} {h : mM} {L : mLs} {st : List Value} {a : Nat} {v : Int32} : ev d 20 11 L (.int v :: .ref a :: st) h = if mK h a = 4 then ev d 20 14 L st (wI h a 1 v) else none := ev_pI d_20_11 (by decide +kernel) (by decide +kernel) (by decide +kernel)
theorem d_20_14 : decode (cd 20) 14 = .ok (.aload_n 0, 1) := by rw [cd_20]; decide +kernel
theorem e_20_14 {d : Nat} {h : mM} {T : mLs} {x : Nat} {st : List Value} : ev d 20 14 ( some (.ref x) :: T) st h = ev d 20 15 ( some (.ref x) :: T) (.ref x :: st) h := ev_of d_20_14 rfl
theorem d_20_15 : decode (cd 20) 15 = .ok (.iconst 0, 1) := by rw [cd_20]; decide +kernel
theorem e_20_15 {d : Nat} {h : mM} {L : mLs} {st : List Value} : ev d 20 15 L st h = ev d 20 16 L (.int 0 :: st) h := ev_of d_20_15 rfl
theorem d_20_16 : decode (cd 20) 16 = .ok (.putfield 16, 3) := by rw [cd_20]; decide +kernel
theorem e_20_16 {d : Nat} {h : mM} {L : mLs} {st : List Value} {a : Nat} {v : Int32} : ev d 20 16 L (.int v :: .ref a :: st) h = if mK h a = 4 then ev d 20 19 L st (wI h a 2 v) else none := ev_pI d_20_16 (by decide +kernel) (by decide +kernel) (by decide +kernel)
theorem d_20_19 : decode (cd 20) 19 = .ok (.aload_n 0, 1) := by rw [cd_20]; decide +kernel
theorem e_20_19 {d : Nat} {h : mM} {T : mLs} {x : Nat} {st : List Value} : ev d 20 19 ( some (.ref x) :: T) st h = ev d 20 20 ( some (.ref x) :: T) (.ref x :: st) h := ev_of d_20_19 rfl
theorem d_20_20 : decode (cd 20) 20 = .ok (.iconst 0, 1) := by rw [cd_20]; decide +kernel
theorem e_20_20 {d : Nat} {h : mM} {L : mLs} {st : List Value} : ev d 20 20 L st h = ev d 20 21 L (.int 0 :: st) h := ev_of d_20_20 rfl
theorem d_20_21 : decode (cd 20) 21 = .ok (.putfield 19, 3) := by rw [cd_20]; decide +kernel
theorem e_20_21 {d : Nat} {h : mM} {L : mLs} {st : List Value} {a : Nat} {v : Int32} : ev d 20 21 L (.int v :: .ref a :: st) h = if mK h a = 4 then ev d 20 24 L st (wI h a 3 v) else none := ev_pI d_20_21 (by decide +kernel) (by decide +kernel) (by decide +kernel)
theorem d_20_24 : decode (cd 20) 24 = .ok (.return_, 1) := by rw [cd_20]; decide +kernel
theorem e_20_24 {d : Nat} {h : mM} {L : mLs} : ev d 20 24 L [] h = some (none, h) := ev_rv d_20_24 (by decide +kernel)
-- 21: Search.<init>
theorem cd_21 : cd 21 = prog_7_method_1_code := rfl
theorem d_21_0 : decode (cd 21) 0 = .ok (.aload_n 0, 1) := by rw [cd_21]; decide +kernel
theorem e_21_0 {d : Nat} {h : mM} {T : mLs} {x : Nat} {st : List Value} : ev d 21 0 ( some (.ref x) :: T) st h = ev d 21 1 ( some (.ref x) :: T) (.ref x :: st) h := ev_of d_21_0 rfl
theorem d_21_1 : decode (cd 21) 1 = .ok (.invokespecial 3, 3) := by rw [cd_21]; decide +kernel
theorem e_21_1 {d : Nat} {h : mM} {L : mLs} {st : List Value} {a : Nat} (hc : mCat st ≤ 8) : ev d 21 1 L (.ref a :: st) h = ev d 21 4 L st h := ev_obj (mj := 0) d_21_1 (by decide +kernel) hc
theorem d_21_4 : decode (cd 21) 4 = .ok (.aload_n 0, 1) := by rw [cd_21]; decide +kernel
theorem e_21_4 {d : Nat} {h : mM} {T : mLs} {x : Nat} {st : List Value} : ev d 21 4 ( some (.ref x) :: T) st h = ev d 21 5 ( some (.ref x) :: T) (.ref x :: st) h := ev_of d_21_4 rfl
theorem d_21_5 : decode (cd 21) 5 = .ok (.bipush 9, 2) := by rw [cd_21]; decide +kernel
theorem e_21_5 {d : Nat} {h : mM} {L : mLs} {st : List Value} : ev d 21 5 L st h = ev d 21 7 L (.int 9 :: st) h := ev_of d_21_5 rfl
theorem d_21_7 : decode (cd 21) 7 = .ok (.iconst 4, 1) := by rw [cd_21]; decide +kernel
theorem e_21_7 {d : Nat} {h : mM} {L : mLs} {st : List Value} : ev d 21 7 L st h = ev d 21 8 L (.int 4 :: st) h := ev_of d_21_7 rfl
theorem d_21_8 : decode (cd 21) 8 = .ok (.multianewarray 9 2, 4) := by rw [cd_21]; decide +kernel
theorem e_21_8 {d : Nat} {h : mM} {L : mLs} {st : List Value} {n m : Int32} (hn : ¬ n < 0) (h1 : n.toNatClampNeg ≤ 1000) (hm : ¬ m < 0) (h2 : m.toNatClampNeg ≤ 1000) : ev d 21 8 L (.int m :: .int n :: st) h = ev d 21 12 L (.ref (mN h) :: st) (wGrid h n.toNatClampNeg m.toNatClampNeg) := ev_grid d_21_8 (by decide +kernel) hn h1 hm h2
theorem d_21_12 : decode (cd 21) 12 = .ok (.putfield 11, 3) := by rw [cd_21]; decide +kernel
theorem e_21_12 {d : Nat} {h : mM} {L : mLs} {st : List Value} {a b : Nat} : ev d 21 12 L (.ref b :: .ref a :: st) h = if mK h a = 5 then ev d 21 15 L st (wR h a 2 (some b)) else none := ev_pR d_21_12 (by decide +kernel) (by decide +kernel) (by decide +kernel)
theorem d_21_15 : decode (cd 21) 15 = .ok (.aload_n 0, 1) := by rw [cd_21]; decide +kernel
theorem e_21_15 {d : Nat} {h : mM} {T : mLs} {x : Nat} {st : List Value} : ev d 21 15 ( some (.ref x) :: T) st h = ev d 21 16 ( some (.ref x) :: T) (.ref x :: st) h := ev_of d_21_15 rfl
theorem d_21_16 : decode (cd 21) 16 = .ok (.iconst 0, 1) := by rw [cd_21]; decide +kernel
theorem e_21_16 {d : Nat} {h : mM} {L : mLs} {st : List Value} : ev d 21 16 L st h = ev d 21 17 L (.int 0 :: st) h := ev_of d_21_16 rfl
theorem d_21_17 : decode (cd 21) 17 = .ok (.putfield 16, 3) := by rw [cd_21]; decide +kernel
theorem e_21_17 {d : Nat} {h : mM} {L : mLs} {st : List Value} {a : Nat} {v : Int32} : ev d 21 17 L (.int v :: .ref a :: st) h = if mK h a = 5 then ev d 21 20 L st (wI h a 3 v) else none := ev_pI d_21_17 (by decide +kernel) (by decide +kernel) (by decide +kernel)
theorem d_21_20 : decode (cd 21) 20 = .ok (.aload_n 0, 1) := by rw [cd_21]; decide +kernel
theorem e_21_20 {d : Nat} {h : mM} {T : mLs} {x : Nat} {st : List Value} : ev d 21 20 ( some (.ref x) :: T) st h = ev d 21 21 ( some (.ref x) :: T) (.ref x :: st) h := ev_of d_21_20 rfl
theorem d_21_21 : decode (cd 21) 21 = .ok (.iconst 0, 1) := by rw [cd_21]; decide +kernel
theorem e_21_21 {d : Nat} {h : mM} {L : mLs} {st : List Value} : ev d 21 21 L st h = ev d 21 22 L (.int 0 :: st) h := ev_of d_21_21 rfl
theorem d_21_22 : decode (cd 21) 22 = .ok (.putfield 20, 3) := by rw [cd_21]; decide +kernel
theorem e_21_22 {d : Nat} {h : mM} {L : mLs} {st : List Value} {a : Nat} {v : Int32} : ev d 21 22 L (.int v :: .ref a :: st) h = if mK h a = 5 then ev d 21 25 L st (wI h a 4 v) else none := ev_pI d_21_22 (by decide +kernel) (by decide +kernel) (by decide +kernel)
theorem d_21_25 : decode (cd 21) 25 = .ok (.aload_n 0, 1) := by rw [cd_21]; decide +kernel
theorem e_21_25 {d : Nat} {h : mM} {T : mLs} {x : Nat} {st : List Value} : ev d 21 25 ( some (.ref x) :: T) st h = ev d 21 26 ( some (.ref x) :: T) (.ref x :: st) h := ev_of d_21_25 rfl
theorem d_21_26 : decode (cd 21) 26 = .ok (.iconst 0, 1) := by rw [cd_21]; decide +kernel
theorem e_21_26 {d : Nat} {h : mM} {L : mLs} {st : List Value} : ev d 21 26 L st h = ev d 21 27 L (.int 0 :: st) h := ev_of d_21_26 rfl
theorem d_21_27 : decode (cd 21) 27 = .ok (.putfield 23, 3) := by rw [cd_21]; decide +kernel
theorem e_21_27 {d : Nat} {h : mM} {L : mLs} {st : List Value} {a : Nat} {v : Int32} : ev d 21 27 L (.int v :: .ref a :: st) h = if mK h a = 5 then ev d 21 30 L st (wI h a 5 v) else none := ev_pI d_21_27 (by decide +kernel) (by decide +kernel) (by decide +kernel)
theorem d_21_30 : decode (cd 21) 30 = .ok (.aload_n 0, 1) := by rw [cd_21]; decide +kernel
theorem e_21_30 {d : Nat} {h : mM} {T : mLs} {x : Nat} {st : List Value} : ev d 21 30 ( some (.ref x) :: T) st h = ev d 21 31 ( some (.ref x) :: T) (.ref x :: st) h := ev_of d_21_30 rfl
theorem d_21_31 : decode (cd 21) 31 = .ok (.iconst 0, 1) := by rw [cd_21]; decide +kernel
theorem e_21_31 {d : Nat} {h : mM} {L : mLs} {st : List Value} : ev d 21 31 L st h = ev d 21 32 L (.int 0 :: st) h := ev_of d_21_31 rfl
theorem d_21_32 : decode (cd 21) 32 = .ok (.putfield 26, 3) := by rw [cd_21]; decide +kernel
theorem e_21_32 {d : Nat} {h : mM} {L : mLs} {st : List Value} {a : Nat} {v : Int32} : ev d 21 32 L (.int v :: .ref a :: st) h = if mK h a = 5 then ev d 21 35 L st (wI h a 6 v) else none := ev_pI d_21_32 (by decide +kernel) (by decide +kernel) (by decide +kernel)
theorem d_21_35 : decode (cd 21) 35 = .ok (.aload_n 0, 1) := by rw [cd_21]; decide +kernel
theorem e_21_35 {d : Nat} {h : mM} {T : mLs} {x : Nat} {st : List Value} : ev d 21 35 ( some (.ref x) :: T) st h = ev d 21 36 ( some (.ref x) :: T) (.ref x :: st) h := ev_of d_21_35 rfl
theorem d_21_36 : decode (cd 21) 36 = .ok (.iconst 0, 1) := by rw [cd_21]; decide +kernel
theorem e_21_36 {d : Nat} {h : mM} {L : mLs} {st : List Value} : ev d 21 36 L st h = ev d 21 37 L (.int 0 :: st) h := ev_of d_21_36 rfl
theorem d_21_37 : decode (cd 21) 37 = .ok (.putfield 29, 3) := by rw [cd_21]; decide +kernel
theorem e_21_37 {d : Nat} {h : mM} {L : mLs} {st : List Value} {a : Nat} {v : Int32} : ev d 21 37 L (.int v :: .ref a :: st) h = if mK h a = 5 then ev d 21 40 L st (wI h a 7 v) else none := ev_pI d_21_37 (by decide +kernel) (by decide +kernel) (by decide +kernel)
theorem d_21_40 : decode (cd 21) 40 = .ok (.aload_n 0, 1) := by rw [cd_21]; decide +kernel
theorem e_21_40 {d : Nat} {h : mM} {T : mLs} {x : Nat} {st : List Value} : ev d 21 40 ( some (.ref x) :: T) st h = ev d 21 41 ( some (.ref x) :: T) (.ref x :: st) h := ev_of d_21_40 rfl
theorem d_21_41 : decode (cd 21) 41 = .ok (.new 32, 3) := by rw [cd_21]; decide +kernel
theorem e_21_41 {d : Nat} {h : mM} {L : mLs} {st : List Value} : ev d 21 41 L st h = ev d 21 44 L (.ref (mN h) :: st) (wN h 1 6) := ev_new d_21_41 (by decide +kernel)
theorem d_21_44 : decode (cd 21) 44 = .ok (.dup, 1) := by rw [cd_21]; decide +kernel
theorem e_21_44r {d : Nat} {h : mM} {L : mLs} {st : List Value} {a : Nat} : ev d 21 44 L (.ref a :: st) h = ev d 21 45 L (.ref a :: .ref a :: st) h := ev_of d_21_44 rfl
theorem e_21_44i {d : Nat} {h : mM} {L : mLs} {st : List Value} {x : Int32} : ev d 21 44 L (.int x :: st) h = ev d 21 45 L (.int x :: .int x :: st) h := ev_of d_21_44 rfl
theorem d_21_45 : decode (cd 21) 45 = .ok (.aload_n 1, 1) := by rw [cd_21]; decide +kernel
theorem e_21_45 {d : Nat} {h : mM} {o0 : Option Value} {T : mLs} {x : Nat} {st : List Value} : ev d 21 45 (o0 :: some (.ref x) :: T) st h = ev d 21 46 (o0 :: some (.ref x) :: T) (.ref x :: st) h := ev_of d_21_45 rfl
theorem d_21_46 : decode (cd 21) 46 = .ok (.invokespecial 34, 3) := by rw [cd_21]; decide +kernel
theorem e_21_46 {d : Nat} {h : mM} {L : mLs} {st : List Value} {a : Nat} {x0 : Nat} (hc : mCat st ≤ 8) : ev (d + 1) 21 46 L (.ref x0 :: .ref a :: st) h = cV (ev d 1 0 [some (.ref a), some (.ref x0)] [] h) (fun v h1 => ev (d + 1) 21 49 L (v ++ st) h1) := ev_ci (kd := 2) (mj := 1) (as := [.ref x0]) (rest := st) d_21_46 (by decide +kernel) (by decide) rfl rfl (by show _ ≤ List.length _; simp only [List.length_cons]; have : na 1 = 1 := rfl; omega) rfl (Nat.le_of_ble_eq_true rfl) hc
theorem d_21_49 : decode (cd 21) 49 = .ok (.putfield 37, 3) := by rw [cd_21]; decide +kernel
theorem e_21_49 {d : Nat} {h : mM} {L : mLs} {st : List Value} {a b : Nat} : ev d 21 49 L (.ref b :: .ref a :: st) h = if mK h a = 5 then ev d 21 52 L st (wR h a 0 (some b)) else none := ev_pR d_21_49 (by decide +kernel) (by decide +kernel) (by decide +kernel)
theorem d_21_52 : decode (cd 21) 52 = .ok (.aload_n 0, 1) := by rw [cd_21]; decide +kernel
theorem e_21_52 {d : Nat} {h : mM} {T : mLs} {x : Nat} {st : List Value} : ev d 21 52 ( some (.ref x) :: T) st h = ev d 21 53 ( some (.ref x) :: T) (.ref x :: st) h := ev_of d_21_52 rfl
theorem d_21_53 : decode (cd 21) 53 = .ok (.aload_n 2, 1) := by rw [cd_21]; decide +kernel
theorem e_21_53 {d : Nat} {h : mM} {o0 o1 : Option Value} {T : mLs} {x : Nat} {st : List Value} : ev d 21 53 (o0 :: o1 :: some (.ref x) :: T) st h = ev d 21 54 (o0 :: o1 :: some (.ref x) :: T) (.ref x :: st) h := ev_of d_21_53 rfl
theorem d_21_54 : decode (cd 21) 54 = .ok (.putfield 41, 3) := by rw [cd_21]; decide +kernel
theorem e_21_54 {d : Nat} {h : mM} {L : mLs} {st : List Value} {a b : Nat} : ev d 21 54 L (.ref b :: .ref a :: st) h = if mK h a = 5 then ev d 21 57 L st (wR h a 1 (some b)) else none := ev_pR d_21_54 (by decide +kernel) (by decide +kernel) (by decide +kernel)
theorem d_21_57 : decode (cd 21) 57 = .ok (.return_, 1) := by rw [cd_21]; decide +kernel
theorem e_21_57 {d : Nat} {h : mM} {L : mLs} : ev d 21 57 L [] h = some (none, h) := ev_rv d_21_57 (by decide +kernel)
-- 22: Search.start
theorem cd_22 : cd 22 = prog_7_method_2_code := rfl
theorem d_22_0 : decode (cd 22) 0 = .ok (.aload_n 0, 1) := by rw [cd_22]; decide +kernel
theorem e_22_0 {d : Nat} {h : mM} {T : mLs} {x : Nat} {st : List Value} : ev d 22 0 ( some (.ref x) :: T) st h = ev d 22 1 ( some (.ref x) :: T) (.ref x :: st) h := ev_of d_22_0 rfl
theorem d_22_1 : decode (cd 22) 1 = .ok (.iload_n 1, 1) := by rw [cd_22]; decide +kernel
theorem e_22_1 {d : Nat} {h : mM} {o0 : Option Value} {T : mLs} {x : Int32} {st : List Value} : ev d 22 1 (o0 :: some (.int x) :: T) st h = ev d 22 2 (o0 :: some (.int x) :: T) (.int x :: st) h := ev_of d_22_1 rfl
theorem d_22_2 : decode (cd 22) 2 = .ok (.putfield 16, 3) := by rw [cd_22]; decide +kernel
theorem e_22_2 {d : Nat} {h : mM} {L : mLs} {st : List Value} {a : Nat} {v : Int32} : ev d 22 2 L (.int v :: .ref a :: st) h = if mK h a = 5 then ev d 22 5 L st (wI h a 3 v) else none := ev_pI d_22_2 (by decide +kernel) (by decide +kernel) (by decide +kernel)
theorem d_22_5 : decode (cd 22) 5 = .ok (.aload_n 0, 1) := by rw [cd_22]; decide +kernel
theorem e_22_5 {d : Nat} {h : mM} {T : mLs} {x : Nat} {st : List Value} : ev d 22 5 ( some (.ref x) :: T) st h = ev d 22 6 ( some (.ref x) :: T) (.ref x :: st) h := ev_of d_22_5 rfl
theorem d_22_6 : decode (cd 22) 6 = .ok (.iload_n 2, 1) := by rw [cd_22]; decide +kernel
theorem e_22_6 {d : Nat} {h : mM} {o0 o1 : Option Value} {T : mLs} {x : Int32} {st : List Value} : ev d 22 6 (o0 :: o1 :: some (.int x) :: T) st h = ev d 22 7 (o0 :: o1 :: some (.int x) :: T) (.int x :: st) h := ev_of d_22_6 rfl
theorem d_22_7 : decode (cd 22) 7 = .ok (.putfield 20, 3) := by rw [cd_22]; decide +kernel
theorem e_22_7 {d : Nat} {h : mM} {L : mLs} {st : List Value} {a : Nat} {v : Int32} : ev d 22 7 L (.int v :: .ref a :: st) h = if mK h a = 5 then ev d 22 10 L st (wI h a 4 v) else none := ev_pI d_22_7 (by decide +kernel) (by decide +kernel) (by decide +kernel)
theorem d_22_10 : decode (cd 22) 10 = .ok (.aload_n 0, 1) := by rw [cd_22]; decide +kernel
theorem e_22_10 {d : Nat} {h : mM} {T : mLs} {x : Nat} {st : List Value} : ev d 22 10 ( some (.ref x) :: T) st h = ev d 22 11 ( some (.ref x) :: T) (.ref x :: st) h := ev_of d_22_10 rfl
theorem d_22_11 : decode (cd 22) 11 = .ok (.iload_n 3, 1) := by rw [cd_22]; decide +kernel
theorem e_22_11 {d : Nat} {h : mM} {o0 o1 o2 : Option Value} {T : mLs} {x : Int32} {st : List Value} : ev d 22 11 (o0 :: o1 :: o2 :: some (.int x) :: T) st h = ev d 22 12 (o0 :: o1 :: o2 :: some (.int x) :: T) (.int x :: st) h := ev_of d_22_11 rfl
theorem d_22_12 : decode (cd 22) 12 = .ok (.putfield 23, 3) := by rw [cd_22]; decide +kernel
theorem e_22_12 {d : Nat} {h : mM} {L : mLs} {st : List Value} {a : Nat} {v : Int32} : ev d 22 12 L (.int v :: .ref a :: st) h = if mK h a = 5 then ev d 22 15 L st (wI h a 5 v) else none := ev_pI d_22_12 (by decide +kernel) (by decide +kernel) (by decide +kernel)
theorem d_22_15 : decode (cd 22) 15 = .ok (.aload_n 0, 1) := by rw [cd_22]; decide +kernel
theorem e_22_15 {d : Nat} {h : mM} {T : mLs} {x : Nat} {st : List Value} : ev d 22 15 ( some (.ref x) :: T) st h = ev d 22 16 ( some (.ref x) :: T) (.ref x :: st) h := ev_of d_22_15 rfl
theorem d_22_16 : decode (cd 22) 16 = .ok (.iconst 0, 1) := by rw [cd_22]; decide +kernel
theorem e_22_16 {d : Nat} {h : mM} {L : mLs} {st : List Value} : ev d 22 16 L st h = ev d 22 17 L (.int 0 :: st) h := ev_of d_22_16 rfl
theorem d_22_17 : decode (cd 22) 17 = .ok (.putfield 26, 3) := by rw [cd_22]; decide +kernel
theorem e_22_17 {d : Nat} {h : mM} {L : mLs} {st : List Value} {a : Nat} {v : Int32} : ev d 22 17 L (.int v :: .ref a :: st) h = if mK h a = 5 then ev d 22 20 L st (wI h a 6 v) else none := ev_pI d_22_17 (by decide +kernel) (by decide +kernel) (by decide +kernel)
theorem d_22_20 : decode (cd 22) 20 = .ok (.aload_n 0, 1) := by rw [cd_22]; decide +kernel
theorem e_22_20 {d : Nat} {h : mM} {T : mLs} {x : Nat} {st : List Value} : ev d 22 20 ( some (.ref x) :: T) st h = ev d 22 21 ( some (.ref x) :: T) (.ref x :: st) h := ev_of d_22_20 rfl
theorem d_22_21 : decode (cd 22) 21 = .ok (.iconst 0, 1) := by rw [cd_22]; decide +kernel
theorem e_22_21 {d : Nat} {h : mM} {L : mLs} {st : List Value} : ev d 22 21 L st h = ev d 22 22 L (.int 0 :: st) h := ev_of d_22_21 rfl
theorem d_22_22 : decode (cd 22) 22 = .ok (.putfield 29, 3) := by rw [cd_22]; decide +kernel
theorem e_22_22 {d : Nat} {h : mM} {L : mLs} {st : List Value} {a : Nat} {v : Int32} : ev d 22 22 L (.int v :: .ref a :: st) h = if mK h a = 5 then ev d 22 25 L st (wI h a 7 v) else none := ev_pI d_22_22 (by decide +kernel) (by decide +kernel) (by decide +kernel)
theorem d_22_25 : decode (cd 22) 25 = .ok (.aload 4, 2) := by rw [cd_22]; decide +kernel
theorem e_22_25 {d : Nat} {h : mM} {o0 o1 o2 o3 : Option Value} {T : mLs} {x : Nat} {st : List Value} : ev d 22 25 (o0 :: o1 :: o2 :: o3 :: some (.ref x) :: T) st h = ev d 22 27 (o0 :: o1 :: o2 :: o3 :: some (.ref x) :: T) (.ref x :: st) h := ev_of d_22_25 rfl
theorem d_22_27 : decode (cd 22) 27 = .ok (.iconst 0, 1) := by rw [cd_22]; decide +kernel
theorem e_22_27 {d : Nat} {h : mM} {L : mLs} {st : List Value} : ev d 22 27 L st h = ev d 22 28 L (.int 0 :: st) h := ev_of d_22_27 rfl
theorem d_22_28 : decode (cd 22) 28 = .ok (.aload_n 0, 1) := by rw [cd_22]; decide +kernel
theorem e_22_28 {d : Nat} {h : mM} {T : mLs} {x : Nat} {st : List Value} : ev d 22 28 ( some (.ref x) :: T) st h = ev d 22 29 ( some (.ref x) :: T) (.ref x :: st) h := ev_of d_22_28 rfl
theorem d_22_29 : decode (cd 22) 29 = .ok (.getfield 11, 3) := by rw [cd_22]; decide +kernel
theorem e_22_29 {d : Nat} {h : mM} {L : mLs} {st : List Value} {a : Nat} : ev d 22 29 L (.ref a :: st) h = if mK h a = 5 then oB (mR h a 2) (fun b => ev d 22 32 L (.ref b :: st) h) else none := ev_gR d_22_29 (by decide +kernel) (by decide +kernel)
theorem d_22_32 : decode (cd 22) 32 = .ok (.iconst 0, 1) := by rw [cd_22]; decide +kernel
theorem e_22_32 {d : Nat} {h : mM} {L : mLs} {st : List Value} : ev d 22 32 L st h = ev d 22 33 L (.int 0 :: st) h := ev_of d_22_32 rfl
theorem d_22_33 : decode (cd 22) 33 = .ok (.aaload, 1) := by rw [cd_22]; decide +kernel
theorem e_22_33 {d : Nat} {h : mM} {L : mLs} {st : List Value} {a : Nat} {i : Int32} : ev d 22 33 L (.int i :: .ref a :: st) h = if (12 < mK h a ∧ mK h a < 19) ∧ ixOK i (mL h a) = true then oB (mR h a i.toNatClampNeg) (fun b => ev d 22 34 L (.ref b :: st) h) else none := ev_aa d_22_33
theorem d_22_34 : decode (cd 22) 34 = .ok (.iconst 0, 1) := by rw [cd_22]; decide +kernel
theorem e_22_34 {d : Nat} {h : mM} {L : mLs} {st : List Value} : ev d 22 34 L st h = ev d 22 35 L (.int 0 :: st) h := ev_of d_22_34 rfl
theorem d_22_35 : decode (cd 22) 35 = .ok (.iconst 4, 1) := by rw [cd_22]; decide +kernel
theorem e_22_35 {d : Nat} {h : mM} {L : mLs} {st : List Value} : ev d 22 35 L st h = ev d 22 36 L (.int 4 :: st) h := ev_of d_22_35 rfl
theorem d_22_36 : decode (cd 22) 36 = .ok (.invokestatic 45, 3) := by rw [cd_22]; decide +kernel
theorem e_22_36 {d : Nat} {h : mM} {L : mLs} {st : List Value} {a b : Nat} {n dp sp : Int32} (hc : mCat st ≤ 8) : ev d 22 36 L (.int n :: .int dp :: .ref b :: .int sp :: .ref a :: st) h = if mK h a = 11 ∧ mK h b = 11 ∧ ¬ sp < 0 ∧ ¬ dp < 0 ∧ ¬ n < 0 ∧ sp.toNatClampNeg + n.toNatClampNeg ≤ mL h a ∧ dp.toNatClampNeg + n.toNatClampNeg ≤ mL h b then ev d 22 39 L st (wC h a b sp.toNatClampNeg dp.toNatClampNeg n.toNatClampNeg) else none := ev_cpy (mj := 0) d_22_36 (by decide +kernel) hc
theorem d_22_39 : decode (cd 22) 39 = .ok (.return_, 1) := by rw [cd_22]; decide +kernel
theorem e_22_39 {d : Nat} {h : mM} {L : mLs} : ev d 22 39 L [] h = some (none, h) := ev_rv d_22_39 (by decide +kernel)
-- 25: Search.goOn
theorem cd_25 : cd 25 = prog_7_method_3_code := rfl
theorem d_25_0 : decode (cd 25) 0 = .ok (.aload_n 0, 1) := by rw [cd_25]; decide +kernel
theorem e_25_0 {d : Nat} {h : mM} {T : mLs} {x : Nat} {st : List Value} : ev d 25 0 ( some (.ref x) :: T) st h = ev d 25 1 ( some (.ref x) :: T) (.ref x :: st) h := ev_of d_25_0 rfl
theorem d_25_1 : decode (cd 25) 1 = .ok (.getfield 11, 3) := by rw [cd_25]; decide +kernel
theorem e_25_1 {d : Nat} {h : mM} {L : mLs} {st : List Value} {a : Nat} : ev d 25 1 L (.ref a :: st) h = if mK h a = 5 then oB (mR h a 2) (fun b => ev d 25 4 L (.ref b :: st) h) else none := ev_gR d_25_1 (by decide +kernel) (by decide +kernel)
theorem d_25_4 : decode (cd 25) 4 = .ok (.iload_n 1, 1) := by rw [cd_25]; decide +kernel
theorem e_25_4 {d : Nat} {h : mM} {o0 : Option Value} {T : mLs} {x : Int32} {st : List Value} : ev d 25 4 (o0 :: some (.int x) :: T) st h = ev d 25 5 (o0 :: some (.int x) :: T) (.int x :: st) h := ev_of d_25_4 rfl
theorem d_25_5 : decode (cd 25) 5 = .ok (.aaload, 1) := by rw [cd_25]; decide +kernel
theorem e_25_5 {d : Nat} {h : mM} {L : mLs} {st : List Value} {a : Nat} {i : Int32} : ev d 25 5 L (.int i :: .ref a :: st) h = if (12 < mK h a ∧ mK h a < 19) ∧ ixOK i (mL h a) = true then oB (mR h a i.toNatClampNeg) (fun b => ev d 25 6 L (.ref b :: st) h) else none := ev_aa d_25_5
theorem d_25_6 : decode (cd 25) 6 = .ok (.iconst 0, 1) := by rw [cd_25]; decide +kernel
theorem e_25_6 {d : Nat} {h : mM} {L : mLs} {st : List Value} : ev d 25 6 L st h = ev d 25 7 L (.int 0 :: st) h := ev_of d_25_6 rfl
theorem d_25_7 : decode (cd 25) 7 = .ok (.aload_n 0, 1) := by rw [cd_25]; decide +kernel
theorem e_25_7 {d : Nat} {h : mM} {T : mLs} {x : Nat} {st : List Value} : ev d 25 7 ( some (.ref x) :: T) st h = ev d 25 8 ( some (.ref x) :: T) (.ref x :: st) h := ev_of d_25_7 rfl
theorem d_25_8 : decode (cd 25) 8 = .ok (.getfield 11, 3) := by rw [cd_25]; decide +kernel
theorem e_25_8 {d : Nat} {h : mM} {L : mLs} {st : List Value} {a : Nat} : ev d 25 8 L (.ref a :: st) h = if mK h a = 5 then oB (mR h a 2) (fun b => ev d 25 11 L (.ref b :: st) h) else none := ev_gR d_25_8 (by decide +kernel) (by decide +kernel)
theorem d_25_11 : decode (cd 25) 11 = .ok (.iload_n 1, 1) := by rw [cd_25]; decide +kernel
theorem e_25_11 {d : Nat} {h : mM} {o0 : Option Value} {T : mLs} {x : Int32} {st : List Value} : ev d 25 11 (o0 :: some (.int x) :: T) st h = ev d 25 12 (o0 :: some (.int x) :: T) (.int x :: st) h := ev_of d_25_11 rfl
theorem d_25_12 : decode (cd 25) 12 = .ok (.iconst 1, 1) := by rw [cd_25]; decide +kernel
theorem e_25_12 {d : Nat} {h : mM} {L : mLs} {st : List Value} : ev d 25 12 L st h = ev d 25 13 L (.int 1 :: st) h := ev_of d_25_12 rfl
theorem d_25_13 : decode (cd 25) 13 = .ok (.iadd, 1) := by rw [cd_25]; decide +kernel
theorem e_25_13 {d : Nat} {h : mM} {L : mLs} {st : List Value} {x y : Int32} : ev d 25 13 L (.int y :: .int x :: st) h = ev d 25 14 L (.int (x + y) :: st) h := ev_of d_25_13 rfl
theorem d_25_14 : decode (cd 25) 14 = .ok (.aaload, 1) := by rw [cd_25]; decide +kernel
theorem e_25_14 {d : Nat} {h : mM} {L : mLs} {st : List Value} {a : Nat} {i : Int32} : ev d 25 14 L (.int i :: .ref a :: st) h = if (12 < mK h a ∧ mK h a < 19) ∧ ixOK i (mL h a) = true then oB (mR h a i.toNatClampNeg) (fun b => ev d 25 15 L (.ref b :: st) h) else none := ev_aa d_25_14
theorem d_25_15 : decode (cd 25) 15 = .ok (.iconst 0, 1) := by rw [cd_25]; decide +kernel
theorem e_25_15 {d : Nat} {h : mM} {L : mLs} {st : List Value} : ev d 25 15 L st h = ev d 25 16 L (.int 0 :: st) h := ev_of d_25_15 rfl
theorem d_25_16 : decode (cd 25) 16 = .ok (.iconst 4, 1) := by rw [cd_25]; decide +kernel
theorem e_25_16 {d : Nat} {h : mM} {L : mLs} {st : List Value} : ev d 25 16 L st h = ev d 25 17 L (.int 4 :: st) h := ev_of d_25_16 rfl
theorem d_25_17 : decode (cd 25) 17 = .ok (.invokestatic 45, 3) := by rw [cd_25]; decide +kernel
theorem e_25_17 {d : Nat} {h : mM} {L : mLs} {st : List Value} {a b : Nat} {n dp sp : Int32} (hc : mCat st ≤ 8) : ev d 25 17 L (.int n :: .int dp :: .ref b :: .int sp :: .ref a :: st) h = if mK h a = 11 ∧ mK h b = 11 ∧ ¬ sp < 0 ∧ ¬ dp < 0 ∧ ¬ n < 0 ∧ sp.toNatClampNeg + n.toNatClampNeg ≤ mL h a ∧ dp.toNatClampNeg + n.toNatClampNeg ≤ mL h b then ev d 25 20 L st (wC h a b sp.toNatClampNeg dp.toNatClampNeg n.toNatClampNeg) else none := ev_cpy (mj := 0) d_25_17 (by decide +kernel) hc
theorem d_25_20 : decode (cd 25) 20 = .ok (.aload_n 0, 1) := by rw [cd_25]; decide +kernel
theorem e_25_20 {d : Nat} {h : mM} {T : mLs} {x : Nat} {st : List Value} : ev d 25 20 ( some (.ref x) :: T) st h = ev d 25 21 ( some (.ref x) :: T) (.ref x :: st) h := ev_of d_25_20 rfl
theorem d_25_21 : decode (cd 25) 21 = .ok (.getfield 37, 3) := by rw [cd_25]; decide +kernel
theorem e_25_21 {d : Nat} {h : mM} {L : mLs} {st : List Value} {a : Nat} : ev d 25 21 L (.ref a :: st) h = if mK h a = 5 then oB (mR h a 0) (fun b => ev d 25 24 L (.ref b :: st) h) else none := ev_gR d_25_21 (by decide +kernel) (by decide +kernel)
theorem d_25_24 : decode (cd 25) 24 = .ok (.aload_n 0, 1) := by rw [cd_25]; decide +kernel
theorem e_25_24 {d : Nat} {h : mM} {T : mLs} {x : Nat} {st : List Value} : ev d 25 24 ( some (.ref x) :: T) st h = ev d 25 25 ( some (.ref x) :: T) (.ref x :: st) h := ev_of d_25_24 rfl
theorem d_25_25 : decode (cd 25) 25 = .ok (.getfield 11, 3) := by rw [cd_25]; decide +kernel
theorem e_25_25 {d : Nat} {h : mM} {L : mLs} {st : List Value} {a : Nat} : ev d 25 25 L (.ref a :: st) h = if mK h a = 5 then oB (mR h a 2) (fun b => ev d 25 28 L (.ref b :: st) h) else none := ev_gR d_25_25 (by decide +kernel) (by decide +kernel)
theorem d_25_28 : decode (cd 25) 28 = .ok (.iload_n 1, 1) := by rw [cd_25]; decide +kernel
theorem e_25_28 {d : Nat} {h : mM} {o0 : Option Value} {T : mLs} {x : Int32} {st : List Value} : ev d 25 28 (o0 :: some (.int x) :: T) st h = ev d 25 29 (o0 :: some (.int x) :: T) (.int x :: st) h := ev_of d_25_28 rfl
theorem d_25_29 : decode (cd 25) 29 = .ok (.iconst 1, 1) := by rw [cd_25]; decide +kernel
theorem e_25_29 {d : Nat} {h : mM} {L : mLs} {st : List Value} : ev d 25 29 L st h = ev d 25 30 L (.int 1 :: st) h := ev_of d_25_29 rfl
theorem d_25_30 : decode (cd 25) 30 = .ok (.iadd, 1) := by rw [cd_25]; decide +kernel
theorem e_25_30 {d : Nat} {h : mM} {L : mLs} {st : List Value} {x y : Int32} : ev d 25 30 L (.int y :: .int x :: st) h = ev d 25 31 L (.int (x + y) :: st) h := ev_of d_25_30 rfl
theorem d_25_31 : decode (cd 25) 31 = .ok (.aaload, 1) := by rw [cd_25]; decide +kernel
theorem e_25_31 {d : Nat} {h : mM} {L : mLs} {st : List Value} {a : Nat} {i : Int32} : ev d 25 31 L (.int i :: .ref a :: st) h = if (12 < mK h a ∧ mK h a < 19) ∧ ixOK i (mL h a) = true then oB (mR h a i.toNatClampNeg) (fun b => ev d 25 32 L (.ref b :: st) h) else none := ev_aa d_25_31
theorem d_25_32 : decode (cd 25) 32 = .ok (.aload_n 0, 1) := by rw [cd_25]; decide +kernel
theorem e_25_32 {d : Nat} {h : mM} {T : mLs} {x : Nat} {st : List Value} : ev d 25 32 ( some (.ref x) :: T) st h = ev d 25 33 ( some (.ref x) :: T) (.ref x :: st) h := ev_of d_25_32 rfl
theorem d_25_33 : decode (cd 25) 33 = .ok (.getfield 41, 3) := by rw [cd_25]; decide +kernel
theorem e_25_33 {d : Nat} {h : mM} {L : mLs} {st : List Value} {a : Nat} : ev d 25 33 L (.ref a :: st) h = if mK h a = 5 then oB (mR h a 1) (fun b => ev d 25 36 L (.ref b :: st) h) else none := ev_gR d_25_33 (by decide +kernel) (by decide +kernel)
theorem d_25_36 : decode (cd 25) 36 = .ok (.aload_n 0, 1) := by rw [cd_25]; decide +kernel
theorem e_25_36 {d : Nat} {h : mM} {T : mLs} {x : Nat} {st : List Value} : ev d 25 36 ( some (.ref x) :: T) st h = ev d 25 37 ( some (.ref x) :: T) (.ref x :: st) h := ev_of d_25_36 rfl
theorem d_25_37 : decode (cd 25) 37 = .ok (.getfield 23, 3) := by rw [cd_25]; decide +kernel
theorem e_25_37 {d : Nat} {h : mM} {L : mLs} {st : List Value} {a : Nat} : ev d 25 37 L (.ref a :: st) h = if mK h a = 5 then ev d 25 40 L (.int (mI h a 5) :: st) h else none := ev_gI d_25_37 (by decide +kernel) (by decide +kernel)
theorem d_25_40 : decode (cd 25) 40 = .ok (.iload_n 1, 1) := by rw [cd_25]; decide +kernel
theorem e_25_40 {d : Nat} {h : mM} {o0 : Option Value} {T : mLs} {x : Int32} {st : List Value} : ev d 25 40 (o0 :: some (.int x) :: T) st h = ev d 25 41 (o0 :: some (.int x) :: T) (.int x :: st) h := ev_of d_25_40 rfl
theorem d_25_41 : decode (cd 25) 41 = .ok (.iadd, 1) := by rw [cd_25]; decide +kernel
theorem e_25_41 {d : Nat} {h : mM} {L : mLs} {st : List Value} {x y : Int32} : ev d 25 41 L (.int y :: .int x :: st) h = ev d 25 42 L (.int (x + y) :: st) h := ev_of d_25_41 rfl
theorem d_25_42 : decode (cd 25) 42 = .ok (.invokevirtual 51, 3) := by rw [cd_25]; decide +kernel
theorem e_25_42 {d : Nat} {h : mM} {L : mLs} {st : List Value} {a : Nat} {x0 : Int32} (hc : mCat st ≤ 8) : ev (d + 1) 25 42 L (.int x0 :: .ref a :: st) h = if mK h a = 7 then cV (ev d 31 0 [some (.ref a), some (.int x0)] [] h) (fun v h1 => ev (d + 1) 25 45 L (v ++ st) h1) else none := ev_cv (mj := 31) (as := [.int x0]) (rest := st) d_25_42 (by decide +kernel) rfl rfl (by show _ ≤ List.length _; simp only [List.length_cons]; have : na 31 = 1 := rfl; omega) rfl (Nat.le_of_ble_eq_true rfl) hc
theorem d_25_45 : decode (cd 25) 45 = .ok (.iload_n 2, 1) := by rw [cd_25]; decide +kernel
theorem e_25_45 {d : Nat} {h : mM} {o0 o1 : Option Value} {T : mLs} {x : Int32} {st : List Value} : ev d 25 45 (o0 :: o1 :: some (.int x) :: T) st h = ev d 25 46 (o0 :: o1 :: some (.int x) :: T) (.int x :: st) h := ev_of d_25_45 rfl
theorem d_25_46 : decode (cd 25) 46 = .ok (.invokevirtual 57, 3) := by rw [cd_25]; decide +kernel
theorem e_25_46 {d : Nat} {h : mM} {L : mLs} {st : List Value} {a : Nat} {x0 : Nat} {x1 : Int32} {x2 : Int32} (hc : mCat st ≤ 8) : ev (d + 1) 25 46 L (.int x2 :: .int x1 :: .ref x0 :: .ref a :: st) h = if mK h a = 1 then cV (ev d 2 0 [some (.ref a), some (.ref x0), some (.int x1), some (.int x2)] [] h) (fun v h1 => ev (d + 1) 25 49 L (v ++ st) h1) else none := ev_cv (mj := 2) (as := [.ref x0, .int x1, .int x2]) (rest := st) d_25_46 (by decide +kernel) rfl rfl (by show _ ≤ List.length _; simp only [List.length_cons]; have : na 2 = 3 := rfl; omega) rfl (Nat.le_of_ble_eq_true rfl) hc
theorem d_25_49 : decode (cd 25) 49 = .ok (.aload_n 0, 1) := by rw [cd_25]; decide +kernel
theorem e_25_49 {d : Nat} {h : mM} {T : mLs} {x : Nat} {st : List Value} : ev d 25 49 ( some (.ref x) :: T) st h = ev d 25 50 ( some (.ref x) :: T) (.ref x :: st) h := ev_of d_25_49 rfl
theorem d_25_50 : decode (cd 25) 50 = .ok (.getfield 37, 3) := by rw [cd_25]; decide +kernel
theorem e_25_50 {d : Nat} {h : mM} {L : mLs} {st : List Value} {a : Nat} : ev d 25 50 L (.ref a :: st) h = if mK h a = 5 then oB (mR h a 0) (fun b => ev d 25 53 L (.ref b :: st) h) else none := ev_gR d_25_50 (by decide +kernel) (by decide +kernel)
theorem d_25_53 : decode (cd 25) 53 = .ok (.aload_n 0, 1) := by rw [cd_25]; decide +kernel
theorem e_25_53 {d : Nat} {h : mM} {T : mLs} {x : Nat} {st : List Value} : ev d 25 53 ( some (.ref x) :: T) st h = ev d 25 54 ( some (.ref x) :: T) (.ref x :: st) h := ev_of d_25_53 rfl
theorem d_25_54 : decode (cd 25) 54 = .ok (.getfield 16, 3) := by rw [cd_25]; decide +kernel
theorem e_25_54 {d : Nat} {h : mM} {L : mLs} {st : List Value} {a : Nat} : ev d 25 54 L (.ref a :: st) h = if mK h a = 5 then ev d 25 57 L (.int (mI h a 3) :: st) h else none := ev_gI d_25_54 (by decide +kernel) (by decide +kernel)
theorem d_25_57 : decode (cd 25) 57 = .ok (.invokevirtual 61, 3) := by rw [cd_25]; decide +kernel
theorem e_25_57 {d : Nat} {h : mM} {L : mLs} {st : List Value} {a : Nat} {x0 : Int32} (hc : mCat st ≤ 8) : ev (d + 1) 25 57 L (.int x0 :: .ref a :: st) h = if mK h a = 1 then cV (ev d 9 0 [some (.ref a), some (.int x0), none, none] [] h) (fun v h1 => ev (d + 1) 25 60 L (v ++ st) h1) else none := ev_cv (mj := 9) (as := [.int x0]) (rest := st) d_25_57 (by decide +kernel) rfl rfl (by show _ ≤ List.length _; simp only [List.length_cons]; have : na 9 = 1 := rfl; omega) rfl (Nat.le_of_ble_eq_true rfl) hc
theorem d_25_60 : decode (cd 25) 60 = .ok (.ireturn, 1) := by rw [cd_25]; decide +kernel
theorem e_25_60 {d : Nat} {h : mM} {L : mLs} {v : Int32} : ev d 25 60 L [.int v] h = some (some (.int v), h) := ev_ri d_25_60 (by decide +kernel)
-- 26: Search.keepIfBetter
theorem cd_26 : cd 26 = prog_7_method_4_code := rfl
theorem d_26_0 : decode (cd 26) 0 = .ok (.aload_n 0, 1) := by rw [cd_26]; decide +kernel
theorem e_26_0 {d : Nat} {h : mM} {T : mLs} {x : Nat} {st : List Value} : ev d 26 0 ( some (.ref x) :: T) st h = ev d 26 1 ( some (.ref x) :: T) (.ref x :: st) h := ev_of d_26_0 rfl
theorem d_26_1 : decode (cd 26) 1 = .ok (.getfield 26, 3) := by rw [cd_26]; decide +kernel
theorem e_26_1 {d : Nat} {h : mM} {L : mLs} {st : List Value} {a : Nat} : ev d 26 1 L (.ref a :: st) h = if mK h a = 5 then ev d 26 4 L (.int (mI h a 6) :: st) h else none := ev_gI d_26_1 (by decide +kernel) (by decide +kernel)
theorem d_26_4 : decode (cd 26) 4 = .ok (.invokestatic 64, 3) := by rw [cd_26]; decide +kernel
theorem e_26_4 {d : Nat} {h : mM} {L : mLs} {st : List Value} {x0 : Int32} (hc : mCat st ≤ 8) : ev (d + 1) 26 4 L (.int x0 :: st) h = cV (ev d 121 0 [some (.int x0)] [] h) (fun v h1 => ev (d + 1) 26 7 L (v ++ st) h1) := ev_cs (kd := 1) (mj := 121) (as := [.int x0]) (rest := st) d_26_4 (by decide +kernel) (by decide) rfl rfl (by show _ ≤ List.length _; simp only [List.length_cons]; have : na 121 = 1 := rfl; omega) rfl (Nat.le_of_ble_eq_true rfl) hc
theorem d_26_7 : decode (cd 26) 7 = .ok (.iload_n 1, 1) := by rw [cd_26]; decide +kernel
theorem e_26_7 {d : Nat} {h : mM} {o0 : Option Value} {T : mLs} {x : Int32} {st : List Value} : ev d 26 7 (o0 :: some (.int x) :: T) st h = ev d 26 8 (o0 :: some (.int x) :: T) (.int x :: st) h := ev_of d_26_7 rfl
theorem d_26_8 : decode (cd 26) 8 = .ok (.invokestatic 64, 3) := by rw [cd_26]; decide +kernel
theorem e_26_8 {d : Nat} {h : mM} {L : mLs} {st : List Value} {x0 : Int32} (hc : mCat st ≤ 8) : ev (d + 1) 26 8 L (.int x0 :: st) h = cV (ev d 121 0 [some (.int x0)] [] h) (fun v h1 => ev (d + 1) 26 11 L (v ++ st) h1) := ev_cs (kd := 1) (mj := 121) (as := [.int x0]) (rest := st) d_26_8 (by decide +kernel) (by decide) rfl rfl (by show _ ≤ List.length _; simp only [List.length_cons]; have : na 121 = 1 := rfl; omega) rfl (Nat.le_of_ble_eq_true rfl) hc
theorem d_26_11 : decode (cd 26) 11 = .ok (.isub, 1) := by rw [cd_26]; decide +kernel
theorem e_26_11 {d : Nat} {h : mM} {L : mLs} {st : List Value} {x y : Int32} : ev d 26 11 L (.int y :: .int x :: st) h = ev d 26 12 L (.int (x - y) :: st) h := ev_of d_26_11 rfl
theorem d_26_12 : decode (cd 26) 12 = .ok (.istore_n 3, 1) := by rw [cd_26]; decide +kernel
theorem e_26_12 {d : Nat} {h : mM} {o0 o1 o2 o3 : Option Value} {T : mLs} {x : Int32} {st : List Value} (hl : mLong o2 = false) : ev d 26 12 (o0 :: o1 :: o2 :: o3 :: T) (.int x :: st) h = ev d 26 13 (o0 :: o1 :: o2 :: some (.int x) :: T) st h := ev_st_in d_26_12 (by decide +kernel) (mS1_s (j := 2) hl)
theorem d_26_13 : decode (cd 26) 13 = .ok (.iload_n 2, 1) := by rw [cd_26]; decide +kernel
theorem e_26_13 {d : Nat} {h : mM} {o0 o1 : Option Value} {T : mLs} {x : Int32} {st : List Value} : ev d 26 13 (o0 :: o1 :: some (.int x) :: T) st h = ev d 26 14 (o0 :: o1 :: some (.int x) :: T) (.int x :: st) h := ev_of d_26_13 rfl
theorem d_26_14 : decode (cd 26) 14 = .ok (.aload_n 0, 1) := by rw [cd_26]; decide +kernel
theorem e_26_14 {d : Nat} {h : mM} {T : mLs} {x : Nat} {st : List Value} : ev d 26 14 ( some (.ref x) :: T) st h = ev d 26 15 ( some (.ref x) :: T) (.ref x :: st) h := ev_of d_26_14 rfl
theorem d_26_15 : decode (cd 26) 15 = .ok (.getfield 29, 3) := by rw [cd_26]; decide +kernel
theorem e_26_15 {d : Nat} {h : mM} {L : mLs} {st : List Value} {a : Nat} : ev d 26 15 L (.ref a :: st) h = if mK h a = 5 then ev d 26 18 L (.int (mI h a 7) :: st) h else none := ev_gI d_26_15 (by decide +kernel) (by decide +kernel)
theorem d_26_18 : decode (cd 26) 18 = .ok (.if_icmp .gt 27, 3) := by rw [cd_26]; decide +kernel
theorem e_26_18 {d : Nat} {h : mM} {L : mLs} {st : List Value} {x y : Int32} : ev d 26 18 L (.int y :: .int x :: st) h = if y < x then ev d 26 45 L st h else ev d 26 21 L st h := ev_ic (y < x) inferInstance rfl d_26_18 (by decide)
theorem d_26_21 : decode (cd 26) 21 = .ok (.iload_n 2, 1) := by rw [cd_26]; decide +kernel
theorem e_26_21 {d : Nat} {h : mM} {o0 o1 : Option Value} {T : mLs} {x : Int32} {st : List Value} : ev d 26 21 (o0 :: o1 :: some (.int x) :: T) st h = ev d 26 22 (o0 :: o1 :: some (.int x) :: T) (.int x :: st) h := ev_of d_26_21 rfl
theorem d_26_22 : decode (cd 26) 22 = .ok (.aload_n 0, 1) := by rw [cd_26]; decide +kernel
theorem e_26_22 {d : Nat} {h : mM} {T : mLs} {x : Nat} {st : List Value} : ev d 26 22 ( some (.ref x) :: T) st h = ev d 26 23 ( some (.ref x) :: T) (.ref x :: st) h := ev_of d_26_22 rfl
theorem d_26_23 : decode (cd 26) 23 = .ok (.getfield 29, 3) := by rw [cd_26]; decide +kernel
theorem e_26_23 {d : Nat} {h : mM} {L : mLs} {st : List Value} {a : Nat} : ev d 26 23 L (.ref a :: st) h = if mK h a = 5 then ev d 26 26 L (.int (mI h a 7) :: st) h else none := ev_gI d_26_23 (by decide +kernel) (by decide +kernel)
theorem d_26_26 : decode (cd 26) 26 = .ok (.if_icmp .ne 23, 3) := by rw [cd_26]; decide +kernel
theorem e_26_26 {d : Nat} {h : mM} {L : mLs} {st : List Value} {x y : Int32} : ev d 26 26 L (.int y :: .int x :: st) h = if ¬ x = y then ev d 26 49 L st h else ev d 26 29 L st h := ev_ic (¬ x = y) inferInstance rfl d_26_26 (by decide)
theorem d_26_29 : decode (cd 26) 29 = .ok (.iload_n 3, 1) := by rw [cd_26]; decide +kernel
theorem e_26_29 {d : Nat} {h : mM} {o0 o1 o2 : Option Value} {T : mLs} {x : Int32} {st : List Value} : ev d 26 29 (o0 :: o1 :: o2 :: some (.int x) :: T) st h = ev d 26 30 (o0 :: o1 :: o2 :: some (.int x) :: T) (.int x :: st) h := ev_of d_26_29 rfl
theorem d_26_30 : decode (cd 26) 30 = .ok (.ifCond .gt 15, 3) := by rw [cd_26]; decide +kernel
theorem e_26_30 {d : Nat} {h : mM} {L : mLs} {st : List Value} {x : Int32} : ev d 26 30 L (.int x :: st) h = if 0 < x then ev d 26 45 L st h else ev d 26 33 L st h := ev_if (0 < x) inferInstance rfl d_26_30 (by decide)
theorem d_26_33 : decode (cd 26) 33 = .ok (.iload_n 3, 1) := by rw [cd_26]; decide +kernel
theorem e_26_33 {d : Nat} {h : mM} {o0 o1 o2 : Option Value} {T : mLs} {x : Int32} {st : List Value} : ev d 26 33 (o0 :: o1 :: o2 :: some (.int x) :: T) st h = ev d 26 34 (o0 :: o1 :: o2 :: some (.int x) :: T) (.int x :: st) h := ev_of d_26_33 rfl
theorem d_26_34 : decode (cd 26) 34 = .ok (.ifCond .ne 15, 3) := by rw [cd_26]; decide +kernel
theorem e_26_34 {d : Nat} {h : mM} {L : mLs} {st : List Value} {x : Int32} : ev d 26 34 L (.int x :: st) h = if ¬ x = 0 then ev d 26 49 L st h else ev d 26 37 L st h := ev_if (¬ x = 0) inferInstance rfl d_26_34 (by decide)
theorem d_26_37 : decode (cd 26) 37 = .ok (.iload_n 1, 1) := by rw [cd_26]; decide +kernel
theorem e_26_37 {d : Nat} {h : mM} {o0 : Option Value} {T : mLs} {x : Int32} {st : List Value} : ev d 26 37 (o0 :: some (.int x) :: T) st h = ev d 26 38 (o0 :: some (.int x) :: T) (.int x :: st) h := ev_of d_26_37 rfl
theorem d_26_38 : decode (cd 26) 38 = .ok (.aload_n 0, 1) := by rw [cd_26]; decide +kernel
theorem e_26_38 {d : Nat} {h : mM} {T : mLs} {x : Nat} {st : List Value} : ev d 26 38 ( some (.ref x) :: T) st h = ev d 26 39 ( some (.ref x) :: T) (.ref x :: st) h := ev_of d_26_38 rfl
theorem d_26_39 : decode (cd 26) 39 = .ok (.getfield 26, 3) := by rw [cd_26]; decide +kernel
theorem e_26_39 {d : Nat} {h : mM} {L : mLs} {st : List Value} {a : Nat} : ev d 26 39 L (.ref a :: st) h = if mK h a = 5 then ev d 26 42 L (.int (mI h a 6) :: st) h else none := ev_gI d_26_39 (by decide +kernel) (by decide +kernel)
theorem d_26_42 : decode (cd 26) 42 = .ok (.if_icmp .ge 7, 3) := by rw [cd_26]; decide +kernel
theorem e_26_42 {d : Nat} {h : mM} {L : mLs} {st : List Value} {x y : Int32} : ev d 26 42 L (.int y :: .int x :: st) h = if y ≤ x then ev d 26 49 L st h else ev d 26 45 L st h := ev_ic (y ≤ x) inferInstance rfl d_26_42 (by decide)
theorem d_26_45 : decode (cd 26) 45 = .ok (.iconst 1, 1) := by rw [cd_26]; decide +kernel
theorem e_26_45 {d : Nat} {h : mM} {L : mLs} {st : List Value} : ev d 26 45 L st h = ev d 26 46 L (.int 1 :: st) h := ev_of d_26_45 rfl
theorem d_26_46 : decode (cd 26) 46 = .ok (.goto 4, 3) := by rw [cd_26]; decide +kernel
theorem e_26_46 {d : Nat} {h : mM} {L : mLs} {st : List Value} : ev d 26 46 L st h = ev d 26 50 L st h := ev_go d_26_46 (by decide)
theorem d_26_49 : decode (cd 26) 49 = .ok (.iconst 0, 1) := by rw [cd_26]; decide +kernel
theorem e_26_49 {d : Nat} {h : mM} {L : mLs} {st : List Value} : ev d 26 49 L st h = ev d 26 50 L (.int 0 :: st) h := ev_of d_26_49 rfl
theorem d_26_50 : decode (cd 26) 50 = .ok (.istore 4, 2) := by rw [cd_26]; decide +kernel
theorem e_26_50 {d : Nat} {h : mM} {o0 o1 o2 o3 o4 : Option Value} {T : mLs} {x : Int32} {st : List Value} (hl : mLong o3 = false) : ev d 26 50 (o0 :: o1 :: o2 :: o3 :: o4 :: T) (.int x :: st) h = ev d 26 52 (o0 :: o1 :: o2 :: o3 :: some (.int x) :: T) st h := ev_st_i d_26_50 (by decide +kernel) (mS1_s (j := 3) hl)
theorem d_26_52 : decode (cd 26) 52 = .ok (.iload 4, 2) := by rw [cd_26]; decide +kernel
theorem e_26_52 {d : Nat} {h : mM} {o0 o1 o2 o3 : Option Value} {T : mLs} {x : Int32} {st : List Value} : ev d 26 52 (o0 :: o1 :: o2 :: o3 :: some (.int x) :: T) st h = ev d 26 54 (o0 :: o1 :: o2 :: o3 :: some (.int x) :: T) (.int x :: st) h := ev_of d_26_52 rfl
theorem d_26_54 : decode (cd 26) 54 = .ok (.ifCond .eq 13, 3) := by rw [cd_26]; decide +kernel
theorem e_26_54 {d : Nat} {h : mM} {L : mLs} {st : List Value} {x : Int32} : ev d 26 54 L (.int x :: st) h = if x = 0 then ev d 26 67 L st h else ev d 26 57 L st h := ev_if (x = 0) inferInstance rfl d_26_54 (by decide)
theorem d_26_57 : decode (cd 26) 57 = .ok (.aload_n 0, 1) := by rw [cd_26]; decide +kernel
theorem e_26_57 {d : Nat} {h : mM} {T : mLs} {x : Nat} {st : List Value} : ev d 26 57 ( some (.ref x) :: T) st h = ev d 26 58 ( some (.ref x) :: T) (.ref x :: st) h := ev_of d_26_57 rfl
theorem d_26_58 : decode (cd 26) 58 = .ok (.iload_n 1, 1) := by rw [cd_26]; decide +kernel
theorem e_26_58 {d : Nat} {h : mM} {o0 : Option Value} {T : mLs} {x : Int32} {st : List Value} : ev d 26 58 (o0 :: some (.int x) :: T) st h = ev d 26 59 (o0 :: some (.int x) :: T) (.int x :: st) h := ev_of d_26_58 rfl
theorem d_26_59 : decode (cd 26) 59 = .ok (.putfield 26, 3) := by rw [cd_26]; decide +kernel
theorem e_26_59 {d : Nat} {h : mM} {L : mLs} {st : List Value} {a : Nat} {v : Int32} : ev d 26 59 L (.int v :: .ref a :: st) h = if mK h a = 5 then ev d 26 62 L st (wI h a 6 v) else none := ev_pI d_26_59 (by decide +kernel) (by decide +kernel) (by decide +kernel)
theorem d_26_62 : decode (cd 26) 62 = .ok (.aload_n 0, 1) := by rw [cd_26]; decide +kernel
theorem e_26_62 {d : Nat} {h : mM} {T : mLs} {x : Nat} {st : List Value} : ev d 26 62 ( some (.ref x) :: T) st h = ev d 26 63 ( some (.ref x) :: T) (.ref x :: st) h := ev_of d_26_62 rfl
theorem d_26_63 : decode (cd 26) 63 = .ok (.iload_n 2, 1) := by rw [cd_26]; decide +kernel
theorem e_26_63 {d : Nat} {h : mM} {o0 o1 : Option Value} {T : mLs} {x : Int32} {st : List Value} : ev d 26 63 (o0 :: o1 :: some (.int x) :: T) st h = ev d 26 64 (o0 :: o1 :: some (.int x) :: T) (.int x :: st) h := ev_of d_26_63 rfl
theorem d_26_64 : decode (cd 26) 64 = .ok (.putfield 29, 3) := by rw [cd_26]; decide +kernel
theorem e_26_64 {d : Nat} {h : mM} {L : mLs} {st : List Value} {a : Nat} {v : Int32} : ev d 26 64 L (.int v :: .ref a :: st) h = if mK h a = 5 then ev d 26 67 L st (wI h a 7 v) else none := ev_pI d_26_64 (by decide +kernel) (by decide +kernel) (by decide +kernel)
theorem d_26_67 : decode (cd 26) 67 = .ok (.return_, 1) := by rw [cd_26]; decide +kernel
theorem e_26_67 {d : Nat} {h : mM} {L : mLs} : ev d 26 67 L [] h = some (none, h) := ev_rv d_26_67 (by decide +kernel)
-- 27: Stone.<init>
theorem cd_27 : cd 27 = prog_8_method_1_code := rfl
theorem d_27_0 : decode (cd 27) 0 = .ok (.aload_n 0, 1) := by rw [cd_27]; decide +kernel
theorem e_27_0 {d : Nat} {h : mM} {T : mLs} {x : Nat} {st : List Value} : ev d 27 0 ( some (.ref x) :: T) st h = ev d 27 1 ( some (.ref x) :: T) (.ref x :: st) h := ev_of d_27_0 rfl
theorem d_27_1 : decode (cd 27) 1 = .ok (.invokespecial 1, 3) := by rw [cd_27]; decide +kernel
theorem e_27_1 {d : Nat} {h : mM} {L : mLs} {st : List Value} {a : Nat} (hc : mCat st ≤ 8) : ev d 27 1 L (.ref a :: st) h = ev d 27 4 L st h := ev_obj (mj := 0) d_27_1 (by decide +kernel) hc
theorem d_27_4 : decode (cd 27) 4 = .ok (.aload_n 0, 1) := by rw [cd_27]; decide +kernel
theorem e_27_4 {d : Nat} {h : mM} {T : mLs} {x : Nat} {st : List Value} : ev d 27 4 ( some (.ref x) :: T) st h = ev d 27 5 ( some (.ref x) :: T) (.ref x :: st) h := ev_of d_27_4 rfl
theorem d_27_5 : decode (cd 27) 5 = .ok (.iconst 1, 1) := by rw [cd_27]; decide +kernel
theorem e_27_5 {d : Nat} {h : mM} {L : mLs} {st : List Value} : ev d 27 5 L st h = ev d 27 6 L (.int 1 :: st) h := ev_of d_27_5 rfl
theorem d_27_6 : decode (cd 27) 6 = .ok (.putfield 7, 3) := by rw [cd_27]; decide +kernel
theorem e_27_6 {d : Nat} {h : mM} {L : mLs} {st : List Value} {a : Nat} {v : Int32} : ev d 27 6 L (.int v :: .ref a :: st) h = if mK h a = 6 then ev d 27 9 L st (wI h a 0 v) else none := ev_pI d_27_6 (by decide +kernel) (by decide +kernel) (by decide +kernel)
theorem d_27_9 : decode (cd 27) 9 = .ok (.aload_n 0, 1) := by rw [cd_27]; decide +kernel
theorem e_27_9 {d : Nat} {h : mM} {T : mLs} {x : Nat} {st : List Value} : ev d 27 9 ( some (.ref x) :: T) st h = ev d 27 10 ( some (.ref x) :: T) (.ref x :: st) h := ev_of d_27_9 rfl
theorem d_27_10 : decode (cd 27) 10 = .ok (.iconst 1, 1) := by rw [cd_27]; decide +kernel
theorem e_27_10 {d : Nat} {h : mM} {L : mLs} {st : List Value} : ev d 27 10 L st h = ev d 27 11 L (.int 1 :: st) h := ev_of d_27_10 rfl
theorem d_27_11 : decode (cd 27) 11 = .ok (.putfield 13, 3) := by rw [cd_27]; decide +kernel
theorem e_27_11 {d : Nat} {h : mM} {L : mLs} {st : List Value} {a : Nat} {v : Int32} : ev d 27 11 L (.int v :: .ref a :: st) h = if mK h a = 6 then ev d 27 14 L st (wI h a 1 v) else none := ev_pI d_27_11 (by decide +kernel) (by decide +kernel) (by decide +kernel)
theorem d_27_14 : decode (cd 27) 14 = .ok (.aload_n 0, 1) := by rw [cd_27]; decide +kernel
theorem e_27_14 {d : Nat} {h : mM} {T : mLs} {x : Nat} {st : List Value} : ev d 27 14 ( some (.ref x) :: T) st h = ev d 27 15 ( some (.ref x) :: T) (.ref x :: st) h := ev_of d_27_14 rfl
theorem d_27_15 : decode (cd 27) 15 = .ok (.iconst 1, 1) := by rw [cd_27]; decide +kernel
theorem e_27_15 {d : Nat} {h : mM} {L : mLs} {st : List Value} : ev d 27 15 L st h = ev d 27 16 L (.int 1 :: st) h := ev_of d_27_15 rfl
theorem d_27_16 : decode (cd 27) 16 = .ok (.putfield 16, 3) := by rw [cd_27]; decide +kernel
theorem e_27_16 {d : Nat} {h : mM} {L : mLs} {st : List Value} {a : Nat} {v : Int32} : ev d 27 16 L (.int v :: .ref a :: st) h = if mK h a = 6 then ev d 27 19 L st (wI h a 2 v) else none := ev_pI d_27_16 (by decide +kernel) (by decide +kernel) (by decide +kernel)
theorem d_27_19 : decode (cd 27) 19 = .ok (.aload_n 0, 1) := by rw [cd_27]; decide +kernel
theorem e_27_19 {d : Nat} {h : mM} {T : mLs} {x : Nat} {st : List Value} : ev d 27 19 ( some (.ref x) :: T) st h = ev d 27 20 ( some (.ref x) :: T) (.ref x :: st) h := ev_of d_27_19 rfl
theorem d_27_20 : decode (cd 27) 20 = .ok (.iconst 1, 1) := by rw [cd_27]; decide +kernel
theorem e_27_20 {d : Nat} {h : mM} {L : mLs} {st : List Value} : ev d 27 20 L st h = ev d 27 21 L (.int 1 :: st) h := ev_of d_27_20 rfl
theorem d_27_21 : decode (cd 27) 21 = .ok (.putfield 19, 3) := by rw [cd_27]; decide +kernel
theorem e_27_21 {d : Nat} {h : mM} {L : mLs} {st : List Value} {a : Nat} {v : Int32} : ev d 27 21 L (.int v :: .ref a :: st) h = if mK h a = 6 then ev d 27 24 L st (wI h a 3 v) else none := ev_pI d_27_21 (by decide +kernel) (by decide +kernel) (by decide +kernel)
theorem d_27_24 : decode (cd 27) 24 = .ok (.aload_n 0, 1) := by rw [cd_27]; decide +kernel
theorem e_27_24 {d : Nat} {h : mM} {T : mLs} {x : Nat} {st : List Value} : ev d 27 24 ( some (.ref x) :: T) st h = ev d 27 25 ( some (.ref x) :: T) (.ref x :: st) h := ev_of d_27_24 rfl
theorem d_27_25 : decode (cd 27) 25 = .ok (.iconst 1, 1) := by rw [cd_27]; decide +kernel
theorem e_27_25 {d : Nat} {h : mM} {L : mLs} {st : List Value} : ev d 27 25 L st h = ev d 27 26 L (.int 1 :: st) h := ev_of d_27_25 rfl
theorem d_27_26 : decode (cd 27) 26 = .ok (.putfield 22, 3) := by rw [cd_27]; decide +kernel
theorem e_27_26 {d : Nat} {h : mM} {L : mLs} {st : List Value} {a : Nat} {v : Int32} : ev d 27 26 L (.int v :: .ref a :: st) h = if mK h a = 6 ∧ mZO v = true then ev d 27 29 L st (wI h a 4 v) else none := ev_pZ d_27_26 (by decide +kernel) (by decide +kernel) (by decide +kernel)
theorem d_27_29 : decode (cd 27) 29 = .ok (.return_, 1) := by rw [cd_27]; decide +kernel
theorem e_27_29 {d : Nat} {h : mM} {L : mLs} : ev d 27 29 L [] h = some (none, h) := ev_rv d_27_29 (by decide +kernel)
-- 28: Stone.runs
theorem cd_28 : cd 28 = prog_8_method_2_code := rfl
theorem d_28_0 : decode (cd 28) 0 = .ok (.aload_n 0, 1) := by rw [cd_28]; decide +kernel
theorem e_28_0 {d : Nat} {h : mM} {T : mLs} {x : Nat} {st : List Value} : ev d 28 0 ( some (.ref x) :: T) st h = ev d 28 1 ( some (.ref x) :: T) (.ref x :: st) h := ev_of d_28_0 rfl
theorem d_28_1 : decode (cd 28) 1 = .ok (.getfield 22, 3) := by rw [cd_28]; decide +kernel
theorem e_28_1 {d : Nat} {h : mM} {L : mLs} {st : List Value} {a : Nat} : ev d 28 1 L (.ref a :: st) h = if mK h a = 6 then ev d 28 4 L (.int (mI h a 4) :: st) h else none := ev_gI d_28_1 (by decide +kernel) (by decide +kernel)
theorem d_28_4 : decode (cd 28) 4 = .ok (.ifCond .eq 33, 3) := by rw [cd_28]; decide +kernel
theorem e_28_4 {d : Nat} {h : mM} {L : mLs} {st : List Value} {x : Int32} : ev d 28 4 L (.int x :: st) h = if x = 0 then ev d 28 37 L st h else ev d 28 7 L st h := ev_if (x = 0) inferInstance rfl d_28_4 (by decide)
theorem d_28_7 : decode (cd 28) 7 = .ok (.iload_n 1, 1) := by rw [cd_28]; decide +kernel
theorem e_28_7 {d : Nat} {h : mM} {o0 : Option Value} {T : mLs} {x : Int32} {st : List Value} : ev d 28 7 (o0 :: some (.int x) :: T) st h = ev d 28 8 (o0 :: some (.int x) :: T) (.int x :: st) h := ev_of d_28_7 rfl
theorem d_28_8 : decode (cd 28) 8 = .ok (.aload_n 0, 1) := by rw [cd_28]; decide +kernel
theorem e_28_8 {d : Nat} {h : mM} {T : mLs} {x : Nat} {st : List Value} : ev d 28 8 ( some (.ref x) :: T) st h = ev d 28 9 ( some (.ref x) :: T) (.ref x :: st) h := ev_of d_28_8 rfl
theorem d_28_9 : decode (cd 28) 9 = .ok (.getfield 7, 3) := by rw [cd_28]; decide +kernel
theorem e_28_9 {d : Nat} {h : mM} {L : mLs} {st : List Value} {a : Nat} : ev d 28 9 L (.ref a :: st) h = if mK h a = 6 then ev d 28 12 L (.int (mI h a 0) :: st) h else none := ev_gI d_28_9 (by decide +kernel) (by decide +kernel)
theorem d_28_12 : decode (cd 28) 12 = .ok (.if_icmp .lt 25, 3) := by rw [cd_28]; decide +kernel
theorem e_28_12 {d : Nat} {h : mM} {L : mLs} {st : List Value} {x y : Int32} : ev d 28 12 L (.int y :: .int x :: st) h = if x < y then ev d 28 37 L st h else ev d 28 15 L st h := ev_ic (x < y) inferInstance rfl d_28_12 (by decide)
theorem d_28_15 : decode (cd 28) 15 = .ok (.iload_n 2, 1) := by rw [cd_28]; decide +kernel
theorem e_28_15 {d : Nat} {h : mM} {o0 o1 : Option Value} {T : mLs} {x : Int32} {st : List Value} : ev d 28 15 (o0 :: o1 :: some (.int x) :: T) st h = ev d 28 16 (o0 :: o1 :: some (.int x) :: T) (.int x :: st) h := ev_of d_28_15 rfl
theorem d_28_16 : decode (cd 28) 16 = .ok (.aload_n 0, 1) := by rw [cd_28]; decide +kernel
theorem e_28_16 {d : Nat} {h : mM} {T : mLs} {x : Nat} {st : List Value} : ev d 28 16 ( some (.ref x) :: T) st h = ev d 28 17 ( some (.ref x) :: T) (.ref x :: st) h := ev_of d_28_16 rfl
theorem d_28_17 : decode (cd 28) 17 = .ok (.getfield 13, 3) := by rw [cd_28]; decide +kernel
theorem e_28_17 {d : Nat} {h : mM} {L : mLs} {st : List Value} {a : Nat} : ev d 28 17 L (.ref a :: st) h = if mK h a = 6 then ev d 28 20 L (.int (mI h a 1) :: st) h else none := ev_gI d_28_17 (by decide +kernel) (by decide +kernel)
theorem d_28_20 : decode (cd 28) 20 = .ok (.if_icmp .lt 17, 3) := by rw [cd_28]; decide +kernel
theorem e_28_20 {d : Nat} {h : mM} {L : mLs} {st : List Value} {x y : Int32} : ev d 28 20 L (.int y :: .int x :: st) h = if x < y then ev d 28 37 L st h else ev d 28 23 L st h := ev_ic (x < y) inferInstance rfl d_28_20 (by decide)
theorem d_28_23 : decode (cd 28) 23 = .ok (.iload_n 2, 1) := by rw [cd_28]; decide +kernel
theorem e_28_23 {d : Nat} {h : mM} {o0 o1 : Option Value} {T : mLs} {x : Int32} {st : List Value} : ev d 28 23 (o0 :: o1 :: some (.int x) :: T) st h = ev d 28 24 (o0 :: o1 :: some (.int x) :: T) (.int x :: st) h := ev_of d_28_23 rfl
theorem d_28_24 : decode (cd 28) 24 = .ok (.aload_n 0, 1) := by rw [cd_28]; decide +kernel
theorem e_28_24 {d : Nat} {h : mM} {T : mLs} {x : Nat} {st : List Value} : ev d 28 24 ( some (.ref x) :: T) st h = ev d 28 25 ( some (.ref x) :: T) (.ref x :: st) h := ev_of d_28_24 rfl
theorem d_28_25 : decode (cd 28) 25 = .ok (.getfield 13, 3) := by rw [cd_28]; decide +kernel
theorem e_28_25 {d : Nat} {h : mM} {L : mLs} {st : List Value} {a : Nat} : ev d 28 25 L (.ref a :: st) h = if mK h a = 6 then ev d 28 28 L (.int (mI h a 1) :: st) h else none := ev_gI d_28_25 (by decide +kernel) (by decide +kernel)
theorem d_28_28 : decode (cd 28) 28 = .ok (.isub, 1) := by rw [cd_28]; decide +kernel
theorem e_28_28 {d : Nat} {h : mM} {L : mLs} {st : List Value} {x y : Int32} : ev d 28 28 L (.int y :: .int x :: st) h = ev d 28 29 L (.int (x - y) :: st) h := ev_of d_28_28 rfl
theorem d_28_29 : decode (cd 28) 29 = .ok (.iload_n 3, 1) := by rw [cd_28]; decide +kernel
theorem e_28_29 {d : Nat} {h : mM} {o0 o1 o2 : Option Value} {T : mLs} {x : Int32} {st : List Value} : ev d 28 29 (o0 :: o1 :: o2 :: some (.int x) :: T) st h = ev d 28 30 (o0 :: o1 :: o2 :: some (.int x) :: T) (.int x :: st) h := ev_of d_28_29 rfl
theorem d_28_30 : decode (cd 28) 30 = .ok (.if_icmp .lt 7, 3) := by rw [cd_28]; decide +kernel
theorem e_28_30 {d : Nat} {h : mM} {L : mLs} {st : List Value} {x y : Int32} : ev d 28 30 L (.int y :: .int x :: st) h = if x < y then ev d 28 37 L st h else ev d 28 33 L st h := ev_ic (x < y) inferInstance rfl d_28_30 (by decide)
theorem d_28_33 : decode (cd 28) 33 = .ok (.iconst 1, 1) := by rw [cd_28]; decide +kernel
theorem e_28_33 {d : Nat} {h : mM} {L : mLs} {st : List Value} : ev d 28 33 L st h = ev d 28 34 L (.int 1 :: st) h := ev_of d_28_33 rfl
theorem d_28_34 : decode (cd 28) 34 = .ok (.goto 4, 3) := by rw [cd_28]; decide +kernel
theorem e_28_34 {d : Nat} {h : mM} {L : mLs} {st : List Value} : ev d 28 34 L st h = ev d 28 38 L st h := ev_go d_28_34 (by decide)
theorem d_28_37 : decode (cd 28) 37 = .ok (.iconst 0, 1) := by rw [cd_28]; decide +kernel
theorem e_28_37 {d : Nat} {h : mM} {L : mLs} {st : List Value} : ev d 28 37 L st h = ev d 28 38 L (.int 0 :: st) h := ev_of d_28_37 rfl
theorem d_28_38 : decode (cd 28) 38 = .ok (.ireturn, 1) := by rw [cd_28]; decide +kernel
theorem e_28_38 {d : Nat} {h : mM} {L : mLs} {v : Int32} : ev d 28 38 L [.int v] h = if mZO v = true then some (some (.int v), h) else none := ev_rz d_28_38 (by decide +kernel)
-- 29: Stone.grinds
theorem cd_29 : cd 29 = prog_8_method_3_code := rfl
theorem d_29_0 : decode (cd 29) 0 = .ok (.iload_n 1, 1) := by rw [cd_29]; decide +kernel
theorem e_29_0 {d : Nat} {h : mM} {o0 : Option Value} {T : mLs} {x : Int32} {st : List Value} : ev d 29 0 (o0 :: some (.int x) :: T) st h = ev d 29 1 (o0 :: some (.int x) :: T) (.int x :: st) h := ev_of d_29_0 rfl
theorem d_29_1 : decode (cd 29) 1 = .ok (.aload_n 0, 1) := by rw [cd_29]; decide +kernel
theorem e_29_1 {d : Nat} {h : mM} {T : mLs} {x : Nat} {st : List Value} : ev d 29 1 ( some (.ref x) :: T) st h = ev d 29 2 ( some (.ref x) :: T) (.ref x :: st) h := ev_of d_29_1 rfl
theorem d_29_2 : decode (cd 29) 2 = .ok (.getfield 16, 3) := by rw [cd_29]; decide +kernel
theorem e_29_2 {d : Nat} {h : mM} {L : mLs} {st : List Value} {a : Nat} : ev d 29 2 L (.ref a :: st) h = if mK h a = 6 then ev d 29 5 L (.int (mI h a 2) :: st) h else none := ev_gI d_29_2 (by decide +kernel) (by decide +kernel)
theorem d_29_5 : decode (cd 29) 5 = .ok (.imul, 1) := by rw [cd_29]; decide +kernel
theorem e_29_5 {d : Nat} {h : mM} {L : mLs} {st : List Value} {x y : Int32} : ev d 29 5 L (.int y :: .int x :: st) h = ev d 29 6 L (.int (x * y) :: st) h := ev_of d_29_5 rfl
theorem d_29_6 : decode (cd 29) 6 = .ok (.aload_n 0, 1) := by rw [cd_29]; decide +kernel
theorem e_29_6 {d : Nat} {h : mM} {T : mLs} {x : Nat} {st : List Value} : ev d 29 6 ( some (.ref x) :: T) st h = ev d 29 7 ( some (.ref x) :: T) (.ref x :: st) h := ev_of d_29_6 rfl
theorem d_29_7 : decode (cd 29) 7 = .ok (.getfield 19, 3) := by rw [cd_29]; decide +kernel
theorem e_29_7 {d : Nat} {h : mM} {L : mLs} {st : List Value} {a : Nat} : ev d 29 7 L (.ref a :: st) h = if mK h a = 6 then ev d 29 10 L (.int (mI h a 3) :: st) h else none := ev_gI d_29_7 (by decide +kernel) (by decide +kernel)
theorem d_29_10 : decode (cd 29) 10 = .ok (.invokestatic 26, 3) := by rw [cd_29]; decide +kernel
theorem e_29_10 {d : Nat} {h : mM} {L : mLs} {st : List Value} {x y : Int32} (hc : mCat st ≤ 8) : ev d 29 10 L (.int y :: .int x :: st) h = ev d 29 13 L (.int (if y < x then y else x) :: st) h := ev_min (mj := 0) d_29_10 (by decide +kernel) hc
theorem d_29_13 : decode (cd 29) 13 = .ok (.ireturn, 1) := by rw [cd_29]; decide +kernel
theorem e_29_13 {d : Nat} {h : mM} {L : mLs} {v : Int32} : ev d 29 13 L [.int v] h = some (some (.int v), h) := ev_ri d_29_13 (by decide +kernel)
-- 30: Tides.<init>
theorem cd_30 : cd 30 = prog_9_method_1_code := rfl
theorem d_30_0 : decode (cd 30) 0 = .ok (.aload_n 0, 1) := by rw [cd_30]; decide +kernel
theorem e_30_0 {d : Nat} {h : mM} {T : mLs} {x : Nat} {st : List Value} : ev d 30 0 ( some (.ref x) :: T) st h = ev d 30 1 ( some (.ref x) :: T) (.ref x :: st) h := ev_of d_30_0 rfl
theorem d_30_1 : decode (cd 30) 1 = .ok (.invokespecial 3, 3) := by rw [cd_30]; decide +kernel
theorem e_30_1 {d : Nat} {h : mM} {L : mLs} {st : List Value} {a : Nat} (hc : mCat st ≤ 8) : ev d 30 1 L (.ref a :: st) h = ev d 30 4 L st h := ev_obj (mj := 0) d_30_1 (by decide +kernel) hc
theorem d_30_4 : decode (cd 30) 4 = .ok (.aload_n 0, 1) := by rw [cd_30]; decide +kernel
theorem e_30_4 {d : Nat} {h : mM} {T : mLs} {x : Nat} {st : List Value} : ev d 30 4 ( some (.ref x) :: T) st h = ev d 30 5 ( some (.ref x) :: T) (.ref x :: st) h := ev_of d_30_4 rfl
theorem d_30_5 : decode (cd 30) 5 = .ok (.bipush 24, 2) := by rw [cd_30]; decide +kernel
theorem e_30_5 {d : Nat} {h : mM} {L : mLs} {st : List Value} : ev d 30 5 L st h = ev d 30 7 L (.int 24 :: st) h := ev_of d_30_5 rfl
theorem d_30_7 : decode (cd 30) 7 = .ok (.newarray .int, 2) := by rw [cd_30]; decide +kernel
theorem e_30_7 {d : Nat} {h : mM} {L : mLs} {st : List Value} {n : Int32} (hn : ¬ n < 0) (h1 : n.toNatClampNeg ≤ 1000) : ev d 30 7 L (.int n :: st) h = ev d 30 9 L (.ref (mN h) :: st) (wN h 11 n.toNatClampNeg) := ev_na d_30_7 (by decide) hn h1
theorem d_30_9 : decode (cd 30) 9 = .ok (.putfield 9, 3) := by rw [cd_30]; decide +kernel
theorem e_30_9 {d : Nat} {h : mM} {L : mLs} {st : List Value} {a b : Nat} : ev d 30 9 L (.ref b :: .ref a :: st) h = if mK h a = 7 then ev d 30 12 L st (wR h a 0 (some b)) else none := ev_pR d_30_9 (by decide +kernel) (by decide +kernel) (by decide +kernel)
theorem d_30_12 : decode (cd 30) 12 = .ok (.aload_n 0, 1) := by rw [cd_30]; decide +kernel
theorem e_30_12 {d : Nat} {h : mM} {T : mLs} {x : Nat} {st : List Value} : ev d 30 12 ( some (.ref x) :: T) st h = ev d 30 13 ( some (.ref x) :: T) (.ref x :: st) h := ev_of d_30_12 rfl
theorem d_30_13 : decode (cd 30) 13 = .ok (.bipush 12, 2) := by rw [cd_30]; decide +kernel
theorem e_30_13 {d : Nat} {h : mM} {L : mLs} {st : List Value} : ev d 30 13 L st h = ev d 30 15 L (.int 12 :: st) h := ev_of d_30_13 rfl
theorem d_30_15 : decode (cd 30) 15 = .ok (.putfield 15, 3) := by rw [cd_30]; decide +kernel
theorem e_30_15 {d : Nat} {h : mM} {L : mLs} {st : List Value} {a : Nat} {v : Int32} : ev d 30 15 L (.int v :: .ref a :: st) h = if mK h a = 7 then ev d 30 18 L st (wI h a 1 v) else none := ev_pI d_30_15 (by decide +kernel) (by decide +kernel) (by decide +kernel)
theorem d_30_18 : decode (cd 30) 18 = .ok (.iconst 0, 1) := by rw [cd_30]; decide +kernel
theorem e_30_18 {d : Nat} {h : mM} {L : mLs} {st : List Value} : ev d 30 18 L st h = ev d 30 19 L (.int 0 :: st) h := ev_of d_30_18 rfl
theorem d_30_19 : decode (cd 30) 19 = .ok (.istore_n 1, 1) := by rw [cd_30]; decide +kernel
theorem e_30_19 {d : Nat} {h : mM} {o0 o1 : Option Value} {T : mLs} {x : Int32} {st : List Value} (hl : mLong o0 = false) : ev d 30 19 (o0 :: o1 :: T) (.int x :: st) h = ev d 30 20 (o0 :: some (.int x) :: T) st h := ev_st_in d_30_19 (by decide +kernel) (mS1_s (j := 0) hl)
theorem d_30_20 : decode (cd 30) 20 = .ok (.iload_n 1, 1) := by rw [cd_30]; decide +kernel
theorem e_30_20 {d : Nat} {h : mM} {o0 : Option Value} {T : mLs} {x : Int32} {st : List Value} : ev d 30 20 (o0 :: some (.int x) :: T) st h = ev d 30 21 (o0 :: some (.int x) :: T) (.int x :: st) h := ev_of d_30_20 rfl
theorem d_30_21 : decode (cd 30) 21 = .ok (.bipush 24, 2) := by rw [cd_30]; decide +kernel
theorem e_30_21 {d : Nat} {h : mM} {L : mLs} {st : List Value} : ev d 30 21 L st h = ev d 30 23 L (.int 24 :: st) h := ev_of d_30_21 rfl
theorem d_30_23 : decode (cd 30) 23 = .ok (.if_icmp .ge 32, 3) := by rw [cd_30]; decide +kernel
theorem e_30_23 {d : Nat} {h : mM} {L : mLs} {st : List Value} {x y : Int32} : ev d 30 23 L (.int y :: .int x :: st) h = if y ≤ x then ev d 30 55 L st h else ev d 30 26 L st h := ev_ic (y ≤ x) inferInstance rfl d_30_23 (by decide)
theorem d_30_26 : decode (cd 30) 26 = .ok (.aload_n 0, 1) := by rw [cd_30]; decide +kernel
theorem e_30_26 {d : Nat} {h : mM} {T : mLs} {x : Nat} {st : List Value} : ev d 30 26 ( some (.ref x) :: T) st h = ev d 30 27 ( some (.ref x) :: T) (.ref x :: st) h := ev_of d_30_26 rfl
theorem d_30_27 : decode (cd 30) 27 = .ok (.getfield 9, 3) := by rw [cd_30]; decide +kernel
theorem e_30_27 {d : Nat} {h : mM} {L : mLs} {st : List Value} {a : Nat} : ev d 30 27 L (.ref a :: st) h = if mK h a = 7 then oB (mR h a 0) (fun b => ev d 30 30 L (.ref b :: st) h) else none := ev_gR d_30_27 (by decide +kernel) (by decide +kernel)
theorem d_30_30 : decode (cd 30) 30 = .ok (.iload_n 1, 1) := by rw [cd_30]; decide +kernel
theorem e_30_30 {d : Nat} {h : mM} {o0 : Option Value} {T : mLs} {x : Int32} {st : List Value} : ev d 30 30 (o0 :: some (.int x) :: T) st h = ev d 30 31 (o0 :: some (.int x) :: T) (.int x :: st) h := ev_of d_30_30 rfl
theorem d_30_31 : decode (cd 30) 31 = .ok (.iconst 0, 1) := by rw [cd_30]; decide +kernel
theorem e_30_31 {d : Nat} {h : mM} {L : mLs} {st : List Value} : ev d 30 31 L st h = ev d 30 32 L (.int 0 :: st) h := ev_of d_30_31 rfl
theorem d_30_32 : decode (cd 30) 32 = .ok (.bipush 100, 2) := by rw [cd_30]; decide +kernel
theorem e_30_32 {d : Nat} {h : mM} {L : mLs} {st : List Value} : ev d 30 32 L st h = ev d 30 34 L (.int 100 :: st) h := ev_of d_30_32 rfl
theorem d_30_34 : decode (cd 30) 34 = .ok (.bipush 10, 2) := by rw [cd_30]; decide +kernel
theorem e_30_34 {d : Nat} {h : mM} {L : mLs} {st : List Value} : ev d 30 34 L st h = ev d 30 36 L (.int 10 :: st) h := ev_of d_30_34 rfl
theorem d_30_36 : decode (cd 30) 36 = .ok (.iload_n 1, 1) := by rw [cd_30]; decide +kernel
theorem e_30_36 {d : Nat} {h : mM} {o0 : Option Value} {T : mLs} {x : Int32} {st : List Value} : ev d 30 36 (o0 :: some (.int x) :: T) st h = ev d 30 37 (o0 :: some (.int x) :: T) (.int x :: st) h := ev_of d_30_36 rfl
theorem d_30_37 : decode (cd 30) 37 = .ok (.bipush 6, 2) := by rw [cd_30]; decide +kernel
theorem e_30_37 {d : Nat} {h : mM} {L : mLs} {st : List Value} : ev d 30 37 L st h = ev d 30 39 L (.int 6 :: st) h := ev_of d_30_37 rfl
theorem d_30_39 : decode (cd 30) 39 = .ok (.isub, 1) := by rw [cd_30]; decide +kernel
theorem e_30_39 {d : Nat} {h : mM} {L : mLs} {st : List Value} {x y : Int32} : ev d 30 39 L (.int y :: .int x :: st) h = ev d 30 40 L (.int (x - y) :: st) h := ev_of d_30_39 rfl
theorem d_30_40 : decode (cd 30) 40 = .ok (.invokestatic 19, 3) := by rw [cd_30]; decide +kernel
theorem e_30_40 {d : Nat} {h : mM} {L : mLs} {st : List Value} {x : Int32} (hc : mCat st ≤ 8) : ev d 30 40 L (.int x :: st) h = ev d 30 43 L (.int (if 0 ≤ x then x else 0 - x) :: st) h := ev_abs (mj := 0) d_30_40 (by decide +kernel) hc
theorem d_30_43 : decode (cd 30) 43 = .ok (.imul, 1) := by rw [cd_30]; decide +kernel
theorem e_30_43 {d : Nat} {h : mM} {L : mLs} {st : List Value} {x y : Int32} : ev d 30 43 L (.int y :: .int x :: st) h = ev d 30 44 L (.int (x * y) :: st) h := ev_of d_30_43 rfl
theorem d_30_44 : decode (cd 30) 44 = .ok (.isub, 1) := by rw [cd_30]; decide +kernel
theorem e_30_44 {d : Nat} {h : mM} {L : mLs} {st : List Value} {x y : Int32} : ev d 30 44 L (.int y :: .int x :: st) h = ev d 30 45 L (.int (x - y) :: st) h := ev_of d_30_44 rfl
theorem d_30_45 : decode (cd 30) 45 = .ok (.invokestatic 25, 3) := by rw [cd_30]; decide +kernel
theorem e_30_45 {d : Nat} {h : mM} {L : mLs} {st : List Value} {x y : Int32} (hc : mCat st ≤ 8) : ev d 30 45 L (.int y :: .int x :: st) h = ev d 30 48 L (.int (if x < y then y else x) :: st) h := ev_max (mj := 0) d_30_45 (by decide +kernel) hc
theorem d_30_48 : decode (cd 30) 48 = .ok (.iastore, 1) := by rw [cd_30]; decide +kernel
theorem e_30_48 {d : Nat} {h : mM} {L : mLs} {st : List Value} {a : Nat} {i v : Int32} : ev d 30 48 L (.int v :: .int i :: .ref a :: st) h = if mK h a = 11 ∧ ixOK i (mL h a) = true then ev d 30 49 L st (wI h a i.toNatClampNeg v) else none := ev_is d_30_48
theorem d_30_49 : decode (cd 30) 49 = .ok (.iinc 1 1, 3) := by rw [cd_30]; decide +kernel
theorem e_30_49 {d : Nat} {h : mM} {o0 : Option Value} {T : mLs} {x : Int32} {st : List Value} (hl : mLong o0 = false) : ev d 30 49 (o0 :: some (.int x) :: T) st h = ev d 30 52 (o0 :: some (.int (x + 1)) :: T) st h := ev_inc d_30_49 (by decide +kernel) rfl rfl (mS1_s (j := 0) hl)
theorem d_30_52 : decode (cd 30) 52 = .ok (.goto (-32), 3) := by rw [cd_30]; decide +kernel
theorem e_30_52 {d : Nat} {h : mM} {L : mLs} {st : List Value} : ev d 30 52 L st h = ev d 30 20 L st h := ev_go d_30_52 (by decide)
theorem d_30_55 : decode (cd 30) 55 = .ok (.return_, 1) := by rw [cd_30]; decide +kernel
theorem e_30_55 {d : Nat} {h : mM} {L : mLs} : ev d 30 55 L [] h = some (none, h) := ev_rv d_30_55 (by decide +kernel)
-- 31: Tides.at
theorem cd_31 : cd 31 = prog_9_method_2_code := rfl
theorem d_31_0 : decode (cd 31) 0 = .ok (.aload_n 0, 1) := by rw [cd_31]; decide +kernel
theorem e_31_0 {d : Nat} {h : mM} {T : mLs} {x : Nat} {st : List Value} : ev d 31 0 ( some (.ref x) :: T) st h = ev d 31 1 ( some (.ref x) :: T) (.ref x :: st) h := ev_of d_31_0 rfl
theorem d_31_1 : decode (cd 31) 1 = .ok (.getfield 15, 3) := by rw [cd_31]; decide +kernel
theorem e_31_1 {d : Nat} {h : mM} {L : mLs} {st : List Value} {a : Nat} : ev d 31 1 L (.ref a :: st) h = if mK h a = 7 then ev d 31 4 L (.int (mI h a 1) :: st) h else none := ev_gI d_31_1 (by decide +kernel) (by decide +kernel)
theorem d_31_4 : decode (cd 31) 4 = .ok (.ifCond .le 21, 3) := by rw [cd_31]; decide +kernel
theorem e_31_4 {d : Nat} {h : mM} {L : mLs} {st : List Value} {x : Int32} : ev d 31 4 L (.int x :: st) h = if x ≤ 0 then ev d 31 25 L st h else ev d 31 7 L st h := ev_if (x ≤ 0) inferInstance rfl d_31_4 (by decide)
theorem d_31_7 : decode (cd 31) 7 = .ok (.iload_n 1, 1) := by rw [cd_31]; decide +kernel
theorem e_31_7 {d : Nat} {h : mM} {o0 : Option Value} {T : mLs} {x : Int32} {st : List Value} : ev d 31 7 (o0 :: some (.int x) :: T) st h = ev d 31 8 (o0 :: some (.int x) :: T) (.int x :: st) h := ev_of d_31_7 rfl
theorem d_31_8 : decode (cd 31) 8 = .ok (.ifCond .lt 17, 3) := by rw [cd_31]; decide +kernel
theorem e_31_8 {d : Nat} {h : mM} {L : mLs} {st : List Value} {x : Int32} : ev d 31 8 L (.int x :: st) h = if x < 0 then ev d 31 25 L st h else ev d 31 11 L st h := ev_if (x < 0) inferInstance rfl d_31_8 (by decide)
theorem d_31_11 : decode (cd 31) 11 = .ok (.aload_n 0, 1) := by rw [cd_31]; decide +kernel
theorem e_31_11 {d : Nat} {h : mM} {T : mLs} {x : Nat} {st : List Value} : ev d 31 11 ( some (.ref x) :: T) st h = ev d 31 12 ( some (.ref x) :: T) (.ref x :: st) h := ev_of d_31_11 rfl
theorem d_31_12 : decode (cd 31) 12 = .ok (.getfield 9, 3) := by rw [cd_31]; decide +kernel
theorem e_31_12 {d : Nat} {h : mM} {L : mLs} {st : List Value} {a : Nat} : ev d 31 12 L (.ref a :: st) h = if mK h a = 7 then oB (mR h a 0) (fun b => ev d 31 15 L (.ref b :: st) h) else none := ev_gR d_31_12 (by decide +kernel) (by decide +kernel)
theorem d_31_15 : decode (cd 31) 15 = .ok (.iload_n 1, 1) := by rw [cd_31]; decide +kernel
theorem e_31_15 {d : Nat} {h : mM} {o0 : Option Value} {T : mLs} {x : Int32} {st : List Value} : ev d 31 15 (o0 :: some (.int x) :: T) st h = ev d 31 16 (o0 :: some (.int x) :: T) (.int x :: st) h := ev_of d_31_15 rfl
theorem d_31_16 : decode (cd 31) 16 = .ok (.aload_n 0, 1) := by rw [cd_31]; decide +kernel
theorem e_31_16 {d : Nat} {h : mM} {T : mLs} {x : Nat} {st : List Value} : ev d 31 16 ( some (.ref x) :: T) st h = ev d 31 17 ( some (.ref x) :: T) (.ref x :: st) h := ev_of d_31_16 rfl
theorem d_31_17 : decode (cd 31) 17 = .ok (.getfield 15, 3) := by rw [cd_31]; decide +kernel
theorem e_31_17 {d : Nat} {h : mM} {L : mLs} {st : List Value} {a : Nat} : ev d 31 17 L (.ref a :: st) h = if mK h a = 7 then ev d 31 20 L (.int (mI h a 1) :: st) h else none := ev_gI d_31_17 (by decide +kernel) (by decide +kernel)
theorem d_31_20 : decode (cd 31) 20 = .ok (.irem, 1) := by rw [cd_31]; decide +kernel
theorem e_31_20 {d : Nat} {h : mM} {L : mLs} {st : List Value} {x y : Int32} : ev d 31 20 L (.int y :: .int x :: st) h = if y = 0 then none else ev d 31 21 L (.int (x - x / y * y) :: st) h := ev_rem d_31_20
theorem d_31_21 : decode (cd 31) 21 = .ok (.iaload, 1) := by rw [cd_31]; decide +kernel
theorem e_31_21 {d : Nat} {h : mM} {L : mLs} {st : List Value} {a : Nat} {i : Int32} : ev d 31 21 L (.int i :: .ref a :: st) h = if (mK h a = 11 ∨ mK h a = 19) ∧ ixOK i (mL h a) = true then ev d 31 22 L (.int (mI h a i.toNatClampNeg) :: st) h else none := ev_ia d_31_21
theorem d_31_22 : decode (cd 31) 22 = .ok (.goto 4, 3) := by rw [cd_31]; decide +kernel
theorem e_31_22 {d : Nat} {h : mM} {L : mLs} {st : List Value} : ev d 31 22 L st h = ev d 31 26 L st h := ev_go d_31_22 (by decide)
theorem d_31_25 : decode (cd 31) 25 = .ok (.iconst 0, 1) := by rw [cd_31]; decide +kernel
theorem e_31_25 {d : Nat} {h : mM} {L : mLs} {st : List Value} : ev d 31 25 L st h = ev d 31 26 L (.int 0 :: st) h := ev_of d_31_25 rfl
theorem d_31_26 : decode (cd 31) 26 = .ok (.ireturn, 1) := by rw [cd_31]; decide +kernel
theorem e_31_26 {d : Nat} {h : mM} {L : mLs} {v : Int32} : ev d 31 26 L [.int v] h = some (some (.int v), h) := ev_ri d_31_26 (by decide +kernel)
-- 32: Works.<init>
theorem cd_32 : cd 32 = prog_10_method_1_code := rfl
theorem d_32_0 : decode (cd 32) 0 = .ok (.aload_n 0, 1) := by rw [cd_32]; decide +kernel
theorem e_32_0 {d : Nat} {h : mM} {T : mLs} {x : Nat} {st : List Value} : ev d 32 0 ( some (.ref x) :: T) st h = ev d 32 1 ( some (.ref x) :: T) (.ref x :: st) h := ev_of d_32_0 rfl
theorem d_32_1 : decode (cd 32) 1 = .ok (.invokespecial 3, 3) := by rw [cd_32]; decide +kernel
theorem e_32_1 {d : Nat} {h : mM} {L : mLs} {st : List Value} {a : Nat} (hc : mCat st ≤ 8) : ev d 32 1 L (.ref a :: st) h = ev d 32 4 L st h := ev_obj (mj := 0) d_32_1 (by decide +kernel) hc
theorem d_32_4 : decode (cd 32) 4 = .ok (.aload_n 0, 1) := by rw [cd_32]; decide +kernel
theorem e_32_4 {d : Nat} {h : mM} {T : mLs} {x : Nat} {st : List Value} : ev d 32 4 ( some (.ref x) :: T) st h = ev d 32 5 ( some (.ref x) :: T) (.ref x :: st) h := ev_of d_32_4 rfl
theorem d_32_5 : decode (cd 32) 5 = .ok (.iconst 4, 1) := by rw [cd_32]; decide +kernel
theorem e_32_5 {d : Nat} {h : mM} {L : mLs} {st : List Value} : ev d 32 5 L st h = ev d 32 6 L (.int 4 :: st) h := ev_of d_32_5 rfl
theorem d_32_6 : decode (cd 32) 6 = .ok (.anewarray 9, 3) := by rw [cd_32]; decide +kernel
theorem e_32_6 {d : Nat} {h : mM} {L : mLs} {st : List Value} {n : Int32} (hn : ¬ n < 0) (h1 : n.toNatClampNeg ≤ 1000) : ev d 32 6 L (.int n :: st) h = ev d 32 9 L (.ref (mN h) :: st) (wN h 13 n.toNatClampNeg) := ev_anew d_32_6 (by decide +kernel : nGet (ow 32) 9 = some 3) (by decide) hn h1
theorem d_32_9 : decode (cd 32) 9 = .ok (.putfield 11, 3) := by rw [cd_32]; decide +kernel
theorem e_32_9 {d : Nat} {h : mM} {L : mLs} {st : List Value} {a b : Nat} : ev d 32 9 L (.ref b :: .ref a :: st) h = if mK h a = 8 then ev d 32 12 L st (wR h a 0 (some b)) else none := ev_pR d_32_9 (by decide +kernel) (by decide +kernel) (by decide +kernel)
theorem d_32_12 : decode (cd 32) 12 = .ok (.aload_n 0, 1) := by rw [cd_32]; decide +kernel
theorem e_32_12 {d : Nat} {h : mM} {T : mLs} {x : Nat} {st : List Value} : ev d 32 12 ( some (.ref x) :: T) st h = ev d 32 13 ( some (.ref x) :: T) (.ref x :: st) h := ev_of d_32_12 rfl
theorem d_32_13 : decode (cd 32) 13 = .ok (.iconst 4, 1) := by rw [cd_32]; decide +kernel
theorem e_32_13 {d : Nat} {h : mM} {L : mLs} {st : List Value} : ev d 32 13 L st h = ev d 32 14 L (.int 4 :: st) h := ev_of d_32_13 rfl
theorem d_32_14 : decode (cd 32) 14 = .ok (.anewarray 17, 3) := by rw [cd_32]; decide +kernel
theorem e_32_14 {d : Nat} {h : mM} {L : mLs} {st : List Value} {n : Int32} (hn : ¬ n < 0) (h1 : n.toNatClampNeg ≤ 1000) : ev d 32 14 L (.int n :: st) h = ev d 32 17 L (.ref (mN h) :: st) (wN h 14 n.toNatClampNeg) := ev_anew d_32_14 (by decide +kernel : nGet (ow 32) 17 = some 0) (by decide) hn h1
theorem d_32_17 : decode (cd 32) 17 = .ok (.putfield 19, 3) := by rw [cd_32]; decide +kernel
theorem e_32_17 {d : Nat} {h : mM} {L : mLs} {st : List Value} {a b : Nat} : ev d 32 17 L (.ref b :: .ref a :: st) h = if mK h a = 8 then ev d 32 20 L st (wR h a 1 (some b)) else none := ev_pR d_32_17 (by decide +kernel) (by decide +kernel) (by decide +kernel)
theorem d_32_20 : decode (cd 32) 20 = .ok (.aload_n 0, 1) := by rw [cd_32]; decide +kernel
theorem e_32_20 {d : Nat} {h : mM} {T : mLs} {x : Nat} {st : List Value} : ev d 32 20 ( some (.ref x) :: T) st h = ev d 32 21 ( some (.ref x) :: T) (.ref x :: st) h := ev_of d_32_20 rfl
theorem d_32_21 : decode (cd 32) 21 = .ok (.iconst 4, 1) := by rw [cd_32]; decide +kernel
theorem e_32_21 {d : Nat} {h : mM} {L : mLs} {st : List Value} : ev d 32 21 L st h = ev d 32 22 L (.int 4 :: st) h := ev_of d_32_21 rfl
theorem d_32_22 : decode (cd 32) 22 = .ok (.anewarray 23, 3) := by rw [cd_32]; decide +kernel
theorem e_32_22 {d : Nat} {h : mM} {L : mLs} {st : List Value} {n : Int32} (hn : ¬ n < 0) (h1 : n.toNatClampNeg ≤ 1000) : ev d 32 22 L (.int n :: st) h = ev d 32 25 L (.ref (mN h) :: st) (wN h 15 n.toNatClampNeg) := ev_anew d_32_22 (by decide +kernel : nGet (ow 32) 23 = some 2) (by decide) hn h1
theorem d_32_25 : decode (cd 32) 25 = .ok (.putfield 25, 3) := by rw [cd_32]; decide +kernel
theorem e_32_25 {d : Nat} {h : mM} {L : mLs} {st : List Value} {a b : Nat} : ev d 32 25 L (.ref b :: .ref a :: st) h = if mK h a = 8 then ev d 32 28 L st (wR h a 2 (some b)) else none := ev_pR d_32_25 (by decide +kernel) (by decide +kernel) (by decide +kernel)
theorem d_32_28 : decode (cd 32) 28 = .ok (.aload_n 0, 1) := by rw [cd_32]; decide +kernel
theorem e_32_28 {d : Nat} {h : mM} {T : mLs} {x : Nat} {st : List Value} : ev d 32 28 ( some (.ref x) :: T) st h = ev d 32 29 ( some (.ref x) :: T) (.ref x :: st) h := ev_of d_32_28 rfl
theorem d_32_29 : decode (cd 32) 29 = .ok (.iconst 4, 1) := by rw [cd_32]; decide +kernel
theorem e_32_29 {d : Nat} {h : mM} {L : mLs} {st : List Value} : ev d 32 29 L st h = ev d 32 30 L (.int 4 :: st) h := ev_of d_32_29 rfl
theorem d_32_30 : decode (cd 32) 30 = .ok (.newarray .int, 2) := by rw [cd_32]; decide +kernel
theorem e_32_30 {d : Nat} {h : mM} {L : mLs} {st : List Value} {n : Int32} (hn : ¬ n < 0) (h1 : n.toNatClampNeg ≤ 1000) : ev d 32 30 L (.int n :: st) h = ev d 32 32 L (.ref (mN h) :: st) (wN h 11 n.toNatClampNeg) := ev_na d_32_30 (by decide) hn h1
theorem d_32_32 : decode (cd 32) 32 = .ok (.putfield 29, 3) := by rw [cd_32]; decide +kernel
theorem e_32_32 {d : Nat} {h : mM} {L : mLs} {st : List Value} {a b : Nat} : ev d 32 32 L (.ref b :: .ref a :: st) h = if mK h a = 8 then ev d 32 35 L st (wR h a 3 (some b)) else none := ev_pR d_32_32 (by decide +kernel) (by decide +kernel) (by decide +kernel)
theorem d_32_35 : decode (cd 32) 35 = .ok (.aload_n 0, 1) := by rw [cd_32]; decide +kernel
theorem e_32_35 {d : Nat} {h : mM} {T : mLs} {x : Nat} {st : List Value} : ev d 32 35 ( some (.ref x) :: T) st h = ev d 32 36 ( some (.ref x) :: T) (.ref x :: st) h := ev_of d_32_35 rfl
theorem d_32_36 : decode (cd 32) 36 = .ok (.iconst 0, 1) := by rw [cd_32]; decide +kernel
theorem e_32_36 {d : Nat} {h : mM} {L : mLs} {st : List Value} : ev d 32 36 L st h = ev d 32 37 L (.int 0 :: st) h := ev_of d_32_36 rfl
theorem d_32_37 : decode (cd 32) 37 = .ok (.putfield 33, 3) := by rw [cd_32]; decide +kernel
theorem e_32_37 {d : Nat} {h : mM} {L : mLs} {st : List Value} {a : Nat} {v : Int32} : ev d 32 37 L (.int v :: .ref a :: st) h = if mK h a = 8 then ev d 32 40 L st (wI h a 4 v) else none := ev_pI d_32_37 (by decide +kernel) (by decide +kernel) (by decide +kernel)
theorem d_32_40 : decode (cd 32) 40 = .ok (.aload_n 0, 1) := by rw [cd_32]; decide +kernel
theorem e_32_40 {d : Nat} {h : mM} {T : mLs} {x : Nat} {st : List Value} : ev d 32 40 ( some (.ref x) :: T) st h = ev d 32 41 ( some (.ref x) :: T) (.ref x :: st) h := ev_of d_32_40 rfl
theorem d_32_41 : decode (cd 32) 41 = .ok (.iconst 0, 1) := by rw [cd_32]; decide +kernel
theorem e_32_41 {d : Nat} {h : mM} {L : mLs} {st : List Value} : ev d 32 41 L st h = ev d 32 42 L (.int 0 :: st) h := ev_of d_32_41 rfl
theorem d_32_42 : decode (cd 32) 42 = .ok (.putfield 37, 3) := by rw [cd_32]; decide +kernel
theorem e_32_42 {d : Nat} {h : mM} {L : mLs} {st : List Value} {a : Nat} {v : Int32} : ev d 32 42 L (.int v :: .ref a :: st) h = if mK h a = 8 then ev d 32 45 L st (wI h a 5 v) else none := ev_pI d_32_42 (by decide +kernel) (by decide +kernel) (by decide +kernel)
theorem d_32_45 : decode (cd 32) 45 = .ok (.aload_n 0, 1) := by rw [cd_32]; decide +kernel
theorem e_32_45 {d : Nat} {h : mM} {T : mLs} {x : Nat} {st : List Value} : ev d 32 45 ( some (.ref x) :: T) st h = ev d 32 46 ( some (.ref x) :: T) (.ref x :: st) h := ev_of d_32_45 rfl
theorem d_32_46 : decode (cd 32) 46 = .ok (.iconst 0, 1) := by rw [cd_32]; decide +kernel
theorem e_32_46 {d : Nat} {h : mM} {L : mLs} {st : List Value} : ev d 32 46 L st h = ev d 32 47 L (.int 0 :: st) h := ev_of d_32_46 rfl
theorem d_32_47 : decode (cd 32) 47 = .ok (.putfield 40, 3) := by rw [cd_32]; decide +kernel
theorem e_32_47 {d : Nat} {h : mM} {L : mLs} {st : List Value} {a : Nat} {v : Int32} : ev d 32 47 L (.int v :: .ref a :: st) h = if mK h a = 8 then ev d 32 50 L st (wI h a 6 v) else none := ev_pI d_32_47 (by decide +kernel) (by decide +kernel) (by decide +kernel)
theorem d_32_50 : decode (cd 32) 50 = .ok (.iconst 0, 1) := by rw [cd_32]; decide +kernel
theorem e_32_50 {d : Nat} {h : mM} {L : mLs} {st : List Value} : ev d 32 50 L st h = ev d 32 51 L (.int 0 :: st) h := ev_of d_32_50 rfl
theorem d_32_51 : decode (cd 32) 51 = .ok (.istore_n 1, 1) := by rw [cd_32]; decide +kernel
theorem e_32_51 {d : Nat} {h : mM} {o0 o1 : Option Value} {T : mLs} {x : Int32} {st : List Value} (hl : mLong o0 = false) : ev d 32 51 (o0 :: o1 :: T) (.int x :: st) h = ev d 32 52 (o0 :: some (.int x) :: T) st h := ev_st_in d_32_51 (by decide +kernel) (mS1_s (j := 0) hl)
theorem d_32_52 : decode (cd 32) 52 = .ok (.iload_n 1, 1) := by rw [cd_32]; decide +kernel
theorem e_32_52 {d : Nat} {h : mM} {o0 : Option Value} {T : mLs} {x : Int32} {st : List Value} : ev d 32 52 (o0 :: some (.int x) :: T) st h = ev d 32 53 (o0 :: some (.int x) :: T) (.int x :: st) h := ev_of d_32_52 rfl
theorem d_32_53 : decode (cd 32) 53 = .ok (.iconst 4, 1) := by rw [cd_32]; decide +kernel
theorem e_32_53 {d : Nat} {h : mM} {L : mLs} {st : List Value} : ev d 32 53 L st h = ev d 32 54 L (.int 4 :: st) h := ev_of d_32_53 rfl
theorem d_32_54 : decode (cd 32) 54 = .ok (.if_icmp .ge 22, 3) := by rw [cd_32]; decide +kernel
theorem e_32_54 {d : Nat} {h : mM} {L : mLs} {st : List Value} {x y : Int32} : ev d 32 54 L (.int y :: .int x :: st) h = if y ≤ x then ev d 32 76 L st h else ev d 32 57 L st h := ev_ic (y ≤ x) inferInstance rfl d_32_54 (by decide)
theorem d_32_57 : decode (cd 32) 57 = .ok (.aload_n 0, 1) := by rw [cd_32]; decide +kernel
theorem e_32_57 {d : Nat} {h : mM} {T : mLs} {x : Nat} {st : List Value} : ev d 32 57 ( some (.ref x) :: T) st h = ev d 32 58 ( some (.ref x) :: T) (.ref x :: st) h := ev_of d_32_57 rfl
theorem d_32_58 : decode (cd 32) 58 = .ok (.getfield 11, 3) := by rw [cd_32]; decide +kernel
theorem e_32_58 {d : Nat} {h : mM} {L : mLs} {st : List Value} {a : Nat} : ev d 32 58 L (.ref a :: st) h = if mK h a = 8 then oB (mR h a 0) (fun b => ev d 32 61 L (.ref b :: st) h) else none := ev_gR d_32_58 (by decide +kernel) (by decide +kernel)
theorem d_32_61 : decode (cd 32) 61 = .ok (.iload_n 1, 1) := by rw [cd_32]; decide +kernel
theorem e_32_61 {d : Nat} {h : mM} {o0 : Option Value} {T : mLs} {x : Int32} {st : List Value} : ev d 32 61 (o0 :: some (.int x) :: T) st h = ev d 32 62 (o0 :: some (.int x) :: T) (.int x :: st) h := ev_of d_32_61 rfl
theorem d_32_62 : decode (cd 32) 62 = .ok (.new 9, 3) := by rw [cd_32]; decide +kernel
theorem e_32_62 {d : Nat} {h : mM} {L : mLs} {st : List Value} : ev d 32 62 L st h = ev d 32 65 L (.ref (mN h) :: st) (wN h 3 4) := ev_new d_32_62 (by decide +kernel)
theorem d_32_65 : decode (cd 32) 65 = .ok (.dup, 1) := by rw [cd_32]; decide +kernel
theorem e_32_65r {d : Nat} {h : mM} {L : mLs} {st : List Value} {a : Nat} : ev d 32 65 L (.ref a :: st) h = ev d 32 66 L (.ref a :: .ref a :: st) h := ev_of d_32_65 rfl
theorem e_32_65i {d : Nat} {h : mM} {L : mLs} {st : List Value} {x : Int32} : ev d 32 65 L (.int x :: st) h = ev d 32 66 L (.int x :: .int x :: st) h := ev_of d_32_65 rfl
theorem d_32_66 : decode (cd 32) 66 = .ok (.invokespecial 43, 3) := by rw [cd_32]; decide +kernel
theorem e_32_66 {d : Nat} {h : mM} {L : mLs} {st : List Value} {a : Nat} (hc : mCat st ≤ 8) : ev (d + 1) 32 66 L (.ref a :: st) h = cV (ev d 15 0 [some (.ref a)] [] h) (fun v h1 => ev (d + 1) 32 69 L (v ++ st) h1) := ev_ci (kd := 4) (mj := 15) (as := []) (rest := st) d_32_66 (by decide +kernel) (by decide) rfl rfl (by show _ ≤ List.length _; simp only [List.length_cons]; have : na 15 = 0 := rfl; omega) rfl (Nat.le_of_ble_eq_true rfl) hc
theorem d_32_69 : decode (cd 32) 69 = .ok (.aastore, 1) := by rw [cd_32]; decide +kernel
theorem e_32_69 {d : Nat} {h : mM} {L : mLs} {st : List Value} {a b : Nat} {i : Int32} : ev d 32 69 L (.ref b :: .int i :: .ref a :: st) h = if (12 < mK h a ∧ mK h a < 18) ∧ mK h b = mEl (mK h a) ∧ ixOK i (mL h a) = true then ev d 32 70 L st (wR h a i.toNatClampNeg (some b)) else none := ev_as d_32_69
theorem d_32_70 : decode (cd 32) 70 = .ok (.iinc 1 1, 3) := by rw [cd_32]; decide +kernel
theorem e_32_70 {d : Nat} {h : mM} {o0 : Option Value} {T : mLs} {x : Int32} {st : List Value} (hl : mLong o0 = false) : ev d 32 70 (o0 :: some (.int x) :: T) st h = ev d 32 73 (o0 :: some (.int (x + 1)) :: T) st h := ev_inc d_32_70 (by decide +kernel) rfl rfl (mS1_s (j := 0) hl)
theorem d_32_73 : decode (cd 32) 73 = .ok (.goto (-21), 3) := by rw [cd_32]; decide +kernel
theorem e_32_73 {d : Nat} {h : mM} {L : mLs} {st : List Value} : ev d 32 73 L st h = ev d 32 52 L st h := ev_go d_32_73 (by decide)
theorem d_32_76 : decode (cd 32) 76 = .ok (.iconst 0, 1) := by rw [cd_32]; decide +kernel
theorem e_32_76 {d : Nat} {h : mM} {L : mLs} {st : List Value} : ev d 32 76 L st h = ev d 32 77 L (.int 0 :: st) h := ev_of d_32_76 rfl
theorem d_32_77 : decode (cd 32) 77 = .ok (.istore_n 1, 1) := by rw [cd_32]; decide +kernel
theorem e_32_77 {d : Nat} {h : mM} {o0 o1 : Option Value} {T : mLs} {x : Int32} {st : List Value} (hl : mLong o0 = false) : ev d 32 77 (o0 :: o1 :: T) (.int x :: st) h = ev d 32 78 (o0 :: some (.int x) :: T) st h := ev_st_in d_32_77 (by decide +kernel) (mS1_s (j := 0) hl)
theorem d_32_78 : decode (cd 32) 78 = .ok (.iload_n 1, 1) := by rw [cd_32]; decide +kernel
theorem e_32_78 {d : Nat} {h : mM} {o0 : Option Value} {T : mLs} {x : Int32} {st : List Value} : ev d 32 78 (o0 :: some (.int x) :: T) st h = ev d 32 79 (o0 :: some (.int x) :: T) (.int x :: st) h := ev_of d_32_78 rfl
theorem d_32_79 : decode (cd 32) 79 = .ok (.iconst 4, 1) := by rw [cd_32]; decide +kernel
theorem e_32_79 {d : Nat} {h : mM} {L : mLs} {st : List Value} : ev d 32 79 L st h = ev d 32 80 L (.int 4 :: st) h := ev_of d_32_79 rfl
theorem d_32_80 : decode (cd 32) 80 = .ok (.if_icmp .ge 22, 3) := by rw [cd_32]; decide +kernel
theorem e_32_80 {d : Nat} {h : mM} {L : mLs} {st : List Value} {x y : Int32} : ev d 32 80 L (.int y :: .int x :: st) h = if y ≤ x then ev d 32 102 L st h else ev d 32 83 L st h := ev_ic (y ≤ x) inferInstance rfl d_32_80 (by decide)
theorem d_32_83 : decode (cd 32) 83 = .ok (.aload_n 0, 1) := by rw [cd_32]; decide +kernel
theorem e_32_83 {d : Nat} {h : mM} {T : mLs} {x : Nat} {st : List Value} : ev d 32 83 ( some (.ref x) :: T) st h = ev d 32 84 ( some (.ref x) :: T) (.ref x :: st) h := ev_of d_32_83 rfl
theorem d_32_84 : decode (cd 32) 84 = .ok (.getfield 19, 3) := by rw [cd_32]; decide +kernel
theorem e_32_84 {d : Nat} {h : mM} {L : mLs} {st : List Value} {a : Nat} : ev d 32 84 L (.ref a :: st) h = if mK h a = 8 then oB (mR h a 1) (fun b => ev d 32 87 L (.ref b :: st) h) else none := ev_gR d_32_84 (by decide +kernel) (by decide +kernel)
theorem d_32_87 : decode (cd 32) 87 = .ok (.iload_n 1, 1) := by rw [cd_32]; decide +kernel
theorem e_32_87 {d : Nat} {h : mM} {o0 : Option Value} {T : mLs} {x : Int32} {st : List Value} : ev d 32 87 (o0 :: some (.int x) :: T) st h = ev d 32 88 (o0 :: some (.int x) :: T) (.int x :: st) h := ev_of d_32_87 rfl
theorem d_32_88 : decode (cd 32) 88 = .ok (.new 17, 3) := by rw [cd_32]; decide +kernel
theorem e_32_88 {d : Nat} {h : mM} {L : mLs} {st : List Value} : ev d 32 88 L st h = ev d 32 91 L (.ref (mN h) :: st) (wN h 0 3) := ev_new d_32_88 (by decide +kernel)
theorem d_32_91 : decode (cd 32) 91 = .ok (.dup, 1) := by rw [cd_32]; decide +kernel
theorem e_32_91r {d : Nat} {h : mM} {L : mLs} {st : List Value} {a : Nat} : ev d 32 91 L (.ref a :: st) h = ev d 32 92 L (.ref a :: .ref a :: st) h := ev_of d_32_91 rfl
theorem e_32_91i {d : Nat} {h : mM} {L : mLs} {st : List Value} {x : Int32} : ev d 32 91 L (.int x :: st) h = ev d 32 92 L (.int x :: .int x :: st) h := ev_of d_32_91 rfl
theorem d_32_92 : decode (cd 32) 92 = .ok (.invokespecial 44, 3) := by rw [cd_32]; decide +kernel
theorem e_32_92 {d : Nat} {h : mM} {L : mLs} {st : List Value} {a : Nat} (hc : mCat st ≤ 8) : ev (d + 1) 32 92 L (.ref a :: st) h = cV (ev d 0 0 [some (.ref a)] [] h) (fun v h1 => ev (d + 1) 32 95 L (v ++ st) h1) := ev_ci (kd := 4) (mj := 0) (as := []) (rest := st) d_32_92 (by decide +kernel) (by decide) rfl rfl (by show _ ≤ List.length _; simp only [List.length_cons]; have : na 0 = 0 := rfl; omega) rfl (Nat.le_of_ble_eq_true rfl) hc
theorem d_32_95 : decode (cd 32) 95 = .ok (.aastore, 1) := by rw [cd_32]; decide +kernel
theorem e_32_95 {d : Nat} {h : mM} {L : mLs} {st : List Value} {a b : Nat} {i : Int32} : ev d 32 95 L (.ref b :: .int i :: .ref a :: st) h = if (12 < mK h a ∧ mK h a < 18) ∧ mK h b = mEl (mK h a) ∧ ixOK i (mL h a) = true then ev d 32 96 L st (wR h a i.toNatClampNeg (some b)) else none := ev_as d_32_95
theorem d_32_96 : decode (cd 32) 96 = .ok (.iinc 1 1, 3) := by rw [cd_32]; decide +kernel
theorem e_32_96 {d : Nat} {h : mM} {o0 : Option Value} {T : mLs} {x : Int32} {st : List Value} (hl : mLong o0 = false) : ev d 32 96 (o0 :: some (.int x) :: T) st h = ev d 32 99 (o0 :: some (.int (x + 1)) :: T) st h := ev_inc d_32_96 (by decide +kernel) rfl rfl (mS1_s (j := 0) hl)
theorem d_32_99 : decode (cd 32) 99 = .ok (.goto (-21), 3) := by rw [cd_32]; decide +kernel
theorem e_32_99 {d : Nat} {h : mM} {L : mLs} {st : List Value} : ev d 32 99 L st h = ev d 32 78 L st h := ev_go d_32_99 (by decide)
theorem d_32_102 : decode (cd 32) 102 = .ok (.iconst 0, 1) := by rw [cd_32]; decide +kernel
theorem e_32_102 {d : Nat} {h : mM} {L : mLs} {st : List Value} : ev d 32 102 L st h = ev d 32 103 L (.int 0 :: st) h := ev_of d_32_102 rfl
theorem d_32_103 : decode (cd 32) 103 = .ok (.istore_n 1, 1) := by rw [cd_32]; decide +kernel
theorem e_32_103 {d : Nat} {h : mM} {o0 o1 : Option Value} {T : mLs} {x : Int32} {st : List Value} (hl : mLong o0 = false) : ev d 32 103 (o0 :: o1 :: T) (.int x :: st) h = ev d 32 104 (o0 :: some (.int x) :: T) st h := ev_st_in d_32_103 (by decide +kernel) (mS1_s (j := 0) hl)
theorem d_32_104 : decode (cd 32) 104 = .ok (.iload_n 1, 1) := by rw [cd_32]; decide +kernel
theorem e_32_104 {d : Nat} {h : mM} {o0 : Option Value} {T : mLs} {x : Int32} {st : List Value} : ev d 32 104 (o0 :: some (.int x) :: T) st h = ev d 32 105 (o0 :: some (.int x) :: T) (.int x :: st) h := ev_of d_32_104 rfl
theorem d_32_105 : decode (cd 32) 105 = .ok (.iconst 4, 1) := by rw [cd_32]; decide +kernel
theorem e_32_105 {d : Nat} {h : mM} {L : mLs} {st : List Value} : ev d 32 105 L st h = ev d 32 106 L (.int 4 :: st) h := ev_of d_32_105 rfl
theorem d_32_106 : decode (cd 32) 106 = .ok (.if_icmp .ge 22, 3) := by rw [cd_32]; decide +kernel
theorem e_32_106 {d : Nat} {h : mM} {L : mLs} {st : List Value} {x y : Int32} : ev d 32 106 L (.int y :: .int x :: st) h = if y ≤ x then ev d 32 128 L st h else ev d 32 109 L st h := ev_ic (y ≤ x) inferInstance rfl d_32_106 (by decide)
theorem d_32_109 : decode (cd 32) 109 = .ok (.aload_n 0, 1) := by rw [cd_32]; decide +kernel
theorem e_32_109 {d : Nat} {h : mM} {T : mLs} {x : Nat} {st : List Value} : ev d 32 109 ( some (.ref x) :: T) st h = ev d 32 110 ( some (.ref x) :: T) (.ref x :: st) h := ev_of d_32_109 rfl
theorem d_32_110 : decode (cd 32) 110 = .ok (.getfield 25, 3) := by rw [cd_32]; decide +kernel
theorem e_32_110 {d : Nat} {h : mM} {L : mLs} {st : List Value} {a : Nat} : ev d 32 110 L (.ref a :: st) h = if mK h a = 8 then oB (mR h a 2) (fun b => ev d 32 113 L (.ref b :: st) h) else none := ev_gR d_32_110 (by decide +kernel) (by decide +kernel)
theorem d_32_113 : decode (cd 32) 113 = .ok (.iload_n 1, 1) := by rw [cd_32]; decide +kernel
theorem e_32_113 {d : Nat} {h : mM} {o0 : Option Value} {T : mLs} {x : Int32} {st : List Value} : ev d 32 113 (o0 :: some (.int x) :: T) st h = ev d 32 114 (o0 :: some (.int x) :: T) (.int x :: st) h := ev_of d_32_113 rfl
theorem d_32_114 : decode (cd 32) 114 = .ok (.new 23, 3) := by rw [cd_32]; decide +kernel
theorem e_32_114 {d : Nat} {h : mM} {L : mLs} {st : List Value} : ev d 32 114 L st h = ev d 32 117 L (.ref (mN h) :: st) (wN h 2 15) := ev_new d_32_114 (by decide +kernel)
theorem d_32_117 : decode (cd 32) 117 = .ok (.dup, 1) := by rw [cd_32]; decide +kernel
theorem e_32_117r {d : Nat} {h : mM} {L : mLs} {st : List Value} {a : Nat} : ev d 32 117 L (.ref a :: st) h = ev d 32 118 L (.ref a :: .ref a :: st) h := ev_of d_32_117 rfl
theorem e_32_117i {d : Nat} {h : mM} {L : mLs} {st : List Value} {x : Int32} : ev d 32 117 L (.int x :: st) h = ev d 32 118 L (.int x :: .int x :: st) h := ev_of d_32_117 rfl
theorem d_32_118 : decode (cd 32) 118 = .ok (.invokespecial 45, 3) := by rw [cd_32]; decide +kernel
theorem e_32_118 {d : Nat} {h : mM} {L : mLs} {st : List Value} {a : Nat} (hc : mCat st ≤ 8) : ev (d + 1) 32 118 L (.ref a :: st) h = cV (ev d 11 0 [some (.ref a), none] [] h) (fun v h1 => ev (d + 1) 32 121 L (v ++ st) h1) := ev_ci (kd := 2) (mj := 11) (as := []) (rest := st) d_32_118 (by decide +kernel) (by decide) rfl rfl (by show _ ≤ List.length _; simp only [List.length_cons]; have : na 11 = 0 := rfl; omega) rfl (Nat.le_of_ble_eq_true rfl) hc
theorem d_32_121 : decode (cd 32) 121 = .ok (.aastore, 1) := by rw [cd_32]; decide +kernel
theorem e_32_121 {d : Nat} {h : mM} {L : mLs} {st : List Value} {a b : Nat} {i : Int32} : ev d 32 121 L (.ref b :: .int i :: .ref a :: st) h = if (12 < mK h a ∧ mK h a < 18) ∧ mK h b = mEl (mK h a) ∧ ixOK i (mL h a) = true then ev d 32 122 L st (wR h a i.toNatClampNeg (some b)) else none := ev_as d_32_121
theorem d_32_122 : decode (cd 32) 122 = .ok (.iinc 1 1, 3) := by rw [cd_32]; decide +kernel
theorem e_32_122 {d : Nat} {h : mM} {o0 : Option Value} {T : mLs} {x : Int32} {st : List Value} (hl : mLong o0 = false) : ev d 32 122 (o0 :: some (.int x) :: T) st h = ev d 32 125 (o0 :: some (.int (x + 1)) :: T) st h := ev_inc d_32_122 (by decide +kernel) rfl rfl (mS1_s (j := 0) hl)
theorem d_32_125 : decode (cd 32) 125 = .ok (.goto (-21), 3) := by rw [cd_32]; decide +kernel
theorem e_32_125 {d : Nat} {h : mM} {L : mLs} {st : List Value} : ev d 32 125 L st h = ev d 32 104 L st h := ev_go d_32_125 (by decide)
theorem d_32_128 : decode (cd 32) 128 = .ok (.return_, 1) := by rw [cd_32]; decide +kernel
theorem e_32_128 {d : Nat} {h : mM} {L : mLs} : ev d 32 128 L [] h = some (none, h) := ev_rv d_32_128 (by decide +kernel)
-- 33: Works.putInOrder
theorem cd_33 : cd 33 = prog_10_method_2_code := rfl
theorem d_33_0 : decode (cd 33) 0 = .ok (.iload_n 1, 1) := by rw [cd_33]; decide +kernel
theorem e_33_0 {d : Nat} {h : mM} {o0 : Option Value} {T : mLs} {x : Int32} {st : List Value} : ev d 33 0 (o0 :: some (.int x) :: T) st h = ev d 33 1 (o0 :: some (.int x) :: T) (.int x :: st) h := ev_of d_33_0 rfl
theorem d_33_1 : decode (cd 33) 1 = .ok (.istore_n 2, 1) := by rw [cd_33]; decide +kernel
theorem e_33_1 {d : Nat} {h : mM} {o0 o1 o2 : Option Value} {T : mLs} {x : Int32} {st : List Value} (hl : mLong o1 = false) : ev d 33 1 (o0 :: o1 :: o2 :: T) (.int x :: st) h = ev d 33 2 (o0 :: o1 :: some (.int x) :: T) st h := ev_st_in d_33_1 (by decide +kernel) (mS1_s (j := 1) hl)
theorem d_33_2 : decode (cd 33) 2 = .ok (.iload_n 2, 1) := by rw [cd_33]; decide +kernel
theorem e_33_2 {d : Nat} {h : mM} {o0 o1 : Option Value} {T : mLs} {x : Int32} {st : List Value} : ev d 33 2 (o0 :: o1 :: some (.int x) :: T) st h = ev d 33 3 (o0 :: o1 :: some (.int x) :: T) (.int x :: st) h := ev_of d_33_2 rfl
theorem d_33_3 : decode (cd 33) 3 = .ok (.ifCond .le 51, 3) := by rw [cd_33]; decide +kernel
theorem e_33_3 {d : Nat} {h : mM} {L : mLs} {st : List Value} {x : Int32} : ev d 33 3 L (.int x :: st) h = if x ≤ 0 then ev d 33 54 L st h else ev d 33 6 L st h := ev_if (x ≤ 0) inferInstance rfl d_33_3 (by decide)
theorem d_33_6 : decode (cd 33) 6 = .ok (.aload_n 0, 1) := by rw [cd_33]; decide +kernel
theorem e_33_6 {d : Nat} {h : mM} {T : mLs} {x : Nat} {st : List Value} : ev d 33 6 ( some (.ref x) :: T) st h = ev d 33 7 ( some (.ref x) :: T) (.ref x :: st) h := ev_of d_33_6 rfl
theorem d_33_7 : decode (cd 33) 7 = .ok (.getfield 25, 3) := by rw [cd_33]; decide +kernel
theorem e_33_7 {d : Nat} {h : mM} {L : mLs} {st : List Value} {a : Nat} : ev d 33 7 L (.ref a :: st) h = if mK h a = 8 then oB (mR h a 2) (fun b => ev d 33 10 L (.ref b :: st) h) else none := ev_gR d_33_7 (by decide +kernel) (by decide +kernel)
theorem d_33_10 : decode (cd 33) 10 = .ok (.aload_n 0, 1) := by rw [cd_33]; decide +kernel
theorem e_33_10 {d : Nat} {h : mM} {T : mLs} {x : Nat} {st : List Value} : ev d 33 10 ( some (.ref x) :: T) st h = ev d 33 11 ( some (.ref x) :: T) (.ref x :: st) h := ev_of d_33_10 rfl
theorem d_33_11 : decode (cd 33) 11 = .ok (.getfield 29, 3) := by rw [cd_33]; decide +kernel
theorem e_33_11 {d : Nat} {h : mM} {L : mLs} {st : List Value} {a : Nat} : ev d 33 11 L (.ref a :: st) h = if mK h a = 8 then oB (mR h a 3) (fun b => ev d 33 14 L (.ref b :: st) h) else none := ev_gR d_33_11 (by decide +kernel) (by decide +kernel)
theorem d_33_14 : decode (cd 33) 14 = .ok (.iload_n 2, 1) := by rw [cd_33]; decide +kernel
theorem e_33_14 {d : Nat} {h : mM} {o0 o1 : Option Value} {T : mLs} {x : Int32} {st : List Value} : ev d 33 14 (o0 :: o1 :: some (.int x) :: T) st h = ev d 33 15 (o0 :: o1 :: some (.int x) :: T) (.int x :: st) h := ev_of d_33_14 rfl
theorem d_33_15 : decode (cd 33) 15 = .ok (.iconst 1, 1) := by rw [cd_33]; decide +kernel
theorem e_33_15 {d : Nat} {h : mM} {L : mLs} {st : List Value} : ev d 33 15 L st h = ev d 33 16 L (.int 1 :: st) h := ev_of d_33_15 rfl
theorem d_33_16 : decode (cd 33) 16 = .ok (.isub, 1) := by rw [cd_33]; decide +kernel
theorem e_33_16 {d : Nat} {h : mM} {L : mLs} {st : List Value} {x y : Int32} : ev d 33 16 L (.int y :: .int x :: st) h = ev d 33 17 L (.int (x - y) :: st) h := ev_of d_33_16 rfl
theorem d_33_17 : decode (cd 33) 17 = .ok (.iaload, 1) := by rw [cd_33]; decide +kernel
theorem e_33_17 {d : Nat} {h : mM} {L : mLs} {st : List Value} {a : Nat} {i : Int32} : ev d 33 17 L (.int i :: .ref a :: st) h = if (mK h a = 11 ∨ mK h a = 19) ∧ ixOK i (mL h a) = true then ev d 33 18 L (.int (mI h a i.toNatClampNeg) :: st) h else none := ev_ia d_33_17
theorem d_33_18 : decode (cd 33) 18 = .ok (.aaload, 1) := by rw [cd_33]; decide +kernel
theorem e_33_18 {d : Nat} {h : mM} {L : mLs} {st : List Value} {a : Nat} {i : Int32} : ev d 33 18 L (.int i :: .ref a :: st) h = if (12 < mK h a ∧ mK h a < 19) ∧ ixOK i (mL h a) = true then oB (mR h a i.toNatClampNeg) (fun b => ev d 33 19 L (.ref b :: st) h) else none := ev_aa d_33_18
theorem d_33_19 : decode (cd 33) 19 = .ok (.getfield 46, 3) := by rw [cd_33]; decide +kernel
theorem e_33_19 {d : Nat} {h : mM} {L : mLs} {st : List Value} {a : Nat} : ev d 33 19 L (.ref a :: st) h = if mK h a = 2 then ev d 33 22 L (.int (mI h a 4) :: st) h else none := ev_gI d_33_19 (by decide +kernel) (by decide +kernel)
theorem d_33_22 : decode (cd 33) 22 = .ok (.aload_n 0, 1) := by rw [cd_33]; decide +kernel
theorem e_33_22 {d : Nat} {h : mM} {T : mLs} {x : Nat} {st : List Value} : ev d 33 22 ( some (.ref x) :: T) st h = ev d 33 23 ( some (.ref x) :: T) (.ref x :: st) h := ev_of d_33_22 rfl
theorem d_33_23 : decode (cd 33) 23 = .ok (.getfield 25, 3) := by rw [cd_33]; decide +kernel
theorem e_33_23 {d : Nat} {h : mM} {L : mLs} {st : List Value} {a : Nat} : ev d 33 23 L (.ref a :: st) h = if mK h a = 8 then oB (mR h a 2) (fun b => ev d 33 26 L (.ref b :: st) h) else none := ev_gR d_33_23 (by decide +kernel) (by decide +kernel)
theorem d_33_26 : decode (cd 33) 26 = .ok (.iload_n 1, 1) := by rw [cd_33]; decide +kernel
theorem e_33_26 {d : Nat} {h : mM} {o0 : Option Value} {T : mLs} {x : Int32} {st : List Value} : ev d 33 26 (o0 :: some (.int x) :: T) st h = ev d 33 27 (o0 :: some (.int x) :: T) (.int x :: st) h := ev_of d_33_26 rfl
theorem d_33_27 : decode (cd 33) 27 = .ok (.aaload, 1) := by rw [cd_33]; decide +kernel
theorem e_33_27 {d : Nat} {h : mM} {L : mLs} {st : List Value} {a : Nat} {i : Int32} : ev d 33 27 L (.int i :: .ref a :: st) h = if (12 < mK h a ∧ mK h a < 19) ∧ ixOK i (mL h a) = true then oB (mR h a i.toNatClampNeg) (fun b => ev d 33 28 L (.ref b :: st) h) else none := ev_aa d_33_27
theorem d_33_28 : decode (cd 33) 28 = .ok (.getfield 46, 3) := by rw [cd_33]; decide +kernel
theorem e_33_28 {d : Nat} {h : mM} {L : mLs} {st : List Value} {a : Nat} : ev d 33 28 L (.ref a :: st) h = if mK h a = 2 then ev d 33 31 L (.int (mI h a 4) :: st) h else none := ev_gI d_33_28 (by decide +kernel) (by decide +kernel)
theorem d_33_31 : decode (cd 33) 31 = .ok (.if_icmp .le 23, 3) := by rw [cd_33]; decide +kernel
theorem e_33_31 {d : Nat} {h : mM} {L : mLs} {st : List Value} {x y : Int32} : ev d 33 31 L (.int y :: .int x :: st) h = if x ≤ y then ev d 33 54 L st h else ev d 33 34 L st h := ev_ic (x ≤ y) inferInstance rfl d_33_31 (by decide)
theorem d_33_34 : decode (cd 33) 34 = .ok (.aload_n 0, 1) := by rw [cd_33]; decide +kernel
theorem e_33_34 {d : Nat} {h : mM} {T : mLs} {x : Nat} {st : List Value} : ev d 33 34 ( some (.ref x) :: T) st h = ev d 33 35 ( some (.ref x) :: T) (.ref x :: st) h := ev_of d_33_34 rfl
theorem d_33_35 : decode (cd 33) 35 = .ok (.getfield 29, 3) := by rw [cd_33]; decide +kernel
theorem e_33_35 {d : Nat} {h : mM} {L : mLs} {st : List Value} {a : Nat} : ev d 33 35 L (.ref a :: st) h = if mK h a = 8 then oB (mR h a 3) (fun b => ev d 33 38 L (.ref b :: st) h) else none := ev_gR d_33_35 (by decide +kernel) (by decide +kernel)
theorem d_33_38 : decode (cd 33) 38 = .ok (.iload_n 2, 1) := by rw [cd_33]; decide +kernel
theorem e_33_38 {d : Nat} {h : mM} {o0 o1 : Option Value} {T : mLs} {x : Int32} {st : List Value} : ev d 33 38 (o0 :: o1 :: some (.int x) :: T) st h = ev d 33 39 (o0 :: o1 :: some (.int x) :: T) (.int x :: st) h := ev_of d_33_38 rfl
theorem d_33_39 : decode (cd 33) 39 = .ok (.aload_n 0, 1) := by rw [cd_33]; decide +kernel
theorem e_33_39 {d : Nat} {h : mM} {T : mLs} {x : Nat} {st : List Value} : ev d 33 39 ( some (.ref x) :: T) st h = ev d 33 40 ( some (.ref x) :: T) (.ref x :: st) h := ev_of d_33_39 rfl
theorem d_33_40 : decode (cd 33) 40 = .ok (.getfield 29, 3) := by rw [cd_33]; decide +kernel
theorem e_33_40 {d : Nat} {h : mM} {L : mLs} {st : List Value} {a : Nat} : ev d 33 40 L (.ref a :: st) h = if mK h a = 8 then oB (mR h a 3) (fun b => ev d 33 43 L (.ref b :: st) h) else none := ev_gR d_33_40 (by decide +kernel) (by decide +kernel)
theorem d_33_43 : decode (cd 33) 43 = .ok (.iload_n 2, 1) := by rw [cd_33]; decide +kernel
theorem e_33_43 {d : Nat} {h : mM} {o0 o1 : Option Value} {T : mLs} {x : Int32} {st : List Value} : ev d 33 43 (o0 :: o1 :: some (.int x) :: T) st h = ev d 33 44 (o0 :: o1 :: some (.int x) :: T) (.int x :: st) h := ev_of d_33_43 rfl
theorem d_33_44 : decode (cd 33) 44 = .ok (.iconst 1, 1) := by rw [cd_33]; decide +kernel
theorem e_33_44 {d : Nat} {h : mM} {L : mLs} {st : List Value} : ev d 33 44 L st h = ev d 33 45 L (.int 1 :: st) h := ev_of d_33_44 rfl
theorem d_33_45 : decode (cd 33) 45 = .ok (.isub, 1) := by rw [cd_33]; decide +kernel
theorem e_33_45 {d : Nat} {h : mM} {L : mLs} {st : List Value} {x y : Int32} : ev d 33 45 L (.int y :: .int x :: st) h = ev d 33 46 L (.int (x - y) :: st) h := ev_of d_33_45 rfl
theorem d_33_46 : decode (cd 33) 46 = .ok (.iaload, 1) := by rw [cd_33]; decide +kernel
theorem e_33_46 {d : Nat} {h : mM} {L : mLs} {st : List Value} {a : Nat} {i : Int32} : ev d 33 46 L (.int i :: .ref a :: st) h = if (mK h a = 11 ∨ mK h a = 19) ∧ ixOK i (mL h a) = true then ev d 33 47 L (.int (mI h a i.toNatClampNeg) :: st) h else none := ev_ia d_33_46
theorem d_33_47 : decode (cd 33) 47 = .ok (.iastore, 1) := by rw [cd_33]; decide +kernel
theorem e_33_47 {d : Nat} {h : mM} {L : mLs} {st : List Value} {a : Nat} {i v : Int32} : ev d 33 47 L (.int v :: .int i :: .ref a :: st) h = if mK h a = 11 ∧ ixOK i (mL h a) = true then ev d 33 48 L st (wI h a i.toNatClampNeg v) else none := ev_is d_33_47
theorem d_33_48 : decode (cd 33) 48 = .ok (.iinc 2 (-1), 3) := by rw [cd_33]; decide +kernel
theorem e_33_48 {d : Nat} {h : mM} {o0 o1 : Option Value} {T : mLs} {x : Int32} {st : List Value} (hl : mLong o1 = false) : ev d 33 48 (o0 :: o1 :: some (.int x) :: T) st h = ev d 33 51 (o0 :: o1 :: some (.int (x + (-1))) :: T) st h := ev_inc d_33_48 (by decide +kernel) rfl rfl (mS1_s (j := 1) hl)
theorem d_33_51 : decode (cd 33) 51 = .ok (.goto (-49), 3) := by rw [cd_33]; decide +kernel
theorem e_33_51 {d : Nat} {h : mM} {L : mLs} {st : List Value} : ev d 33 51 L st h = ev d 33 2 L st h := ev_go d_33_51 (by decide)
theorem d_33_54 : decode (cd 33) 54 = .ok (.aload_n 0, 1) := by rw [cd_33]; decide +kernel
theorem e_33_54 {d : Nat} {h : mM} {T : mLs} {x : Nat} {st : List Value} : ev d 33 54 ( some (.ref x) :: T) st h = ev d 33 55 ( some (.ref x) :: T) (.ref x :: st) h := ev_of d_33_54 rfl
theorem d_33_55 : decode (cd 33) 55 = .ok (.getfield 29, 3) := by rw [cd_33]; decide +kernel
theorem e_33_55 {d : Nat} {h : mM} {L : mLs} {st : List Value} {a : Nat} : ev d 33 55 L (.ref a :: st) h = if mK h a = 8 then oB (mR h a 3) (fun b => ev d 33 58 L (.ref b :: st) h) else none := ev_gR d_33_55 (by decide +kernel) (by decide +kernel)
theorem d_33_58 : decode (cd 33) 58 = .ok (.iload_n 2, 1) := by rw [cd_33]; decide +kernel
theorem e_33_58 {d : Nat} {h : mM} {o0 o1 : Option Value} {T : mLs} {x : Int32} {st : List Value} : ev d 33 58 (o0 :: o1 :: some (.int x) :: T) st h = ev d 33 59 (o0 :: o1 :: some (.int x) :: T) (.int x :: st) h := ev_of d_33_58 rfl
theorem d_33_59 : decode (cd 33) 59 = .ok (.iload_n 1, 1) := by rw [cd_33]; decide +kernel
theorem e_33_59 {d : Nat} {h : mM} {o0 : Option Value} {T : mLs} {x : Int32} {st : List Value} : ev d 33 59 (o0 :: some (.int x) :: T) st h = ev d 33 60 (o0 :: some (.int x) :: T) (.int x :: st) h := ev_of d_33_59 rfl
theorem d_33_60 : decode (cd 33) 60 = .ok (.iastore, 1) := by rw [cd_33]; decide +kernel
theorem e_33_60 {d : Nat} {h : mM} {L : mLs} {st : List Value} {a : Nat} {i v : Int32} : ev d 33 60 L (.int v :: .int i :: .ref a :: st) h = if mK h a = 11 ∧ ixOK i (mL h a) = true then ev d 33 61 L st (wI h a i.toNatClampNeg v) else none := ev_is d_33_60
theorem d_33_61 : decode (cd 33) 61 = .ok (.return_, 1) := by rw [cd_33]; decide +kernel
theorem e_33_61 {d : Nat} {h : mM} {L : mLs} : ev d 33 61 L [] h = some (none, h) := ev_rv d_33_61 (by decide +kernel)
-- 34: Works.millsAt
theorem cd_34 : cd 34 = prog_10_method_3_code := rfl
theorem d_34_0 : decode (cd 34) 0 = .ok (.iconst 0, 1) := by rw [cd_34]; decide +kernel
theorem e_34_0 {d : Nat} {h : mM} {L : mLs} {st : List Value} : ev d 34 0 L st h = ev d 34 1 L (.int 0 :: st) h := ev_of d_34_0 rfl
theorem d_34_1 : decode (cd 34) 1 = .ok (.istore_n 2, 1) := by rw [cd_34]; decide +kernel
theorem e_34_1 {d : Nat} {h : mM} {o0 o1 o2 : Option Value} {T : mLs} {x : Int32} {st : List Value} (hl : mLong o1 = false) : ev d 34 1 (o0 :: o1 :: o2 :: T) (.int x :: st) h = ev d 34 2 (o0 :: o1 :: some (.int x) :: T) st h := ev_st_in d_34_1 (by decide +kernel) (mS1_s (j := 1) hl)
theorem d_34_2 : decode (cd 34) 2 = .ok (.iconst 0, 1) := by rw [cd_34]; decide +kernel
theorem e_34_2 {d : Nat} {h : mM} {L : mLs} {st : List Value} : ev d 34 2 L st h = ev d 34 3 L (.int 0 :: st) h := ev_of d_34_2 rfl
theorem d_34_3 : decode (cd 34) 3 = .ok (.istore_n 3, 1) := by rw [cd_34]; decide +kernel
theorem e_34_3 {d : Nat} {h : mM} {o0 o1 o2 o3 : Option Value} {T : mLs} {x : Int32} {st : List Value} (hl : mLong o2 = false) : ev d 34 3 (o0 :: o1 :: o2 :: o3 :: T) (.int x :: st) h = ev d 34 4 (o0 :: o1 :: o2 :: some (.int x) :: T) st h := ev_st_in d_34_3 (by decide +kernel) (mS1_s (j := 2) hl)
theorem d_34_4 : decode (cd 34) 4 = .ok (.iload_n 3, 1) := by rw [cd_34]; decide +kernel
theorem e_34_4 {d : Nat} {h : mM} {o0 o1 o2 : Option Value} {T : mLs} {x : Int32} {st : List Value} : ev d 34 4 (o0 :: o1 :: o2 :: some (.int x) :: T) st h = ev d 34 5 (o0 :: o1 :: o2 :: some (.int x) :: T) (.int x :: st) h := ev_of d_34_4 rfl
theorem d_34_5 : decode (cd 34) 5 = .ok (.aload_n 0, 1) := by rw [cd_34]; decide +kernel
theorem e_34_5 {d : Nat} {h : mM} {T : mLs} {x : Nat} {st : List Value} : ev d 34 5 ( some (.ref x) :: T) st h = ev d 34 6 ( some (.ref x) :: T) (.ref x :: st) h := ev_of d_34_5 rfl
theorem d_34_6 : decode (cd 34) 6 = .ok (.getfield 40, 3) := by rw [cd_34]; decide +kernel
theorem e_34_6 {d : Nat} {h : mM} {L : mLs} {st : List Value} {a : Nat} : ev d 34 6 L (.ref a :: st) h = if mK h a = 8 then ev d 34 9 L (.int (mI h a 6) :: st) h else none := ev_gI d_34_6 (by decide +kernel) (by decide +kernel)
theorem d_34_9 : decode (cd 34) 9 = .ok (.if_icmp .ge 25, 3) := by rw [cd_34]; decide +kernel
theorem e_34_9 {d : Nat} {h : mM} {L : mLs} {st : List Value} {x y : Int32} : ev d 34 9 L (.int y :: .int x :: st) h = if y ≤ x then ev d 34 34 L st h else ev d 34 12 L st h := ev_ic (y ≤ x) inferInstance rfl d_34_9 (by decide)
theorem d_34_12 : decode (cd 34) 12 = .ok (.aload_n 0, 1) := by rw [cd_34]; decide +kernel
theorem e_34_12 {d : Nat} {h : mM} {T : mLs} {x : Nat} {st : List Value} : ev d 34 12 ( some (.ref x) :: T) st h = ev d 34 13 ( some (.ref x) :: T) (.ref x :: st) h := ev_of d_34_12 rfl
theorem d_34_13 : decode (cd 34) 13 = .ok (.getfield 25, 3) := by rw [cd_34]; decide +kernel
theorem e_34_13 {d : Nat} {h : mM} {L : mLs} {st : List Value} {a : Nat} : ev d 34 13 L (.ref a :: st) h = if mK h a = 8 then oB (mR h a 2) (fun b => ev d 34 16 L (.ref b :: st) h) else none := ev_gR d_34_13 (by decide +kernel) (by decide +kernel)
theorem d_34_16 : decode (cd 34) 16 = .ok (.iload_n 3, 1) := by rw [cd_34]; decide +kernel
theorem e_34_16 {d : Nat} {h : mM} {o0 o1 o2 : Option Value} {T : mLs} {x : Int32} {st : List Value} : ev d 34 16 (o0 :: o1 :: o2 :: some (.int x) :: T) st h = ev d 34 17 (o0 :: o1 :: o2 :: some (.int x) :: T) (.int x :: st) h := ev_of d_34_16 rfl
theorem d_34_17 : decode (cd 34) 17 = .ok (.aaload, 1) := by rw [cd_34]; decide +kernel
theorem e_34_17 {d : Nat} {h : mM} {L : mLs} {st : List Value} {a : Nat} {i : Int32} : ev d 34 17 L (.int i :: .ref a :: st) h = if (12 < mK h a ∧ mK h a < 19) ∧ ixOK i (mL h a) = true then oB (mR h a i.toNatClampNeg) (fun b => ev d 34 18 L (.ref b :: st) h) else none := ev_aa d_34_17
theorem d_34_18 : decode (cd 34) 18 = .ok (.getfield 49, 3) := by rw [cd_34]; decide +kernel
theorem e_34_18 {d : Nat} {h : mM} {L : mLs} {st : List Value} {a : Nat} : ev d 34 18 L (.ref a :: st) h = if mK h a = 2 then ev d 34 21 L (.int (mI h a 3) :: st) h else none := ev_gI d_34_18 (by decide +kernel) (by decide +kernel)
theorem d_34_21 : decode (cd 34) 21 = .ok (.iload_n 1, 1) := by rw [cd_34]; decide +kernel
theorem e_34_21 {d : Nat} {h : mM} {o0 : Option Value} {T : mLs} {x : Int32} {st : List Value} : ev d 34 21 (o0 :: some (.int x) :: T) st h = ev d 34 22 (o0 :: some (.int x) :: T) (.int x :: st) h := ev_of d_34_21 rfl
theorem d_34_22 : decode (cd 34) 22 = .ok (.if_icmp .ne 6, 3) := by rw [cd_34]; decide +kernel
theorem e_34_22 {d : Nat} {h : mM} {L : mLs} {st : List Value} {x y : Int32} : ev d 34 22 L (.int y :: .int x :: st) h = if ¬ x = y then ev d 34 28 L st h else ev d 34 25 L st h := ev_ic (¬ x = y) inferInstance rfl d_34_22 (by decide)
theorem d_34_25 : decode (cd 34) 25 = .ok (.iinc 2 1, 3) := by rw [cd_34]; decide +kernel
theorem e_34_25 {d : Nat} {h : mM} {o0 o1 : Option Value} {T : mLs} {x : Int32} {st : List Value} (hl : mLong o1 = false) : ev d 34 25 (o0 :: o1 :: some (.int x) :: T) st h = ev d 34 28 (o0 :: o1 :: some (.int (x + 1)) :: T) st h := ev_inc d_34_25 (by decide +kernel) rfl rfl (mS1_s (j := 1) hl)
theorem d_34_28 : decode (cd 34) 28 = .ok (.iinc 3 1, 3) := by rw [cd_34]; decide +kernel
theorem e_34_28 {d : Nat} {h : mM} {o0 o1 o2 : Option Value} {T : mLs} {x : Int32} {st : List Value} (hl : mLong o2 = false) : ev d 34 28 (o0 :: o1 :: o2 :: some (.int x) :: T) st h = ev d 34 31 (o0 :: o1 :: o2 :: some (.int (x + 1)) :: T) st h := ev_inc d_34_28 (by decide +kernel) rfl rfl (mS1_s (j := 2) hl)
theorem d_34_31 : decode (cd 34) 31 = .ok (.goto (-27), 3) := by rw [cd_34]; decide +kernel
theorem e_34_31 {d : Nat} {h : mM} {L : mLs} {st : List Value} : ev d 34 31 L st h = ev d 34 4 L st h := ev_go d_34_31 (by decide)
theorem d_34_34 : decode (cd 34) 34 = .ok (.iload_n 2, 1) := by rw [cd_34]; decide +kernel
theorem e_34_34 {d : Nat} {h : mM} {o0 o1 : Option Value} {T : mLs} {x : Int32} {st : List Value} : ev d 34 34 (o0 :: o1 :: some (.int x) :: T) st h = ev d 34 35 (o0 :: o1 :: some (.int x) :: T) (.int x :: st) h := ev_of d_34_34 rfl
theorem d_34_35 : decode (cd 34) 35 = .ok (.ireturn, 1) := by rw [cd_34]; decide +kernel
theorem e_34_35 {d : Nat} {h : mM} {L : mLs} {v : Int32} : ev d 34 35 L [.int v] h = some (some (.int v), h) := ev_ri d_34_35 (by decide +kernel)
-- 35: Works.sacksWaiting
theorem cd_35 : cd 35 = prog_10_method_4_code := rfl
theorem d_35_0 : decode (cd 35) 0 = .ok (.iconst 0, 1) := by rw [cd_35]; decide +kernel
theorem e_35_0 {d : Nat} {h : mM} {L : mLs} {st : List Value} : ev d 35 0 L st h = ev d 35 1 L (.int 0 :: st) h := ev_of d_35_0 rfl
theorem d_35_1 : decode (cd 35) 1 = .ok (.istore_n 1, 1) := by rw [cd_35]; decide +kernel
theorem e_35_1 {d : Nat} {h : mM} {o0 o1 : Option Value} {T : mLs} {x : Int32} {st : List Value} (hl : mLong o0 = false) : ev d 35 1 (o0 :: o1 :: T) (.int x :: st) h = ev d 35 2 (o0 :: some (.int x) :: T) st h := ev_st_in d_35_1 (by decide +kernel) (mS1_s (j := 0) hl)
theorem d_35_2 : decode (cd 35) 2 = .ok (.iconst 0, 1) := by rw [cd_35]; decide +kernel
theorem e_35_2 {d : Nat} {h : mM} {L : mLs} {st : List Value} : ev d 35 2 L st h = ev d 35 3 L (.int 0 :: st) h := ev_of d_35_2 rfl
theorem d_35_3 : decode (cd 35) 3 = .ok (.istore_n 2, 1) := by rw [cd_35]; decide +kernel
theorem e_35_3 {d : Nat} {h : mM} {o0 o1 o2 : Option Value} {T : mLs} {x : Int32} {st : List Value} (hl : mLong o1 = false) : ev d 35 3 (o0 :: o1 :: o2 :: T) (.int x :: st) h = ev d 35 4 (o0 :: o1 :: some (.int x) :: T) st h := ev_st_in d_35_3 (by decide +kernel) (mS1_s (j := 1) hl)
theorem d_35_4 : decode (cd 35) 4 = .ok (.iload_n 2, 1) := by rw [cd_35]; decide +kernel
theorem e_35_4 {d : Nat} {h : mM} {o0 o1 : Option Value} {T : mLs} {x : Int32} {st : List Value} : ev d 35 4 (o0 :: o1 :: some (.int x) :: T) st h = ev d 35 5 (o0 :: o1 :: some (.int x) :: T) (.int x :: st) h := ev_of d_35_4 rfl
theorem d_35_5 : decode (cd 35) 5 = .ok (.aload_n 0, 1) := by rw [cd_35]; decide +kernel
theorem e_35_5 {d : Nat} {h : mM} {T : mLs} {x : Nat} {st : List Value} : ev d 35 5 ( some (.ref x) :: T) st h = ev d 35 6 ( some (.ref x) :: T) (.ref x :: st) h := ev_of d_35_5 rfl
theorem d_35_6 : decode (cd 35) 6 = .ok (.getfield 40, 3) := by rw [cd_35]; decide +kernel
theorem e_35_6 {d : Nat} {h : mM} {L : mLs} {st : List Value} {a : Nat} : ev d 35 6 L (.ref a :: st) h = if mK h a = 8 then ev d 35 9 L (.int (mI h a 6) :: st) h else none := ev_gI d_35_6 (by decide +kernel) (by decide +kernel)
theorem d_35_9 : decode (cd 35) 9 = .ok (.if_icmp .ge 21, 3) := by rw [cd_35]; decide +kernel
theorem e_35_9 {d : Nat} {h : mM} {L : mLs} {st : List Value} {x y : Int32} : ev d 35 9 L (.int y :: .int x :: st) h = if y ≤ x then ev d 35 30 L st h else ev d 35 12 L st h := ev_ic (y ≤ x) inferInstance rfl d_35_9 (by decide)
theorem d_35_12 : decode (cd 35) 12 = .ok (.iload_n 1, 1) := by rw [cd_35]; decide +kernel
theorem e_35_12 {d : Nat} {h : mM} {o0 : Option Value} {T : mLs} {x : Int32} {st : List Value} : ev d 35 12 (o0 :: some (.int x) :: T) st h = ev d 35 13 (o0 :: some (.int x) :: T) (.int x :: st) h := ev_of d_35_12 rfl
theorem d_35_13 : decode (cd 35) 13 = .ok (.aload_n 0, 1) := by rw [cd_35]; decide +kernel
theorem e_35_13 {d : Nat} {h : mM} {T : mLs} {x : Nat} {st : List Value} : ev d 35 13 ( some (.ref x) :: T) st h = ev d 35 14 ( some (.ref x) :: T) (.ref x :: st) h := ev_of d_35_13 rfl
theorem d_35_14 : decode (cd 35) 14 = .ok (.getfield 25, 3) := by rw [cd_35]; decide +kernel
theorem e_35_14 {d : Nat} {h : mM} {L : mLs} {st : List Value} {a : Nat} : ev d 35 14 L (.ref a :: st) h = if mK h a = 8 then oB (mR h a 2) (fun b => ev d 35 17 L (.ref b :: st) h) else none := ev_gR d_35_14 (by decide +kernel) (by decide +kernel)
theorem d_35_17 : decode (cd 35) 17 = .ok (.iload_n 2, 1) := by rw [cd_35]; decide +kernel
theorem e_35_17 {d : Nat} {h : mM} {o0 o1 : Option Value} {T : mLs} {x : Int32} {st : List Value} : ev d 35 17 (o0 :: o1 :: some (.int x) :: T) st h = ev d 35 18 (o0 :: o1 :: some (.int x) :: T) (.int x :: st) h := ev_of d_35_17 rfl
theorem d_35_18 : decode (cd 35) 18 = .ok (.aaload, 1) := by rw [cd_35]; decide +kernel
theorem e_35_18 {d : Nat} {h : mM} {L : mLs} {st : List Value} {a : Nat} {i : Int32} : ev d 35 18 L (.int i :: .ref a :: st) h = if (12 < mK h a ∧ mK h a < 19) ∧ ixOK i (mL h a) = true then oB (mR h a i.toNatClampNeg) (fun b => ev d 35 19 L (.ref b :: st) h) else none := ev_aa d_35_18
theorem d_35_19 : decode (cd 35) 19 = .ok (.getfield 52, 3) := by rw [cd_35]; decide +kernel
theorem e_35_19 {d : Nat} {h : mM} {L : mLs} {st : List Value} {a : Nat} : ev d 35 19 L (.ref a :: st) h = if mK h a = 2 then ev d 35 22 L (.int (mI h a 8) :: st) h else none := ev_gI d_35_19 (by decide +kernel) (by decide +kernel)
theorem d_35_22 : decode (cd 35) 22 = .ok (.iadd, 1) := by rw [cd_35]; decide +kernel
theorem e_35_22 {d : Nat} {h : mM} {L : mLs} {st : List Value} {x y : Int32} : ev d 35 22 L (.int y :: .int x :: st) h = ev d 35 23 L (.int (x + y) :: st) h := ev_of d_35_22 rfl
theorem d_35_23 : decode (cd 35) 23 = .ok (.istore_n 1, 1) := by rw [cd_35]; decide +kernel
theorem e_35_23 {d : Nat} {h : mM} {o0 o1 : Option Value} {T : mLs} {x : Int32} {st : List Value} (hl : mLong o0 = false) : ev d 35 23 (o0 :: o1 :: T) (.int x :: st) h = ev d 35 24 (o0 :: some (.int x) :: T) st h := ev_st_in d_35_23 (by decide +kernel) (mS1_s (j := 0) hl)
theorem d_35_24 : decode (cd 35) 24 = .ok (.iinc 2 1, 3) := by rw [cd_35]; decide +kernel
theorem e_35_24 {d : Nat} {h : mM} {o0 o1 : Option Value} {T : mLs} {x : Int32} {st : List Value} (hl : mLong o1 = false) : ev d 35 24 (o0 :: o1 :: some (.int x) :: T) st h = ev d 35 27 (o0 :: o1 :: some (.int (x + 1)) :: T) st h := ev_inc d_35_24 (by decide +kernel) rfl rfl (mS1_s (j := 1) hl)
theorem d_35_27 : decode (cd 35) 27 = .ok (.goto (-23), 3) := by rw [cd_35]; decide +kernel
theorem e_35_27 {d : Nat} {h : mM} {L : mLs} {st : List Value} : ev d 35 27 L st h = ev d 35 4 L st h := ev_go d_35_27 (by decide)
theorem d_35_30 : decode (cd 35) 30 = .ok (.iload_n 1, 1) := by rw [cd_35]; decide +kernel
theorem e_35_30 {d : Nat} {h : mM} {o0 : Option Value} {T : mLs} {x : Int32} {st : List Value} : ev d 35 30 (o0 :: some (.int x) :: T) st h = ev d 35 31 (o0 :: some (.int x) :: T) (.int x :: st) h := ev_of d_35_30 rfl
theorem d_35_31 : decode (cd 35) 31 = .ok (.ireturn, 1) := by rw [cd_35]; decide +kernel
theorem e_35_31 {d : Nat} {h : mM} {L : mLs} {v : Int32} : ev d 35 31 L [.int v] h = some (some (.int v), h) := ev_ri d_35_31 (by decide +kernel)
-- 36: Works.keptFrom
theorem cd_36 : cd 36 = prog_10_method_5_code := rfl
theorem d_36_0 : decode (cd 36) 0 = .ok (.iconst 0, 1) := by rw [cd_36]; decide +kernel
theorem e_36_0 {d : Nat} {h : mM} {L : mLs} {st : List Value} : ev d 36 0 L st h = ev d 36 1 L (.int 0 :: st) h := ev_of d_36_0 rfl
theorem d_36_1 : decode (cd 36) 1 = .ok (.istore_n 2, 1) := by rw [cd_36]; decide +kernel
theorem e_36_1 {d : Nat} {h : mM} {o0 o1 o2 : Option Value} {T : mLs} {x : Int32} {st : List Value} (hl : mLong o1 = false) : ev d 36 1 (o0 :: o1 :: o2 :: T) (.int x :: st) h = ev d 36 2 (o0 :: o1 :: some (.int x) :: T) st h := ev_st_in d_36_1 (by decide +kernel) (mS1_s (j := 1) hl)
theorem d_36_2 : decode (cd 36) 2 = .ok (.iconst 0, 1) := by rw [cd_36]; decide +kernel
theorem e_36_2 {d : Nat} {h : mM} {L : mLs} {st : List Value} : ev d 36 2 L st h = ev d 36 3 L (.int 0 :: st) h := ev_of d_36_2 rfl
theorem d_36_3 : decode (cd 36) 3 = .ok (.istore_n 3, 1) := by rw [cd_36]; decide +kernel
theorem e_36_3 {d : Nat} {h : mM} {o0 o1 o2 o3 : Option Value} {T : mLs} {x : Int32} {st : List Value} (hl : mLong o2 = false) : ev d 36 3 (o0 :: o1 :: o2 :: o3 :: T) (.int x :: st) h = ev d 36 4 (o0 :: o1 :: o2 :: some (.int x) :: T) st h := ev_st_in d_36_3 (by decide +kernel) (mS1_s (j := 2) hl)
theorem d_36_4 : decode (cd 36) 4 = .ok (.iload_n 3, 1) := by rw [cd_36]; decide +kernel
theorem e_36_4 {d : Nat} {h : mM} {o0 o1 o2 : Option Value} {T : mLs} {x : Int32} {st : List Value} : ev d 36 4 (o0 :: o1 :: o2 :: some (.int x) :: T) st h = ev d 36 5 (o0 :: o1 :: o2 :: some (.int x) :: T) (.int x :: st) h := ev_of d_36_4 rfl
theorem d_36_5 : decode (cd 36) 5 = .ok (.aload_n 0, 1) := by rw [cd_36]; decide +kernel
theorem e_36_5 {d : Nat} {h : mM} {T : mLs} {x : Nat} {st : List Value} : ev d 36 5 ( some (.ref x) :: T) st h = ev d 36 6 ( some (.ref x) :: T) (.ref x :: st) h := ev_of d_36_5 rfl
theorem d_36_6 : decode (cd 36) 6 = .ok (.getfield 40, 3) := by rw [cd_36]; decide +kernel
theorem e_36_6 {d : Nat} {h : mM} {L : mLs} {st : List Value} {a : Nat} : ev d 36 6 L (.ref a :: st) h = if mK h a = 8 then ev d 36 9 L (.int (mI h a 6) :: st) h else none := ev_gI d_36_6 (by decide +kernel) (by decide +kernel)
theorem d_36_9 : decode (cd 36) 9 = .ok (.if_icmp .ge 51, 3) := by rw [cd_36]; decide +kernel
theorem e_36_9 {d : Nat} {h : mM} {L : mLs} {st : List Value} {x y : Int32} : ev d 36 9 L (.int y :: .int x :: st) h = if y ≤ x then ev d 36 60 L st h else ev d 36 12 L st h := ev_ic (y ≤ x) inferInstance rfl d_36_9 (by decide)
theorem d_36_12 : decode (cd 36) 12 = .ok (.aload_n 0, 1) := by rw [cd_36]; decide +kernel
theorem e_36_12 {d : Nat} {h : mM} {T : mLs} {x : Nat} {st : List Value} : ev d 36 12 ( some (.ref x) :: T) st h = ev d 36 13 ( some (.ref x) :: T) (.ref x :: st) h := ev_of d_36_12 rfl
theorem d_36_13 : decode (cd 36) 13 = .ok (.getfield 25, 3) := by rw [cd_36]; decide +kernel
theorem e_36_13 {d : Nat} {h : mM} {L : mLs} {st : List Value} {a : Nat} : ev d 36 13 L (.ref a :: st) h = if mK h a = 8 then oB (mR h a 2) (fun b => ev d 36 16 L (.ref b :: st) h) else none := ev_gR d_36_13 (by decide +kernel) (by decide +kernel)
theorem d_36_16 : decode (cd 36) 16 = .ok (.iload_n 3, 1) := by rw [cd_36]; decide +kernel
theorem e_36_16 {d : Nat} {h : mM} {o0 o1 o2 : Option Value} {T : mLs} {x : Int32} {st : List Value} : ev d 36 16 (o0 :: o1 :: o2 :: some (.int x) :: T) st h = ev d 36 17 (o0 :: o1 :: o2 :: some (.int x) :: T) (.int x :: st) h := ev_of d_36_16 rfl
theorem d_36_17 : decode (cd 36) 17 = .ok (.aaload, 1) := by rw [cd_36]; decide +kernel
theorem e_36_17 {d : Nat} {h : mM} {L : mLs} {st : List Value} {a : Nat} {i : Int32} : ev d 36 17 L (.int i :: .ref a :: st) h = if (12 < mK h a ∧ mK h a < 19) ∧ ixOK i (mL h a) = true then oB (mR h a i.toNatClampNeg) (fun b => ev d 36 18 L (.ref b :: st) h) else none := ev_aa d_36_17
theorem d_36_18 : decode (cd 36) 18 = .ok (.astore 4, 2) := by rw [cd_36]; decide +kernel
theorem e_36_18 {d : Nat} {h : mM} {o0 o1 o2 o3 o4 : Option Value} {T : mLs} {x : Nat} {st : List Value} (hl : mLong o3 = false) : ev d 36 18 (o0 :: o1 :: o2 :: o3 :: o4 :: T) (.ref x :: st) h = ev d 36 20 (o0 :: o1 :: o2 :: o3 :: some (.ref x) :: T) st h := ev_st_r d_36_18 (by decide +kernel) (mS1_s (j := 3) hl)
theorem d_36_20 : decode (cd 36) 20 = .ok (.aload 4, 2) := by rw [cd_36]; decide +kernel
theorem e_36_20 {d : Nat} {h : mM} {o0 o1 o2 o3 : Option Value} {T : mLs} {x : Nat} {st : List Value} : ev d 36 20 (o0 :: o1 :: o2 :: o3 :: some (.ref x) :: T) st h = ev d 36 22 (o0 :: o1 :: o2 :: o3 :: some (.ref x) :: T) (.ref x :: st) h := ev_of d_36_20 rfl
theorem d_36_22 : decode (cd 36) 22 = .ok (.getfield 49, 3) := by rw [cd_36]; decide +kernel
theorem e_36_22 {d : Nat} {h : mM} {L : mLs} {st : List Value} {a : Nat} : ev d 36 22 L (.ref a :: st) h = if mK h a = 2 then ev d 36 25 L (.int (mI h a 3) :: st) h else none := ev_gI d_36_22 (by decide +kernel) (by decide +kernel)
theorem d_36_25 : decode (cd 36) 25 = .ok (.aload_n 1, 1) := by rw [cd_36]; decide +kernel
theorem e_36_25 {d : Nat} {h : mM} {o0 : Option Value} {T : mLs} {x : Nat} {st : List Value} : ev d 36 25 (o0 :: some (.ref x) :: T) st h = ev d 36 26 (o0 :: some (.ref x) :: T) (.ref x :: st) h := ev_of d_36_25 rfl
theorem d_36_26 : decode (cd 36) 26 = .ok (.getfield 49, 3) := by rw [cd_36]; decide +kernel
theorem e_36_26 {d : Nat} {h : mM} {L : mLs} {st : List Value} {a : Nat} : ev d 36 26 L (.ref a :: st) h = if mK h a = 2 then ev d 36 29 L (.int (mI h a 3) :: st) h else none := ev_gI d_36_26 (by decide +kernel) (by decide +kernel)
theorem d_36_29 : decode (cd 36) 29 = .ok (.if_icmp .ne 25, 3) := by rw [cd_36]; decide +kernel
theorem e_36_29 {d : Nat} {h : mM} {L : mLs} {st : List Value} {x y : Int32} : ev d 36 29 L (.int y :: .int x :: st) h = if ¬ x = y then ev d 36 54 L st h else ev d 36 32 L st h := ev_ic (¬ x = y) inferInstance rfl d_36_29 (by decide)
theorem d_36_32 : decode (cd 36) 32 = .ok (.aload 4, 2) := by rw [cd_36]; decide +kernel
theorem e_36_32 {d : Nat} {h : mM} {o0 o1 o2 o3 : Option Value} {T : mLs} {x : Nat} {st : List Value} : ev d 36 32 (o0 :: o1 :: o2 :: o3 :: some (.ref x) :: T) st h = ev d 36 34 (o0 :: o1 :: o2 :: o3 :: some (.ref x) :: T) (.ref x :: st) h := ev_of d_36_32 rfl
theorem d_36_34 : decode (cd 36) 34 = .ok (.getfield 46, 3) := by rw [cd_36]; decide +kernel
theorem e_36_34 {d : Nat} {h : mM} {L : mLs} {st : List Value} {a : Nat} : ev d 36 34 L (.ref a :: st) h = if mK h a = 2 then ev d 36 37 L (.int (mI h a 4) :: st) h else none := ev_gI d_36_34 (by decide +kernel) (by decide +kernel)
theorem d_36_37 : decode (cd 36) 37 = .ok (.aload_n 1, 1) := by rw [cd_36]; decide +kernel
theorem e_36_37 {d : Nat} {h : mM} {o0 : Option Value} {T : mLs} {x : Nat} {st : List Value} : ev d 36 37 (o0 :: some (.ref x) :: T) st h = ev d 36 38 (o0 :: some (.ref x) :: T) (.ref x :: st) h := ev_of d_36_37 rfl
theorem d_36_38 : decode (cd 36) 38 = .ok (.getfield 46, 3) := by rw [cd_36]; decide +kernel
theorem e_36_38 {d : Nat} {h : mM} {L : mLs} {st : List Value} {a : Nat} : ev d 36 38 L (.ref a :: st) h = if mK h a = 2 then ev d 36 41 L (.int (mI h a 4) :: st) h else none := ev_gI d_36_38 (by decide +kernel) (by decide +kernel)
theorem d_36_41 : decode (cd 36) 41 = .ok (.if_icmp .ge 13, 3) := by rw [cd_36]; decide +kernel
theorem e_36_41 {d : Nat} {h : mM} {L : mLs} {st : List Value} {x y : Int32} : ev d 36 41 L (.int y :: .int x :: st) h = if y ≤ x then ev d 36 54 L st h else ev d 36 44 L st h := ev_ic (y ≤ x) inferInstance rfl d_36_41 (by decide)
theorem d_36_44 : decode (cd 36) 44 = .ok (.iload_n 2, 1) := by rw [cd_36]; decide +kernel
theorem e_36_44 {d : Nat} {h : mM} {o0 o1 : Option Value} {T : mLs} {x : Int32} {st : List Value} : ev d 36 44 (o0 :: o1 :: some (.int x) :: T) st h = ev d 36 45 (o0 :: o1 :: some (.int x) :: T) (.int x :: st) h := ev_of d_36_44 rfl
theorem d_36_45 : decode (cd 36) 45 = .ok (.aload 4, 2) := by rw [cd_36]; decide +kernel
theorem e_36_45 {d : Nat} {h : mM} {o0 o1 o2 o3 : Option Value} {T : mLs} {x : Nat} {st : List Value} : ev d 36 45 (o0 :: o1 :: o2 :: o3 :: some (.ref x) :: T) st h = ev d 36 47 (o0 :: o1 :: o2 :: o3 :: some (.ref x) :: T) (.ref x :: st) h := ev_of d_36_45 rfl
theorem d_36_47 : decode (cd 36) 47 = .ok (.getfield 55, 3) := by rw [cd_36]; decide +kernel
theorem e_36_47 {d : Nat} {h : mM} {L : mLs} {st : List Value} {a : Nat} : ev d 36 47 L (.ref a :: st) h = if mK h a = 2 then ev d 36 50 L (.int (mI h a 5) :: st) h else none := ev_gI d_36_47 (by decide +kernel) (by decide +kernel)
theorem d_36_50 : decode (cd 36) 50 = .ok (.invokestatic 58, 3) := by rw [cd_36]; decide +kernel
theorem e_36_50 {d : Nat} {h : mM} {L : mLs} {st : List Value} {x y : Int32} (hc : mCat st ≤ 8) : ev d 36 50 L (.int y :: .int x :: st) h = ev d 36 53 L (.int (if x < y then y else x) :: st) h := ev_max (mj := 0) d_36_50 (by decide +kernel) hc
theorem d_36_53 : decode (cd 36) 53 = .ok (.istore_n 2, 1) := by rw [cd_36]; decide +kernel
theorem e_36_53 {d : Nat} {h : mM} {o0 o1 o2 : Option Value} {T : mLs} {x : Int32} {st : List Value} (hl : mLong o1 = false) : ev d 36 53 (o0 :: o1 :: o2 :: T) (.int x :: st) h = ev d 36 54 (o0 :: o1 :: some (.int x) :: T) st h := ev_st_in d_36_53 (by decide +kernel) (mS1_s (j := 1) hl)
theorem d_36_54 : decode (cd 36) 54 = .ok (.iinc 3 1, 3) := by rw [cd_36]; decide +kernel
theorem e_36_54 {d : Nat} {h : mM} {o0 o1 o2 : Option Value} {T : mLs} {x : Int32} {st : List Value} (hl : mLong o2 = false) : ev d 36 54 (o0 :: o1 :: o2 :: some (.int x) :: T) st h = ev d 36 57 (o0 :: o1 :: o2 :: some (.int (x + 1)) :: T) st h := ev_inc d_36_54 (by decide +kernel) rfl rfl (mS1_s (j := 2) hl)
theorem d_36_57 : decode (cd 36) 57 = .ok (.goto (-53), 3) := by rw [cd_36]; decide +kernel
theorem e_36_57 {d : Nat} {h : mM} {L : mLs} {st : List Value} : ev d 36 57 L st h = ev d 36 4 L st h := ev_go d_36_57 (by decide)
theorem d_36_60 : decode (cd 36) 60 = .ok (.aload_n 0, 1) := by rw [cd_36]; decide +kernel
theorem e_36_60 {d : Nat} {h : mM} {T : mLs} {x : Nat} {st : List Value} : ev d 36 60 ( some (.ref x) :: T) st h = ev d 36 61 ( some (.ref x) :: T) (.ref x :: st) h := ev_of d_36_60 rfl
theorem d_36_61 : decode (cd 36) 61 = .ok (.getfield 11, 3) := by rw [cd_36]; decide +kernel
theorem e_36_61 {d : Nat} {h : mM} {L : mLs} {st : List Value} {a : Nat} : ev d 36 61 L (.ref a :: st) h = if mK h a = 8 then oB (mR h a 0) (fun b => ev d 36 64 L (.ref b :: st) h) else none := ev_gR d_36_61 (by decide +kernel) (by decide +kernel)
theorem d_36_64 : decode (cd 36) 64 = .ok (.aload_n 1, 1) := by rw [cd_36]; decide +kernel
theorem e_36_64 {d : Nat} {h : mM} {o0 : Option Value} {T : mLs} {x : Nat} {st : List Value} : ev d 36 64 (o0 :: some (.ref x) :: T) st h = ev d 36 65 (o0 :: some (.ref x) :: T) (.ref x :: st) h := ev_of d_36_64 rfl
theorem d_36_65 : decode (cd 36) 65 = .ok (.getfield 49, 3) := by rw [cd_36]; decide +kernel
theorem e_36_65 {d : Nat} {h : mM} {L : mLs} {st : List Value} {a : Nat} : ev d 36 65 L (.ref a :: st) h = if mK h a = 2 then ev d 36 68 L (.int (mI h a 3) :: st) h else none := ev_gI d_36_65 (by decide +kernel) (by decide +kernel)
theorem d_36_68 : decode (cd 36) 68 = .ok (.aaload, 1) := by rw [cd_36]; decide +kernel
theorem e_36_68 {d : Nat} {h : mM} {L : mLs} {st : List Value} {a : Nat} {i : Int32} : ev d 36 68 L (.int i :: .ref a :: st) h = if (12 < mK h a ∧ mK h a < 19) ∧ ixOK i (mL h a) = true then oB (mR h a i.toNatClampNeg) (fun b => ev d 36 69 L (.ref b :: st) h) else none := ev_aa d_36_68
theorem d_36_69 : decode (cd 36) 69 = .ok (.getfield 64, 3) := by rw [cd_36]; decide +kernel
theorem e_36_69 {d : Nat} {h : mM} {L : mLs} {st : List Value} {a : Nat} : ev d 36 69 L (.ref a :: st) h = if mK h a = 3 then ev d 36 72 L (.int (mI h a 0) :: st) h else none := ev_gI d_36_69 (by decide +kernel) (by decide +kernel)
theorem d_36_72 : decode (cd 36) 72 = .ok (.iload_n 2, 1) := by rw [cd_36]; decide +kernel
theorem e_36_72 {d : Nat} {h : mM} {o0 o1 : Option Value} {T : mLs} {x : Int32} {st : List Value} : ev d 36 72 (o0 :: o1 :: some (.int x) :: T) st h = ev d 36 73 (o0 :: o1 :: some (.int x) :: T) (.int x :: st) h := ev_of d_36_72 rfl
theorem d_36_73 : decode (cd 36) 73 = .ok (.imul, 1) := by rw [cd_36]; decide +kernel
theorem e_36_73 {d : Nat} {h : mM} {L : mLs} {st : List Value} {x y : Int32} : ev d 36 73 L (.int y :: .int x :: st) h = ev d 36 74 L (.int (x * y) :: st) h := ev_of d_36_73 rfl
theorem d_36_74 : decode (cd 36) 74 = .ok (.ireturn, 1) := by rw [cd_36]; decide +kernel
theorem e_36_74 {d : Nat} {h : mM} {L : mLs} {v : Int32} : ev d 36 74 L [.int v] h = some (some (.int v), h) := ev_ri d_36_74 (by decide +kernel)
