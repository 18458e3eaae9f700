-- decode rows and equations, by gen_ev.py
-- 122: Law.law
theorem cd_122 : cd 122 = code := rfl
theorem d_122_0 : decode (cd 122) 0 = .ok (.new 7, 3) := by rw [cd_122]; decide +kernel
theorem e_122_0 {d : Nat} {h : mM} {L : mLs} {st : List Value} : ev d 122 0 L st h = ev d 122 3 L (.ref (mN h) :: st) (wN h 9 16) := ev_new d_122_0 (by decide +kernel)
theorem d_122_3 : decode (cd 122) 3 = .ok (.dup, 1) := by rw [cd_122]; decide +kernel
theorem e_122_3r {d : Nat} {h : mM} {L : mLs} {st : List Value} {a : Nat} : ev d 122 3 L (.ref a :: st) h = ev d 122 4 L (.ref a :: .ref a :: st) h := ev_of d_122_3 rfl
theorem e_122_3i {d : Nat} {h : mM} {L : mLs} {st : List Value} {x : Int32} : ev d 122 3 L (.int x :: st) h = ev d 122 4 L (.int x :: .int x :: st) h := ev_of d_122_3 rfl
theorem d_122_4 : decode (cd 122) 4 = .ok (.invokespecial 9, 3) := by rw [cd_122]; decide +kernel
theorem e_122_4 {d : Nat} {h : mM} {L : mLs} {st : List Value} {a : Nat} (hc : mCat st ≤ 8) : ev (d + 1) 122 4 L (.ref a :: st) h = cV (ev d 37 0 [some (.ref a)] [] h) (fun v h1 => ev (d + 1) 122 7 L (v ++ st) h1) := ev_ci (kd := 2) (mj := 37) (as := []) (rest := st) d_122_4 (by decide +kernel) (by decide) rfl rfl (by show _ ≤ List.length _; simp only [List.length_cons]; have : na 37 = 0 := rfl; omega) rfl (Nat.le_of_ble_eq_true rfl) hc
theorem d_122_7 : decode (cd 122) 7 = .ok (.astore_n 1, 1) := by rw [cd_122]; decide +kernel
theorem e_122_7 {d : Nat} {h : mM} {o0 o1 : Option Value} {T : mLs} {x : Nat} {st : List Value} (hl : mLong o0 = false) : ev d 122 7 (o0 :: o1 :: T) (.ref x :: st) h = ev d 122 8 (o0 :: some (.ref x) :: T) st h := ev_st_rn d_122_7 (by decide +kernel) (mS1_s (j := 0) hl)
theorem d_122_8 : decode (cd 122) 8 = .ok (.new 10, 3) := by rw [cd_122]; decide +kernel
theorem e_122_8 {d : Nat} {h : mM} {L : mLs} {st : List Value} : ev d 122 8 L st h = ev d 122 11 L (.ref (mN h) :: st) (wN h 10 37) := ev_new d_122_8 (by decide +kernel)
theorem d_122_11 : decode (cd 122) 11 = .ok (.dup, 1) := by rw [cd_122]; decide +kernel
theorem e_122_11r {d : Nat} {h : mM} {L : mLs} {st : List Value} {a : Nat} : ev d 122 11 L (.ref a :: st) h = ev d 122 12 L (.ref a :: .ref a :: st) h := ev_of d_122_11 rfl
theorem e_122_11i {d : Nat} {h : mM} {L : mLs} {st : List Value} {x : Int32} : ev d 122 11 L (.int x :: st) h = ev d 122 12 L (.int x :: .int x :: st) h := ev_of d_122_11 rfl
theorem d_122_12 : decode (cd 122) 12 = .ok (.invokespecial 12, 3) := by rw [cd_122]; decide +kernel
theorem e_122_12 {d : Nat} {h : mM} {L : mLs} {st : List Value} {a : Nat} (hc : mCat st ≤ 8) : ev (d + 1) 122 12 L (.ref a :: st) h = cV (ev d 78 0 [some (.ref a), none] [] h) (fun v h1 => ev (d + 1) 122 15 L (v ++ st) h1) := ev_ci (kd := 2) (mj := 78) (as := []) (rest := st) d_122_12 (by decide +kernel) (by decide) rfl rfl (by show _ ≤ List.length _; simp only [List.length_cons]; have : na 78 = 0 := rfl; omega) rfl (Nat.le_of_ble_eq_true rfl) hc
theorem d_122_15 : decode (cd 122) 15 = .ok (.astore_n 2, 1) := by rw [cd_122]; decide +kernel
theorem e_122_15 {d : Nat} {h : mM} {o0 o1 o2 : Option Value} {T : mLs} {x : Nat} {st : List Value} (hl : mLong o1 = false) : ev d 122 15 (o0 :: o1 :: o2 :: T) (.ref x :: st) h = ev d 122 16 (o0 :: o1 :: some (.ref x) :: T) st h := ev_st_rn d_122_15 (by decide +kernel) (mS1_s (j := 1) hl)
theorem d_122_16 : decode (cd 122) 16 = .ok (.iconst 0, 1) := by rw [cd_122]; decide +kernel
theorem e_122_16 {d : Nat} {h : mM} {L : mLs} {st : List Value} : ev d 122 16 L st h = ev d 122 17 L (.int 0 :: st) h := ev_of d_122_16 rfl
theorem d_122_17 : decode (cd 122) 17 = .ok (.istore_n 3, 1) := by rw [cd_122]; decide +kernel
theorem e_122_17 {d : Nat} {h : mM} {o0 o1 o2 o3 : Option Value} {T : mLs} {x : Int32} {st : List Value} (hl : mLong o2 = false) : ev d 122 17 (o0 :: o1 :: o2 :: o3 :: T) (.int x :: st) h = ev d 122 18 (o0 :: o1 :: o2 :: some (.int x) :: T) st h := ev_st_in d_122_17 (by decide +kernel) (mS1_s (j := 2) hl)
theorem d_122_18 : decode (cd 122) 18 = .ok (.iload_n 3, 1) := by rw [cd_122]; decide +kernel
theorem e_122_18 {d : Nat} {h : mM} {o0 o1 o2 : Option Value} {T : mLs} {x : Int32} {st : List Value} : ev d 122 18 (o0 :: o1 :: o2 :: some (.int x) :: T) st h = ev d 122 19 (o0 :: o1 :: o2 :: some (.int x) :: T) (.int x :: st) h := ev_of d_122_18 rfl
theorem d_122_19 : decode (cd 122) 19 = .ok (.aload_n 0, 1) := by rw [cd_122]; decide +kernel
theorem e_122_19 {d : Nat} {h : mM} {T : mLs} {x : Nat} {st : List Value} : ev d 122 19 ( some (.ref x) :: T) st h = ev d 122 20 ( some (.ref x) :: T) (.ref x :: st) h := ev_of d_122_19 rfl
theorem d_122_20 : decode (cd 122) 20 = .ok (.arraylength, 1) := by rw [cd_122]; decide +kernel
theorem e_122_20 {d : Nat} {h : mM} {L : mLs} {st : List Value} {a : Nat} : ev d 122 20 L (.ref a :: st) h = if mK h a = 19 then ev d 122 21 L (.int (Int32.ofNat (mL h a)) :: st) h else none := ev_len d_122_20
theorem d_122_21 : decode (cd 122) 21 = .ok (.bipush 6, 2) := by rw [cd_122]; decide +kernel
theorem e_122_21 {d : Nat} {h : mM} {L : mLs} {st : List Value} : ev d 122 21 L st h = ev d 122 23 L (.int 6 :: st) h := ev_of d_122_21 rfl
theorem d_122_23 : decode (cd 122) 23 = .ok (.isub, 1) := by rw [cd_122]; decide +kernel
theorem e_122_23 {d : Nat} {h : mM} {L : mLs} {st : List Value} {x y : Int32} : ev d 122 23 L (.int y :: .int x :: st) h = ev d 122 24 L (.int (x - y) :: st) h := ev_of d_122_23 rfl
theorem d_122_24 : decode (cd 122) 24 = .ok (.if_icmp .gt 1064, 3) := by rw [cd_122]; decide +kernel
theorem e_122_24 {d : Nat} {h : mM} {L : mLs} {st : List Value} {x y : Int32} : ev d 122 24 L (.int y :: .int x :: st) h = if y < x then ev d 122 1088 L st h else ev d 122 27 L st h := ev_ic (y < x) inferInstance rfl d_122_24 (by decide)
theorem d_122_27 : decode (cd 122) 27 = .ok (.aload_n 0, 1) := by rw [cd_122]; decide +kernel
theorem e_122_27 {d : Nat} {h : mM} {T : mLs} {x : Nat} {st : List Value} : ev d 122 27 ( some (.ref x) :: T) st h = ev d 122 28 ( some (.ref x) :: T) (.ref x :: st) h := ev_of d_122_27 rfl
theorem d_122_28 : decode (cd 122) 28 = .ok (.iload_n 3, 1) := by rw [cd_122]; decide +kernel
theorem e_122_28 {d : Nat} {h : mM} {o0 o1 o2 : Option Value} {T : mLs} {x : Int32} {st : List Value} : ev d 122 28 (o0 :: o1 :: o2 :: some (.int x) :: T) st h = ev d 122 29 (o0 :: o1 :: o2 :: some (.int x) :: T) (.int x :: st) h := ev_of d_122_28 rfl
theorem d_122_29 : decode (cd 122) 29 = .ok (.iaload, 1) := by rw [cd_122]; decide +kernel
theorem e_122_29 {d : Nat} {h : mM} {L : mLs} {st : List Value} {a : Nat} {i : Int32} : ev d 122 29 L (.int i :: .ref a :: st) h = if (mK h a = 11 ∨ mK h a = 19) ∧ ixOK i (mL h a) = true then ev d 122 30 L (.int (mI h a i.toNatClampNeg) :: st) h else none := ev_ia d_122_29
theorem d_122_30 : decode (cd 122) 30 = .ok (.bipush 31, 2) := by rw [cd_122]; decide +kernel
theorem e_122_30 {d : Nat} {h : mM} {L : mLs} {st : List Value} : ev d 122 30 L st h = ev d 122 32 L (.int 31 :: st) h := ev_of d_122_30 rfl
theorem d_122_32 : decode (cd 122) 32 = .ok (.iand, 1) := by rw [cd_122]; decide +kernel
theorem e_122_32 {d : Nat} {h : mM} {L : mLs} {st : List Value} {x y : Int32} : ev d 122 32 L (.int y :: .int x :: st) h = ev d 122 33 L (.int (x &&& y) :: st) h := ev_of d_122_32 rfl
theorem d_122_33 : decode (cd 122) 33 = .ok (.tableswitch 1049 0 25 #[119, 144, 179, 204, 249, 284, 319, 364, 399, 434, 499, 534, 599, 644, 699, 744, 779, 804, 829, 844, 889, 924, 949, 974, 999, 1024], 119) := by rw [cd_122]; decide +kernel
theorem e_122_33 {d : Nat} {h : mM} {L : mLs} {st : List Value} {x : Int32} : ev d 122 33 L (.int x :: st) h = tsF (fun t => ev d 122 t L st h) x [152, 177, 212, 237, 282, 317, 352, 397, 432, 467, 532, 567, 632, 677, 732, 777, 812, 837, 862, 877, 922, 957, 982, 1007, 1032, 1057] 0 (ev d 122 1082 L st h) := ev_ts _ d_122_33 (by decide) (by decide) (by decide)
theorem d_122_152 : decode (cd 122) 152 = .ok (.aload_n 1, 1) := by rw [cd_122]; decide +kernel
theorem e_122_152 {d : Nat} {h : mM} {o0 : Option Value} {T : mLs} {x : Nat} {st : List Value} : ev d 122 152 (o0 :: some (.ref x) :: T) st h = ev d 122 153 (o0 :: some (.ref x) :: T) (.ref x :: st) h := ev_of d_122_152 rfl
theorem d_122_153 : decode (cd 122) 153 = .ok (.aload_n 0, 1) := by rw [cd_122]; decide +kernel
theorem e_122_153 {d : Nat} {h : mM} {T : mLs} {x : Nat} {st : List Value} : ev d 122 153 ( some (.ref x) :: T) st h = ev d 122 154 ( some (.ref x) :: T) (.ref x :: st) h := ev_of d_122_153 rfl
theorem d_122_154 : decode (cd 122) 154 = .ok (.iload_n 3, 1) := by rw [cd_122]; decide +kernel
theorem e_122_154 {d : Nat} {h : mM} {o0 o1 o2 : Option Value} {T : mLs} {x : Int32} {st : List Value} : ev d 122 154 (o0 :: o1 :: o2 :: some (.int x) :: T) st h = ev d 122 155 (o0 :: o1 :: o2 :: some (.int x) :: T) (.int x :: st) h := ev_of d_122_154 rfl
theorem d_122_155 : decode (cd 122) 155 = .ok (.iconst 1, 1) := by rw [cd_122]; decide +kernel
theorem e_122_155 {d : Nat} {h : mM} {L : mLs} {st : List Value} : ev d 122 155 L st h = ev d 122 156 L (.int 1 :: st) h := ev_of d_122_155 rfl
theorem d_122_156 : decode (cd 122) 156 = .ok (.iadd, 1) := by rw [cd_122]; decide +kernel
theorem e_122_156 {d : Nat} {h : mM} {L : mLs} {st : List Value} {x y : Int32} : ev d 122 156 L (.int y :: .int x :: st) h = ev d 122 157 L (.int (x + y) :: st) h := ev_of d_122_156 rfl
theorem d_122_157 : decode (cd 122) 157 = .ok (.iaload, 1) := by rw [cd_122]; decide +kernel
theorem e_122_157 {d : Nat} {h : mM} {L : mLs} {st : List Value} {a : Nat} {i : Int32} : ev d 122 157 L (.int i :: .ref a :: st) h = if (mK h a = 11 ∨ mK h a = 19) ∧ ixOK i (mL h a) = true then ev d 122 158 L (.int (mI h a i.toNatClampNeg) :: st) h else none := ev_ia d_122_157
theorem d_122_158 : decode (cd 122) 158 = .ok (.invokevirtual 13, 3) := by rw [cd_122]; decide +kernel
theorem e_122_158 {d : Nat} {h : mM} {L : mLs} {st : List Value} {a : Nat} {x0 : Int32} (hc : mCat st ≤ 8) : ev (d + 1) 122 158 L (.int x0 :: .ref a :: st) h = if mK h a = 9 then cV (ev d 38 0 [some (.ref a), some (.int x0), none] [] h) (fun v h1 => ev (d + 1) 122 161 L (v ++ st) h1) else none := ev_cv (mj := 38) (as := [.int x0]) (rest := st) d_122_158 (by decide +kernel) rfl rfl (by show _ ≤ List.length _; simp only [List.length_cons]; have : na 38 = 1 := rfl; omega) rfl (Nat.le_of_ble_eq_true rfl) hc
theorem d_122_161 : decode (cd 122) 161 = .ok (.i2l, 1) := by rw [cd_122]; decide +kernel
theorem e_122_161 {d : Nat} {h : mM} {L : mLs} {st : List Value} {x : Int32} : ev d 122 161 L (.int x :: st) h = ev d 122 162 L (.long x.toInt64 :: st) h := ev_of d_122_161 rfl
theorem d_122_162 : decode (cd 122) 162 = .ok (.aload_n 2, 1) := by rw [cd_122]; decide +kernel
theorem e_122_162 {d : Nat} {h : mM} {o0 o1 : Option Value} {T : mLs} {x : Nat} {st : List Value} : ev d 122 162 (o0 :: o1 :: some (.ref x) :: T) st h = ev d 122 163 (o0 :: o1 :: some (.ref x) :: T) (.ref x :: st) h := ev_of d_122_162 rfl
theorem d_122_163 : decode (cd 122) 163 = .ok (.aload_n 0, 1) := by rw [cd_122]; decide +kernel
theorem e_122_163 {d : Nat} {h : mM} {T : mLs} {x : Nat} {st : List Value} : ev d 122 163 ( some (.ref x) :: T) st h = ev d 122 164 ( some (.ref x) :: T) (.ref x :: st) h := ev_of d_122_163 rfl
theorem d_122_164 : decode (cd 122) 164 = .ok (.iload_n 3, 1) := by rw [cd_122]; decide +kernel
theorem e_122_164 {d : Nat} {h : mM} {o0 o1 o2 : Option Value} {T : mLs} {x : Int32} {st : List Value} : ev d 122 164 (o0 :: o1 :: o2 :: some (.int x) :: T) st h = ev d 122 165 (o0 :: o1 :: o2 :: some (.int x) :: T) (.int x :: st) h := ev_of d_122_164 rfl
theorem d_122_165 : decode (cd 122) 165 = .ok (.iconst 1, 1) := by rw [cd_122]; decide +kernel
theorem e_122_165 {d : Nat} {h : mM} {L : mLs} {st : List Value} : ev d 122 165 L st h = ev d 122 166 L (.int 1 :: st) h := ev_of d_122_165 rfl
theorem d_122_166 : decode (cd 122) 166 = .ok (.iadd, 1) := by rw [cd_122]; decide +kernel
theorem e_122_166 {d : Nat} {h : mM} {L : mLs} {st : List Value} {x y : Int32} : ev d 122 166 L (.int y :: .int x :: st) h = ev d 122 167 L (.int (x + y) :: st) h := ev_of d_122_166 rfl
theorem d_122_167 : decode (cd 122) 167 = .ok (.iaload, 1) := by rw [cd_122]; decide +kernel
theorem e_122_167 {d : Nat} {h : mM} {L : mLs} {st : List Value} {a : Nat} {i : Int32} : ev d 122 167 L (.int i :: .ref a :: st) h = if (mK h a = 11 ∨ mK h a = 19) ∧ ixOK i (mL h a) = true then ev d 122 168 L (.int (mI h a i.toNatClampNeg) :: st) h else none := ev_ia d_122_167
theorem d_122_168 : decode (cd 122) 168 = .ok (.invokevirtual 17, 3) := by rw [cd_122]; decide +kernel
theorem e_122_168 {d : Nat} {h : mM} {L : mLs} {st : List Value} {a : Nat} {x0 : Int32} (hc : mCat st ≤ 8) : ev (d + 1) 122 168 L (.int x0 :: .ref a :: st) h = if mK h a = 10 then cV (ev d 83 0 [some (.ref a), some (.int x0), none] [] h) (fun v h1 => ev (d + 1) 122 171 L (v ++ st) h1) else none := ev_cv (mj := 83) (as := [.int x0]) (rest := st) d_122_168 (by decide +kernel) rfl rfl (by show _ ≤ List.length _; simp only [List.length_cons]; have : na 83 = 1 := rfl; omega) rfl (Nat.le_of_ble_eq_true rfl) hc
theorem d_122_171 : decode (cd 122) 171 = .ok (.lcmp, 1) := by rw [cd_122]; decide +kernel
theorem e_122_171 {d : Nat} {h : mM} {L : mLs} {st : List Value} {x y : Int64} : ev d 122 171 L (.long y :: .long x :: st) h = ev d 122 172 L (.int (lg_cmp x y) :: st) h := ev_of d_122_171 rfl
theorem d_122_172 : decode (cd 122) 172 = .ok (.ifCond .eq 910, 3) := by rw [cd_122]; decide +kernel
theorem e_122_172 {d : Nat} {h : mM} {L : mLs} {st : List Value} {x : Int32} : ev d 122 172 L (.int x :: st) h = if x = 0 then ev d 122 1082 L st h else ev d 122 175 L st h := ev_if (x = 0) inferInstance rfl d_122_172 (by decide)
theorem d_122_175 : decode (cd 122) 175 = .ok (.iconst 0, 1) := by rw [cd_122]; decide +kernel
theorem e_122_175 {d : Nat} {h : mM} {L : mLs} {st : List Value} : ev d 122 175 L st h = ev d 122 176 L (.int 0 :: st) h := ev_of d_122_175 rfl
theorem d_122_176 : decode (cd 122) 176 = .ok (.ireturn, 1) := by rw [cd_122]; decide +kernel
theorem e_122_176 {d : Nat} {h : mM} {L : mLs} {v : Int32} : ev d 122 176 L [.int v] h = if mZO v = true then some (some (.int v), h) else none := ev_rz d_122_176 (by decide +kernel)
theorem d_122_177 : decode (cd 122) 177 = .ok (.aload_n 1, 1) := by rw [cd_122]; decide +kernel
theorem e_122_177 {d : Nat} {h : mM} {o0 : Option Value} {T : mLs} {x : Nat} {st : List Value} : ev d 122 177 (o0 :: some (.ref x) :: T) st h = ev d 122 178 (o0 :: some (.ref x) :: T) (.ref x :: st) h := ev_of d_122_177 rfl
theorem d_122_178 : decode (cd 122) 178 = .ok (.aload_n 0, 1) := by rw [cd_122]; decide +kernel
theorem e_122_178 {d : Nat} {h : mM} {T : mLs} {x : Nat} {st : List Value} : ev d 122 178 ( some (.ref x) :: T) st h = ev d 122 179 ( some (.ref x) :: T) (.ref x :: st) h := ev_of d_122_178 rfl
theorem d_122_179 : decode (cd 122) 179 = .ok (.iload_n 3, 1) := by rw [cd_122]; decide +kernel
theorem e_122_179 {d : Nat} {h : mM} {o0 o1 o2 : Option Value} {T : mLs} {x : Int32} {st : List Value} : ev d 122 179 (o0 :: o1 :: o2 :: some (.int x) :: T) st h = ev d 122 180 (o0 :: o1 :: o2 :: some (.int x) :: T) (.int x :: st) h := ev_of d_122_179 rfl
theorem d_122_180 : decode (cd 122) 180 = .ok (.iconst 1, 1) := by rw [cd_122]; decide +kernel
theorem e_122_180 {d : Nat} {h : mM} {L : mLs} {st : List Value} : ev d 122 180 L st h = ev d 122 181 L (.int 1 :: st) h := ev_of d_122_180 rfl
theorem d_122_181 : decode (cd 122) 181 = .ok (.iadd, 1) := by rw [cd_122]; decide +kernel
theorem e_122_181 {d : Nat} {h : mM} {L : mLs} {st : List Value} {x y : Int32} : ev d 122 181 L (.int y :: .int x :: st) h = ev d 122 182 L (.int (x + y) :: st) h := ev_of d_122_181 rfl
theorem d_122_182 : decode (cd 122) 182 = .ok (.iaload, 1) := by rw [cd_122]; decide +kernel
theorem e_122_182 {d : Nat} {h : mM} {L : mLs} {st : List Value} {a : Nat} {i : Int32} : ev d 122 182 L (.int i :: .ref a :: st) h = if (mK h a = 11 ∨ mK h a = 19) ∧ ixOK i (mL h a) = true then ev d 122 183 L (.int (mI h a i.toNatClampNeg) :: st) h else none := ev_ia d_122_182
theorem d_122_183 : decode (cd 122) 183 = .ok (.aload_n 0, 1) := by rw [cd_122]; decide +kernel
theorem e_122_183 {d : Nat} {h : mM} {T : mLs} {x : Nat} {st : List Value} : ev d 122 183 ( some (.ref x) :: T) st h = ev d 122 184 ( some (.ref x) :: T) (.ref x :: st) h := ev_of d_122_183 rfl
theorem d_122_184 : decode (cd 122) 184 = .ok (.iload_n 3, 1) := by rw [cd_122]; decide +kernel
theorem e_122_184 {d : Nat} {h : mM} {o0 o1 o2 : Option Value} {T : mLs} {x : Int32} {st : List Value} : ev d 122 184 (o0 :: o1 :: o2 :: some (.int x) :: T) st h = ev d 122 185 (o0 :: o1 :: o2 :: some (.int x) :: T) (.int x :: st) h := ev_of d_122_184 rfl
theorem d_122_185 : decode (cd 122) 185 = .ok (.iconst 2, 1) := by rw [cd_122]; decide +kernel
theorem e_122_185 {d : Nat} {h : mM} {L : mLs} {st : List Value} : ev d 122 185 L st h = ev d 122 186 L (.int 2 :: st) h := ev_of d_122_185 rfl
theorem d_122_186 : decode (cd 122) 186 = .ok (.iadd, 1) := by rw [cd_122]; decide +kernel
theorem e_122_186 {d : Nat} {h : mM} {L : mLs} {st : List Value} {x y : Int32} : ev d 122 186 L (.int y :: .int x :: st) h = ev d 122 187 L (.int (x + y) :: st) h := ev_of d_122_186 rfl
theorem d_122_187 : decode (cd 122) 187 = .ok (.iaload, 1) := by rw [cd_122]; decide +kernel
theorem e_122_187 {d : Nat} {h : mM} {L : mLs} {st : List Value} {a : Nat} {i : Int32} : ev d 122 187 L (.int i :: .ref a :: st) h = if (mK h a = 11 ∨ mK h a = 19) ∧ ixOK i (mL h a) = true then ev d 122 188 L (.int (mI h a i.toNatClampNeg) :: st) h else none := ev_ia d_122_187
theorem d_122_188 : decode (cd 122) 188 = .ok (.invokevirtual 20, 3) := by rw [cd_122]; decide +kernel
theorem e_122_188 {d : Nat} {h : mM} {L : mLs} {st : List Value} {a : Nat} {x0 : Int32} {x1 : Int32} (hc : mCat st ≤ 8) : ev (d + 1) 122 188 L (.int x1 :: .int x0 :: .ref a :: st) h = if mK h a = 9 then cV (ev d 39 0 [some (.ref a), some (.int x0), some (.int x1), none] [] h) (fun v h1 => ev (d + 1) 122 191 L (v ++ st) h1) else none := ev_cv (mj := 39) (as := [.int x0, .int x1]) (rest := st) d_122_188 (by decide +kernel) rfl rfl (by show _ ≤ List.length _; simp only [List.length_cons]; have : na 39 = 2 := rfl; omega) rfl (Nat.le_of_ble_eq_true rfl) hc
theorem d_122_191 : decode (cd 122) 191 = .ok (.i2l, 1) := by rw [cd_122]; decide +kernel
theorem e_122_191 {d : Nat} {h : mM} {L : mLs} {st : List Value} {x : Int32} : ev d 122 191 L (.int x :: st) h = ev d 122 192 L (.long x.toInt64 :: st) h := ev_of d_122_191 rfl
theorem d_122_192 : decode (cd 122) 192 = .ok (.aload_n 2, 1) := by rw [cd_122]; decide +kernel
theorem e_122_192 {d : Nat} {h : mM} {o0 o1 : Option Value} {T : mLs} {x : Nat} {st : List Value} : ev d 122 192 (o0 :: o1 :: some (.ref x) :: T) st h = ev d 122 193 (o0 :: o1 :: some (.ref x) :: T) (.ref x :: st) h := ev_of d_122_192 rfl
theorem d_122_193 : decode (cd 122) 193 = .ok (.aload_n 0, 1) := by rw [cd_122]; decide +kernel
theorem e_122_193 {d : Nat} {h : mM} {T : mLs} {x : Nat} {st : List Value} : ev d 122 193 ( some (.ref x) :: T) st h = ev d 122 194 ( some (.ref x) :: T) (.ref x :: st) h := ev_of d_122_193 rfl
theorem d_122_194 : decode (cd 122) 194 = .ok (.iload_n 3, 1) := by rw [cd_122]; decide +kernel
theorem e_122_194 {d : Nat} {h : mM} {o0 o1 o2 : Option Value} {T : mLs} {x : Int32} {st : List Value} : ev d 122 194 (o0 :: o1 :: o2 :: some (.int x) :: T) st h = ev d 122 195 (o0 :: o1 :: o2 :: some (.int x) :: T) (.int x :: st) h := ev_of d_122_194 rfl
theorem d_122_195 : decode (cd 122) 195 = .ok (.iconst 1, 1) := by rw [cd_122]; decide +kernel
theorem e_122_195 {d : Nat} {h : mM} {L : mLs} {st : List Value} : ev d 122 195 L st h = ev d 122 196 L (.int 1 :: st) h := ev_of d_122_195 rfl
theorem d_122_196 : decode (cd 122) 196 = .ok (.iadd, 1) := by rw [cd_122]; decide +kernel
theorem e_122_196 {d : Nat} {h : mM} {L : mLs} {st : List Value} {x y : Int32} : ev d 122 196 L (.int y :: .int x :: st) h = ev d 122 197 L (.int (x + y) :: st) h := ev_of d_122_196 rfl
theorem d_122_197 : decode (cd 122) 197 = .ok (.iaload, 1) := by rw [cd_122]; decide +kernel
theorem e_122_197 {d : Nat} {h : mM} {L : mLs} {st : List Value} {a : Nat} {i : Int32} : ev d 122 197 L (.int i :: .ref a :: st) h = if (mK h a = 11 ∨ mK h a = 19) ∧ ixOK i (mL h a) = true then ev d 122 198 L (.int (mI h a i.toNatClampNeg) :: st) h else none := ev_ia d_122_197
theorem d_122_198 : decode (cd 122) 198 = .ok (.aload_n 0, 1) := by rw [cd_122]; decide +kernel
theorem e_122_198 {d : Nat} {h : mM} {T : mLs} {x : Nat} {st : List Value} : ev d 122 198 ( some (.ref x) :: T) st h = ev d 122 199 ( some (.ref x) :: T) (.ref x :: st) h := ev_of d_122_198 rfl
theorem d_122_199 : decode (cd 122) 199 = .ok (.iload_n 3, 1) := by rw [cd_122]; decide +kernel
theorem e_122_199 {d : Nat} {h : mM} {o0 o1 o2 : Option Value} {T : mLs} {x : Int32} {st : List Value} : ev d 122 199 (o0 :: o1 :: o2 :: some (.int x) :: T) st h = ev d 122 200 (o0 :: o1 :: o2 :: some (.int x) :: T) (.int x :: st) h := ev_of d_122_199 rfl
theorem d_122_200 : decode (cd 122) 200 = .ok (.iconst 2, 1) := by rw [cd_122]; decide +kernel
theorem e_122_200 {d : Nat} {h : mM} {L : mLs} {st : List Value} : ev d 122 200 L st h = ev d 122 201 L (.int 2 :: st) h := ev_of d_122_200 rfl
theorem d_122_201 : decode (cd 122) 201 = .ok (.iadd, 1) := by rw [cd_122]; decide +kernel
theorem e_122_201 {d : Nat} {h : mM} {L : mLs} {st : List Value} {x y : Int32} : ev d 122 201 L (.int y :: .int x :: st) h = ev d 122 202 L (.int (x + y) :: st) h := ev_of d_122_201 rfl
theorem d_122_202 : decode (cd 122) 202 = .ok (.iaload, 1) := by rw [cd_122]; decide +kernel
theorem e_122_202 {d : Nat} {h : mM} {L : mLs} {st : List Value} {a : Nat} {i : Int32} : ev d 122 202 L (.int i :: .ref a :: st) h = if (mK h a = 11 ∨ mK h a = 19) ∧ ixOK i (mL h a) = true then ev d 122 203 L (.int (mI h a i.toNatClampNeg) :: st) h else none := ev_ia d_122_202
theorem d_122_203 : decode (cd 122) 203 = .ok (.invokevirtual 24, 3) := by rw [cd_122]; decide +kernel
theorem e_122_203 {d : Nat} {h : mM} {L : mLs} {st : List Value} {a : Nat} {x0 : Int32} {x1 : Int32} (hc : mCat st ≤ 8) : ev (d + 1) 122 203 L (.int x1 :: .int x0 :: .ref a :: st) h = if mK h a = 10 then cV (ev d 84 0 [some (.ref a), some (.int x0), some (.int x1), none] [] h) (fun v h1 => ev (d + 1) 122 206 L (v ++ st) h1) else none := ev_cv (mj := 84) (as := [.int x0, .int x1]) (rest := st) d_122_203 (by decide +kernel) rfl rfl (by show _ ≤ List.length _; simp only [List.length_cons]; have : na 84 = 2 := rfl; omega) rfl (Nat.le_of_ble_eq_true rfl) hc
theorem d_122_206 : decode (cd 122) 206 = .ok (.lcmp, 1) := by rw [cd_122]; decide +kernel
theorem e_122_206 {d : Nat} {h : mM} {L : mLs} {st : List Value} {x y : Int64} : ev d 122 206 L (.long y :: .long x :: st) h = ev d 122 207 L (.int (lg_cmp x y) :: st) h := ev_of d_122_206 rfl
theorem d_122_207 : decode (cd 122) 207 = .ok (.ifCond .eq 875, 3) := by rw [cd_122]; decide +kernel
theorem e_122_207 {d : Nat} {h : mM} {L : mLs} {st : List Value} {x : Int32} : ev d 122 207 L (.int x :: st) h = if x = 0 then ev d 122 1082 L st h else ev d 122 210 L st h := ev_if (x = 0) inferInstance rfl d_122_207 (by decide)
theorem d_122_210 : decode (cd 122) 210 = .ok (.iconst 0, 1) := by rw [cd_122]; decide +kernel
theorem e_122_210 {d : Nat} {h : mM} {L : mLs} {st : List Value} : ev d 122 210 L st h = ev d 122 211 L (.int 0 :: st) h := ev_of d_122_210 rfl
theorem d_122_211 : decode (cd 122) 211 = .ok (.ireturn, 1) := by rw [cd_122]; decide +kernel
theorem e_122_211 {d : Nat} {h : mM} {L : mLs} {v : Int32} : ev d 122 211 L [.int v] h = if mZO v = true then some (some (.int v), h) else none := ev_rz d_122_211 (by decide +kernel)
theorem d_122_212 : decode (cd 122) 212 = .ok (.aload_n 1, 1) := by rw [cd_122]; decide +kernel
theorem e_122_212 {d : Nat} {h : mM} {o0 : Option Value} {T : mLs} {x : Nat} {st : List Value} : ev d 122 212 (o0 :: some (.ref x) :: T) st h = ev d 122 213 (o0 :: some (.ref x) :: T) (.ref x :: st) h := ev_of d_122_212 rfl
theorem d_122_213 : decode (cd 122) 213 = .ok (.aload_n 0, 1) := by rw [cd_122]; decide +kernel
theorem e_122_213 {d : Nat} {h : mM} {T : mLs} {x : Nat} {st : List Value} : ev d 122 213 ( some (.ref x) :: T) st h = ev d 122 214 ( some (.ref x) :: T) (.ref x :: st) h := ev_of d_122_213 rfl
theorem d_122_214 : decode (cd 122) 214 = .ok (.iload_n 3, 1) := by rw [cd_122]; decide +kernel
theorem e_122_214 {d : Nat} {h : mM} {o0 o1 o2 : Option Value} {T : mLs} {x : Int32} {st : List Value} : ev d 122 214 (o0 :: o1 :: o2 :: some (.int x) :: T) st h = ev d 122 215 (o0 :: o1 :: o2 :: some (.int x) :: T) (.int x :: st) h := ev_of d_122_214 rfl
theorem d_122_215 : decode (cd 122) 215 = .ok (.iconst 1, 1) := by rw [cd_122]; decide +kernel
theorem e_122_215 {d : Nat} {h : mM} {L : mLs} {st : List Value} : ev d 122 215 L st h = ev d 122 216 L (.int 1 :: st) h := ev_of d_122_215 rfl
theorem d_122_216 : decode (cd 122) 216 = .ok (.iadd, 1) := by rw [cd_122]; decide +kernel
theorem e_122_216 {d : Nat} {h : mM} {L : mLs} {st : List Value} {x y : Int32} : ev d 122 216 L (.int y :: .int x :: st) h = ev d 122 217 L (.int (x + y) :: st) h := ev_of d_122_216 rfl
theorem d_122_217 : decode (cd 122) 217 = .ok (.iaload, 1) := by rw [cd_122]; decide +kernel
theorem e_122_217 {d : Nat} {h : mM} {L : mLs} {st : List Value} {a : Nat} {i : Int32} : ev d 122 217 L (.int i :: .ref a :: st) h = if (mK h a = 11 ∨ mK h a = 19) ∧ ixOK i (mL h a) = true then ev d 122 218 L (.int (mI h a i.toNatClampNeg) :: st) h else none := ev_ia d_122_217
theorem d_122_218 : decode (cd 122) 218 = .ok (.invokevirtual 27, 3) := by rw [cd_122]; decide +kernel
theorem e_122_218 {d : Nat} {h : mM} {L : mLs} {st : List Value} {a : Nat} {x0 : Int32} (hc : mCat st ≤ 8) : ev (d + 1) 122 218 L (.int x0 :: .ref a :: st) h = if mK h a = 9 then cV (ev d 40 0 [some (.ref a), some (.int x0)] [] h) (fun v h1 => ev (d + 1) 122 221 L (v ++ st) h1) else none := ev_cv (mj := 40) (as := [.int x0]) (rest := st) d_122_218 (by decide +kernel) rfl rfl (by show _ ≤ List.length _; simp only [List.length_cons]; have : na 40 = 1 := rfl; omega) rfl (Nat.le_of_ble_eq_true rfl) hc
theorem d_122_221 : decode (cd 122) 221 = .ok (.i2l, 1) := by rw [cd_122]; decide +kernel
theorem e_122_221 {d : Nat} {h : mM} {L : mLs} {st : List Value} {x : Int32} : ev d 122 221 L (.int x :: st) h = ev d 122 222 L (.long x.toInt64 :: st) h := ev_of d_122_221 rfl
theorem d_122_222 : decode (cd 122) 222 = .ok (.aload_n 2, 1) := by rw [cd_122]; decide +kernel
theorem e_122_222 {d : Nat} {h : mM} {o0 o1 : Option Value} {T : mLs} {x : Nat} {st : List Value} : ev d 122 222 (o0 :: o1 :: some (.ref x) :: T) st h = ev d 122 223 (o0 :: o1 :: some (.ref x) :: T) (.ref x :: st) h := ev_of d_122_222 rfl
theorem d_122_223 : decode (cd 122) 223 = .ok (.aload_n 0, 1) := by rw [cd_122]; decide +kernel
theorem e_122_223 {d : Nat} {h : mM} {T : mLs} {x : Nat} {st : List Value} : ev d 122 223 ( some (.ref x) :: T) st h = ev d 122 224 ( some (.ref x) :: T) (.ref x :: st) h := ev_of d_122_223 rfl
theorem d_122_224 : decode (cd 122) 224 = .ok (.iload_n 3, 1) := by rw [cd_122]; decide +kernel
theorem e_122_224 {d : Nat} {h : mM} {o0 o1 o2 : Option Value} {T : mLs} {x : Int32} {st : List Value} : ev d 122 224 (o0 :: o1 :: o2 :: some (.int x) :: T) st h = ev d 122 225 (o0 :: o1 :: o2 :: some (.int x) :: T) (.int x :: st) h := ev_of d_122_224 rfl
theorem d_122_225 : decode (cd 122) 225 = .ok (.iconst 1, 1) := by rw [cd_122]; decide +kernel
theorem e_122_225 {d : Nat} {h : mM} {L : mLs} {st : List Value} : ev d 122 225 L st h = ev d 122 226 L (.int 1 :: st) h := ev_of d_122_225 rfl
theorem d_122_226 : decode (cd 122) 226 = .ok (.iadd, 1) := by rw [cd_122]; decide +kernel
theorem e_122_226 {d : Nat} {h : mM} {L : mLs} {st : List Value} {x y : Int32} : ev d 122 226 L (.int y :: .int x :: st) h = ev d 122 227 L (.int (x + y) :: st) h := ev_of d_122_226 rfl
theorem d_122_227 : decode (cd 122) 227 = .ok (.iaload, 1) := by rw [cd_122]; decide +kernel
theorem e_122_227 {d : Nat} {h : mM} {L : mLs} {st : List Value} {a : Nat} {i : Int32} : ev d 122 227 L (.int i :: .ref a :: st) h = if (mK h a = 11 ∨ mK h a = 19) ∧ ixOK i (mL h a) = true then ev d 122 228 L (.int (mI h a i.toNatClampNeg) :: st) h else none := ev_ia d_122_227
theorem d_122_228 : decode (cd 122) 228 = .ok (.invokevirtual 30, 3) := by rw [cd_122]; decide +kernel
theorem e_122_228 {d : Nat} {h : mM} {L : mLs} {st : List Value} {a : Nat} {x0 : Int32} (hc : mCat st ≤ 8) : ev (d + 1) 122 228 L (.int x0 :: .ref a :: st) h = if mK h a = 10 then cV (ev d 86 0 [some (.ref a), some (.int x0)] [] h) (fun v h1 => ev (d + 1) 122 231 L (v ++ st) h1) else none := ev_cv (mj := 86) (as := [.int x0]) (rest := st) d_122_228 (by decide +kernel) rfl rfl (by show _ ≤ List.length _; simp only [List.length_cons]; have : na 86 = 1 := rfl; omega) rfl (Nat.le_of_ble_eq_true rfl) hc
theorem d_122_231 : decode (cd 122) 231 = .ok (.lcmp, 1) := by rw [cd_122]; decide +kernel
theorem e_122_231 {d : Nat} {h : mM} {L : mLs} {st : List Value} {x y : Int64} : ev d 122 231 L (.long y :: .long x :: st) h = ev d 122 232 L (.int (lg_cmp x y) :: st) h := ev_of d_122_231 rfl
theorem d_122_232 : decode (cd 122) 232 = .ok (.ifCond .eq 850, 3) := by rw [cd_122]; decide +kernel
theorem e_122_232 {d : Nat} {h : mM} {L : mLs} {st : List Value} {x : Int32} : ev d 122 232 L (.int x :: st) h = if x = 0 then ev d 122 1082 L st h else ev d 122 235 L st h := ev_if (x = 0) inferInstance rfl d_122_232 (by decide)
theorem d_122_235 : decode (cd 122) 235 = .ok (.iconst 0, 1) := by rw [cd_122]; decide +kernel
theorem e_122_235 {d : Nat} {h : mM} {L : mLs} {st : List Value} : ev d 122 235 L st h = ev d 122 236 L (.int 0 :: st) h := ev_of d_122_235 rfl
theorem d_122_236 : decode (cd 122) 236 = .ok (.ireturn, 1) := by rw [cd_122]; decide +kernel
theorem e_122_236 {d : Nat} {h : mM} {L : mLs} {v : Int32} : ev d 122 236 L [.int v] h = if mZO v = true then some (some (.int v), h) else none := ev_rz d_122_236 (by decide +kernel)
theorem d_122_237 : decode (cd 122) 237 = .ok (.aload_n 1, 1) := by rw [cd_122]; decide +kernel
theorem e_122_237 {d : Nat} {h : mM} {o0 : Option Value} {T : mLs} {x : Nat} {st : List Value} : ev d 122 237 (o0 :: some (.ref x) :: T) st h = ev d 122 238 (o0 :: some (.ref x) :: T) (.ref x :: st) h := ev_of d_122_237 rfl
theorem d_122_238 : decode (cd 122) 238 = .ok (.aload_n 0, 1) := by rw [cd_122]; decide +kernel
theorem e_122_238 {d : Nat} {h : mM} {T : mLs} {x : Nat} {st : List Value} : ev d 122 238 ( some (.ref x) :: T) st h = ev d 122 239 ( some (.ref x) :: T) (.ref x :: st) h := ev_of d_122_238 rfl
theorem d_122_239 : decode (cd 122) 239 = .ok (.iload_n 3, 1) := by rw [cd_122]; decide +kernel
theorem e_122_239 {d : Nat} {h : mM} {o0 o1 o2 : Option Value} {T : mLs} {x : Int32} {st : List Value} : ev d 122 239 (o0 :: o1 :: o2 :: some (.int x) :: T) st h = ev d 122 240 (o0 :: o1 :: o2 :: some (.int x) :: T) (.int x :: st) h := ev_of d_122_239 rfl
theorem d_122_240 : decode (cd 122) 240 = .ok (.iconst 1, 1) := by rw [cd_122]; decide +kernel
theorem e_122_240 {d : Nat} {h : mM} {L : mLs} {st : List Value} : ev d 122 240 L st h = ev d 122 241 L (.int 1 :: st) h := ev_of d_122_240 rfl
theorem d_122_241 : decode (cd 122) 241 = .ok (.iadd, 1) := by rw [cd_122]; decide +kernel
theorem e_122_241 {d : Nat} {h : mM} {L : mLs} {st : List Value} {x y : Int32} : ev d 122 241 L (.int y :: .int x :: st) h = ev d 122 242 L (.int (x + y) :: st) h := ev_of d_122_241 rfl
theorem d_122_242 : decode (cd 122) 242 = .ok (.iaload, 1) := by rw [cd_122]; decide +kernel
theorem e_122_242 {d : Nat} {h : mM} {L : mLs} {st : List Value} {a : Nat} {i : Int32} : ev d 122 242 L (.int i :: .ref a :: st) h = if (mK h a = 11 ∨ mK h a = 19) ∧ ixOK i (mL h a) = true then ev d 122 243 L (.int (mI h a i.toNatClampNeg) :: st) h else none := ev_ia d_122_242
theorem d_122_243 : decode (cd 122) 243 = .ok (.aload_n 0, 1) := by rw [cd_122]; decide +kernel
theorem e_122_243 {d : Nat} {h : mM} {T : mLs} {x : Nat} {st : List Value} : ev d 122 243 ( some (.ref x) :: T) st h = ev d 122 244 ( some (.ref x) :: T) (.ref x :: st) h := ev_of d_122_243 rfl
theorem d_122_244 : decode (cd 122) 244 = .ok (.iload_n 3, 1) := by rw [cd_122]; decide +kernel
theorem e_122_244 {d : Nat} {h : mM} {o0 o1 o2 : Option Value} {T : mLs} {x : Int32} {st : List Value} : ev d 122 244 (o0 :: o1 :: o2 :: some (.int x) :: T) st h = ev d 122 245 (o0 :: o1 :: o2 :: some (.int x) :: T) (.int x :: st) h := ev_of d_122_244 rfl
theorem d_122_245 : decode (cd 122) 245 = .ok (.iconst 2, 1) := by rw [cd_122]; decide +kernel
theorem e_122_245 {d : Nat} {h : mM} {L : mLs} {st : List Value} : ev d 122 245 L st h = ev d 122 246 L (.int 2 :: st) h := ev_of d_122_245 rfl
theorem d_122_246 : decode (cd 122) 246 = .ok (.iadd, 1) := by rw [cd_122]; decide +kernel
theorem e_122_246 {d : Nat} {h : mM} {L : mLs} {st : List Value} {x y : Int32} : ev d 122 246 L (.int y :: .int x :: st) h = ev d 122 247 L (.int (x + y) :: st) h := ev_of d_122_246 rfl
theorem d_122_247 : decode (cd 122) 247 = .ok (.iaload, 1) := by rw [cd_122]; decide +kernel
theorem e_122_247 {d : Nat} {h : mM} {L : mLs} {st : List Value} {a : Nat} {i : Int32} : ev d 122 247 L (.int i :: .ref a :: st) h = if (mK h a = 11 ∨ mK h a = 19) ∧ ixOK i (mL h a) = true then ev d 122 248 L (.int (mI h a i.toNatClampNeg) :: st) h else none := ev_ia d_122_247
theorem d_122_248 : decode (cd 122) 248 = .ok (.aload_n 0, 1) := by rw [cd_122]; decide +kernel
theorem e_122_248 {d : Nat} {h : mM} {T : mLs} {x : Nat} {st : List Value} : ev d 122 248 ( some (.ref x) :: T) st h = ev d 122 249 ( some (.ref x) :: T) (.ref x :: st) h := ev_of d_122_248 rfl
theorem d_122_249 : decode (cd 122) 249 = .ok (.iload_n 3, 1) := by rw [cd_122]; decide +kernel
theorem e_122_249 {d : Nat} {h : mM} {o0 o1 o2 : Option Value} {T : mLs} {x : Int32} {st : List Value} : ev d 122 249 (o0 :: o1 :: o2 :: some (.int x) :: T) st h = ev d 122 250 (o0 :: o1 :: o2 :: some (.int x) :: T) (.int x :: st) h := ev_of d_122_249 rfl
theorem d_122_250 : decode (cd 122) 250 = .ok (.iconst 3, 1) := by rw [cd_122]; decide +kernel
theorem e_122_250 {d : Nat} {h : mM} {L : mLs} {st : List Value} : ev d 122 250 L st h = ev d 122 251 L (.int 3 :: st) h := ev_of d_122_250 rfl
theorem d_122_251 : decode (cd 122) 251 = .ok (.iadd, 1) := by rw [cd_122]; decide +kernel
theorem e_122_251 {d : Nat} {h : mM} {L : mLs} {st : List Value} {x y : Int32} : ev d 122 251 L (.int y :: .int x :: st) h = ev d 122 252 L (.int (x + y) :: st) h := ev_of d_122_251 rfl
theorem d_122_252 : decode (cd 122) 252 = .ok (.iaload, 1) := by rw [cd_122]; decide +kernel
theorem e_122_252 {d : Nat} {h : mM} {L : mLs} {st : List Value} {a : Nat} {i : Int32} : ev d 122 252 L (.int i :: .ref a :: st) h = if (mK h a = 11 ∨ mK h a = 19) ∧ ixOK i (mL h a) = true then ev d 122 253 L (.int (mI h a i.toNatClampNeg) :: st) h else none := ev_ia d_122_252
theorem d_122_253 : decode (cd 122) 253 = .ok (.invokevirtual 32, 3) := by rw [cd_122]; decide +kernel
theorem e_122_253 {d : Nat} {h : mM} {L : mLs} {st : List Value} {a : Nat} {x0 : Int32} {x1 : Int32} {x2 : Int32} (hc : mCat st ≤ 8) : ev (d + 1) 122 253 L (.int x2 :: .int x1 :: .int x0 :: .ref a :: st) h = if mK h a = 9 then cV (ev d 41 0 [some (.ref a), some (.int x0), some (.int x1), some (.int x2), none, none] [] h) (fun v h1 => ev (d + 1) 122 256 L (v ++ st) h1) else none := ev_cv (mj := 41) (as := [.int x0, .int x1, .int x2]) (rest := st) d_122_253 (by decide +kernel) rfl rfl (by show _ ≤ List.length _; simp only [List.length_cons]; have : na 41 = 3 := rfl; omega) rfl (Nat.le_of_ble_eq_true rfl) hc
theorem d_122_256 : decode (cd 122) 256 = .ok (.i2l, 1) := by rw [cd_122]; decide +kernel
theorem e_122_256 {d : Nat} {h : mM} {L : mLs} {st : List Value} {x : Int32} : ev d 122 256 L (.int x :: st) h = ev d 122 257 L (.long x.toInt64 :: st) h := ev_of d_122_256 rfl
theorem d_122_257 : decode (cd 122) 257 = .ok (.aload_n 2, 1) := by rw [cd_122]; decide +kernel
theorem e_122_257 {d : Nat} {h : mM} {o0 o1 : Option Value} {T : mLs} {x : Nat} {st : List Value} : ev d 122 257 (o0 :: o1 :: some (.ref x) :: T) st h = ev d 122 258 (o0 :: o1 :: some (.ref x) :: T) (.ref x :: st) h := ev_of d_122_257 rfl
theorem d_122_258 : decode (cd 122) 258 = .ok (.aload_n 0, 1) := by rw [cd_122]; decide +kernel
theorem e_122_258 {d : Nat} {h : mM} {T : mLs} {x : Nat} {st : List Value} : ev d 122 258 ( some (.ref x) :: T) st h = ev d 122 259 ( some (.ref x) :: T) (.ref x :: st) h := ev_of d_122_258 rfl
theorem d_122_259 : decode (cd 122) 259 = .ok (.iload_n 3, 1) := by rw [cd_122]; decide +kernel
theorem e_122_259 {d : Nat} {h : mM} {o0 o1 o2 : Option Value} {T : mLs} {x : Int32} {st : List Value} : ev d 122 259 (o0 :: o1 :: o2 :: some (.int x) :: T) st h = ev d 122 260 (o0 :: o1 :: o2 :: some (.int x) :: T) (.int x :: st) h := ev_of d_122_259 rfl
theorem d_122_260 : decode (cd 122) 260 = .ok (.iconst 1, 1) := by rw [cd_122]; decide +kernel
theorem e_122_260 {d : Nat} {h : mM} {L : mLs} {st : List Value} : ev d 122 260 L st h = ev d 122 261 L (.int 1 :: st) h := ev_of d_122_260 rfl
theorem d_122_261 : decode (cd 122) 261 = .ok (.iadd, 1) := by rw [cd_122]; decide +kernel
theorem e_122_261 {d : Nat} {h : mM} {L : mLs} {st : List Value} {x y : Int32} : ev d 122 261 L (.int y :: .int x :: st) h = ev d 122 262 L (.int (x + y) :: st) h := ev_of d_122_261 rfl
theorem d_122_262 : decode (cd 122) 262 = .ok (.iaload, 1) := by rw [cd_122]; decide +kernel
theorem e_122_262 {d : Nat} {h : mM} {L : mLs} {st : List Value} {a : Nat} {i : Int32} : ev d 122 262 L (.int i :: .ref a :: st) h = if (mK h a = 11 ∨ mK h a = 19) ∧ ixOK i (mL h a) = true then ev d 122 263 L (.int (mI h a i.toNatClampNeg) :: st) h else none := ev_ia d_122_262
theorem d_122_263 : decode (cd 122) 263 = .ok (.aload_n 0, 1) := by rw [cd_122]; decide +kernel
theorem e_122_263 {d : Nat} {h : mM} {T : mLs} {x : Nat} {st : List Value} : ev d 122 263 ( some (.ref x) :: T) st h = ev d 122 264 ( some (.ref x) :: T) (.ref x :: st) h := ev_of d_122_263 rfl
theorem d_122_264 : decode (cd 122) 264 = .ok (.iload_n 3, 1) := by rw [cd_122]; decide +kernel
theorem e_122_264 {d : Nat} {h : mM} {o0 o1 o2 : Option Value} {T : mLs} {x : Int32} {st : List Value} : ev d 122 264 (o0 :: o1 :: o2 :: some (.int x) :: T) st h = ev d 122 265 (o0 :: o1 :: o2 :: some (.int x) :: T) (.int x :: st) h := ev_of d_122_264 rfl
theorem d_122_265 : decode (cd 122) 265 = .ok (.iconst 2, 1) := by rw [cd_122]; decide +kernel
theorem e_122_265 {d : Nat} {h : mM} {L : mLs} {st : List Value} : ev d 122 265 L st h = ev d 122 266 L (.int 2 :: st) h := ev_of d_122_265 rfl
theorem d_122_266 : decode (cd 122) 266 = .ok (.iadd, 1) := by rw [cd_122]; decide +kernel
theorem e_122_266 {d : Nat} {h : mM} {L : mLs} {st : List Value} {x y : Int32} : ev d 122 266 L (.int y :: .int x :: st) h = ev d 122 267 L (.int (x + y) :: st) h := ev_of d_122_266 rfl
theorem d_122_267 : decode (cd 122) 267 = .ok (.iaload, 1) := by rw [cd_122]; decide +kernel
theorem e_122_267 {d : Nat} {h : mM} {L : mLs} {st : List Value} {a : Nat} {i : Int32} : ev d 122 267 L (.int i :: .ref a :: st) h = if (mK h a = 11 ∨ mK h a = 19) ∧ ixOK i (mL h a) = true then ev d 122 268 L (.int (mI h a i.toNatClampNeg) :: st) h else none := ev_ia d_122_267
theorem d_122_268 : decode (cd 122) 268 = .ok (.aload_n 0, 1) := by rw [cd_122]; decide +kernel
theorem e_122_268 {d : Nat} {h : mM} {T : mLs} {x : Nat} {st : List Value} : ev d 122 268 ( some (.ref x) :: T) st h = ev d 122 269 ( some (.ref x) :: T) (.ref x :: st) h := ev_of d_122_268 rfl
theorem d_122_269 : decode (cd 122) 269 = .ok (.iload_n 3, 1) := by rw [cd_122]; decide +kernel
theorem e_122_269 {d : Nat} {h : mM} {o0 o1 o2 : Option Value} {T : mLs} {x : Int32} {st : List Value} : ev d 122 269 (o0 :: o1 :: o2 :: some (.int x) :: T) st h = ev d 122 270 (o0 :: o1 :: o2 :: some (.int x) :: T) (.int x :: st) h := ev_of d_122_269 rfl
theorem d_122_270 : decode (cd 122) 270 = .ok (.iconst 3, 1) := by rw [cd_122]; decide +kernel
theorem e_122_270 {d : Nat} {h : mM} {L : mLs} {st : List Value} : ev d 122 270 L st h = ev d 122 271 L (.int 3 :: st) h := ev_of d_122_270 rfl
theorem d_122_271 : decode (cd 122) 271 = .ok (.iadd, 1) := by rw [cd_122]; decide +kernel
theorem e_122_271 {d : Nat} {h : mM} {L : mLs} {st : List Value} {x y : Int32} : ev d 122 271 L (.int y :: .int x :: st) h = ev d 122 272 L (.int (x + y) :: st) h := ev_of d_122_271 rfl
theorem d_122_272 : decode (cd 122) 272 = .ok (.iaload, 1) := by rw [cd_122]; decide +kernel
theorem e_122_272 {d : Nat} {h : mM} {L : mLs} {st : List Value} {a : Nat} {i : Int32} : ev d 122 272 L (.int i :: .ref a :: st) h = if (mK h a = 11 ∨ mK h a = 19) ∧ ixOK i (mL h a) = true then ev d 122 273 L (.int (mI h a i.toNatClampNeg) :: st) h else none := ev_ia d_122_272
theorem d_122_273 : decode (cd 122) 273 = .ok (.invokevirtual 36, 3) := by rw [cd_122]; decide +kernel
theorem e_122_273 {d : Nat} {h : mM} {L : mLs} {st : List Value} {a : Nat} {x0 : Int32} {x1 : Int32} {x2 : Int32} (hc : mCat st ≤ 8) : ev (d + 1) 122 273 L (.int x2 :: .int x1 :: .int x0 :: .ref a :: st) h = if mK h a = 10 then cV (ev d 87 0 [some (.ref a), some (.int x0), some (.int x1), some (.int x2)] [] h) (fun v h1 => ev (d + 1) 122 276 L (v ++ st) h1) else none := ev_cv (mj := 87) (as := [.int x0, .int x1, .int x2]) (rest := st) d_122_273 (by decide +kernel) rfl rfl (by show _ ≤ List.length _; simp only [List.length_cons]; have : na 87 = 3 := rfl; omega) rfl (Nat.le_of_ble_eq_true rfl) hc
theorem d_122_276 : decode (cd 122) 276 = .ok (.lcmp, 1) := by rw [cd_122]; decide +kernel
theorem e_122_276 {d : Nat} {h : mM} {L : mLs} {st : List Value} {x y : Int64} : ev d 122 276 L (.long y :: .long x :: st) h = ev d 122 277 L (.int (lg_cmp x y) :: st) h := ev_of d_122_276 rfl
theorem d_122_277 : decode (cd 122) 277 = .ok (.ifCond .eq 805, 3) := by rw [cd_122]; decide +kernel
theorem e_122_277 {d : Nat} {h : mM} {L : mLs} {st : List Value} {x : Int32} : ev d 122 277 L (.int x :: st) h = if x = 0 then ev d 122 1082 L st h else ev d 122 280 L st h := ev_if (x = 0) inferInstance rfl d_122_277 (by decide)
theorem d_122_280 : decode (cd 122) 280 = .ok (.iconst 0, 1) := by rw [cd_122]; decide +kernel
theorem e_122_280 {d : Nat} {h : mM} {L : mLs} {st : List Value} : ev d 122 280 L st h = ev d 122 281 L (.int 0 :: st) h := ev_of d_122_280 rfl
theorem d_122_281 : decode (cd 122) 281 = .ok (.ireturn, 1) := by rw [cd_122]; decide +kernel
theorem e_122_281 {d : Nat} {h : mM} {L : mLs} {v : Int32} : ev d 122 281 L [.int v] h = if mZO v = true then some (some (.int v), h) else none := ev_rz d_122_281 (by decide +kernel)
theorem d_122_282 : decode (cd 122) 282 = .ok (.aload_n 1, 1) := by rw [cd_122]; decide +kernel
theorem e_122_282 {d : Nat} {h : mM} {o0 : Option Value} {T : mLs} {x : Nat} {st : List Value} : ev d 122 282 (o0 :: some (.ref x) :: T) st h = ev d 122 283 (o0 :: some (.ref x) :: T) (.ref x :: st) h := ev_of d_122_282 rfl
theorem d_122_283 : decode (cd 122) 283 = .ok (.aload_n 0, 1) := by rw [cd_122]; decide +kernel
theorem e_122_283 {d : Nat} {h : mM} {T : mLs} {x : Nat} {st : List Value} : ev d 122 283 ( some (.ref x) :: T) st h = ev d 122 284 ( some (.ref x) :: T) (.ref x :: st) h := ev_of d_122_283 rfl
theorem d_122_284 : decode (cd 122) 284 = .ok (.iload_n 3, 1) := by rw [cd_122]; decide +kernel
theorem e_122_284 {d : Nat} {h : mM} {o0 o1 o2 : Option Value} {T : mLs} {x : Int32} {st : List Value} : ev d 122 284 (o0 :: o1 :: o2 :: some (.int x) :: T) st h = ev d 122 285 (o0 :: o1 :: o2 :: some (.int x) :: T) (.int x :: st) h := ev_of d_122_284 rfl
theorem d_122_285 : decode (cd 122) 285 = .ok (.iconst 1, 1) := by rw [cd_122]; decide +kernel
theorem e_122_285 {d : Nat} {h : mM} {L : mLs} {st : List Value} : ev d 122 285 L st h = ev d 122 286 L (.int 1 :: st) h := ev_of d_122_285 rfl
theorem d_122_286 : decode (cd 122) 286 = .ok (.iadd, 1) := by rw [cd_122]; decide +kernel
theorem e_122_286 {d : Nat} {h : mM} {L : mLs} {st : List Value} {x y : Int32} : ev d 122 286 L (.int y :: .int x :: st) h = ev d 122 287 L (.int (x + y) :: st) h := ev_of d_122_286 rfl
theorem d_122_287 : decode (cd 122) 287 = .ok (.iaload, 1) := by rw [cd_122]; decide +kernel
theorem e_122_287 {d : Nat} {h : mM} {L : mLs} {st : List Value} {a : Nat} {i : Int32} : ev d 122 287 L (.int i :: .ref a :: st) h = if (mK h a = 11 ∨ mK h a = 19) ∧ ixOK i (mL h a) = true then ev d 122 288 L (.int (mI h a i.toNatClampNeg) :: st) h else none := ev_ia d_122_287
theorem d_122_288 : decode (cd 122) 288 = .ok (.aload_n 0, 1) := by rw [cd_122]; decide +kernel
theorem e_122_288 {d : Nat} {h : mM} {T : mLs} {x : Nat} {st : List Value} : ev d 122 288 ( some (.ref x) :: T) st h = ev d 122 289 ( some (.ref x) :: T) (.ref x :: st) h := ev_of d_122_288 rfl
theorem d_122_289 : decode (cd 122) 289 = .ok (.iload_n 3, 1) := by rw [cd_122]; decide +kernel
theorem e_122_289 {d : Nat} {h : mM} {o0 o1 o2 : Option Value} {T : mLs} {x : Int32} {st : List Value} : ev d 122 289 (o0 :: o1 :: o2 :: some (.int x) :: T) st h = ev d 122 290 (o0 :: o1 :: o2 :: some (.int x) :: T) (.int x :: st) h := ev_of d_122_289 rfl
theorem d_122_290 : decode (cd 122) 290 = .ok (.iconst 2, 1) := by rw [cd_122]; decide +kernel
theorem e_122_290 {d : Nat} {h : mM} {L : mLs} {st : List Value} : ev d 122 290 L st h = ev d 122 291 L (.int 2 :: st) h := ev_of d_122_290 rfl
theorem d_122_291 : decode (cd 122) 291 = .ok (.iadd, 1) := by rw [cd_122]; decide +kernel
theorem e_122_291 {d : Nat} {h : mM} {L : mLs} {st : List Value} {x y : Int32} : ev d 122 291 L (.int y :: .int x :: st) h = ev d 122 292 L (.int (x + y) :: st) h := ev_of d_122_291 rfl
theorem d_122_292 : decode (cd 122) 292 = .ok (.iaload, 1) := by rw [cd_122]; decide +kernel
theorem e_122_292 {d : Nat} {h : mM} {L : mLs} {st : List Value} {a : Nat} {i : Int32} : ev d 122 292 L (.int i :: .ref a :: st) h = if (mK h a = 11 ∨ mK h a = 19) ∧ ixOK i (mL h a) = true then ev d 122 293 L (.int (mI h a i.toNatClampNeg) :: st) h else none := ev_ia d_122_292
theorem d_122_293 : decode (cd 122) 293 = .ok (.invokevirtual 39, 3) := by rw [cd_122]; decide +kernel
theorem e_122_293 {d : Nat} {h : mM} {L : mLs} {st : List Value} {a : Nat} {x0 : Int32} {x1 : Int32} (hc : mCat st ≤ 8) : ev (d + 1) 122 293 L (.int x1 :: .int x0 :: .ref a :: st) h = if mK h a = 9 then cV (ev d 42 0 [some (.ref a), some (.int x0), some (.int x1), none] [] h) (fun v h1 => ev (d + 1) 122 296 L (v ++ st) h1) else none := ev_cv (mj := 42) (as := [.int x0, .int x1]) (rest := st) d_122_293 (by decide +kernel) rfl rfl (by show _ ≤ List.length _; simp only [List.length_cons]; have : na 42 = 2 := rfl; omega) rfl (Nat.le_of_ble_eq_true rfl) hc
theorem d_122_296 : decode (cd 122) 296 = .ok (.i2l, 1) := by rw [cd_122]; decide +kernel
theorem e_122_296 {d : Nat} {h : mM} {L : mLs} {st : List Value} {x : Int32} : ev d 122 296 L (.int x :: st) h = ev d 122 297 L (.long x.toInt64 :: st) h := ev_of d_122_296 rfl
theorem d_122_297 : decode (cd 122) 297 = .ok (.aload_n 2, 1) := by rw [cd_122]; decide +kernel
theorem e_122_297 {d : Nat} {h : mM} {o0 o1 : Option Value} {T : mLs} {x : Nat} {st : List Value} : ev d 122 297 (o0 :: o1 :: some (.ref x) :: T) st h = ev d 122 298 (o0 :: o1 :: some (.ref x) :: T) (.ref x :: st) h := ev_of d_122_297 rfl
theorem d_122_298 : decode (cd 122) 298 = .ok (.aload_n 0, 1) := by rw [cd_122]; decide +kernel
theorem e_122_298 {d : Nat} {h : mM} {T : mLs} {x : Nat} {st : List Value} : ev d 122 298 ( some (.ref x) :: T) st h = ev d 122 299 ( some (.ref x) :: T) (.ref x :: st) h := ev_of d_122_298 rfl
theorem d_122_299 : decode (cd 122) 299 = .ok (.iload_n 3, 1) := by rw [cd_122]; decide +kernel
theorem e_122_299 {d : Nat} {h : mM} {o0 o1 o2 : Option Value} {T : mLs} {x : Int32} {st : List Value} : ev d 122 299 (o0 :: o1 :: o2 :: some (.int x) :: T) st h = ev d 122 300 (o0 :: o1 :: o2 :: some (.int x) :: T) (.int x :: st) h := ev_of d_122_299 rfl
theorem d_122_300 : decode (cd 122) 300 = .ok (.iconst 1, 1) := by rw [cd_122]; decide +kernel
theorem e_122_300 {d : Nat} {h : mM} {L : mLs} {st : List Value} : ev d 122 300 L st h = ev d 122 301 L (.int 1 :: st) h := ev_of d_122_300 rfl
theorem d_122_301 : decode (cd 122) 301 = .ok (.iadd, 1) := by rw [cd_122]; decide +kernel
theorem e_122_301 {d : Nat} {h : mM} {L : mLs} {st : List Value} {x y : Int32} : ev d 122 301 L (.int y :: .int x :: st) h = ev d 122 302 L (.int (x + y) :: st) h := ev_of d_122_301 rfl
theorem d_122_302 : decode (cd 122) 302 = .ok (.iaload, 1) := by rw [cd_122]; decide +kernel
theorem e_122_302 {d : Nat} {h : mM} {L : mLs} {st : List Value} {a : Nat} {i : Int32} : ev d 122 302 L (.int i :: .ref a :: st) h = if (mK h a = 11 ∨ mK h a = 19) ∧ ixOK i (mL h a) = true then ev d 122 303 L (.int (mI h a i.toNatClampNeg) :: st) h else none := ev_ia d_122_302
theorem d_122_303 : decode (cd 122) 303 = .ok (.aload_n 0, 1) := by rw [cd_122]; decide +kernel
theorem e_122_303 {d : Nat} {h : mM} {T : mLs} {x : Nat} {st : List Value} : ev d 122 303 ( some (.ref x) :: T) st h = ev d 122 304 ( some (.ref x) :: T) (.ref x :: st) h := ev_of d_122_303 rfl
theorem d_122_304 : decode (cd 122) 304 = .ok (.iload_n 3, 1) := by rw [cd_122]; decide +kernel
theorem e_122_304 {d : Nat} {h : mM} {o0 o1 o2 : Option Value} {T : mLs} {x : Int32} {st : List Value} : ev d 122 304 (o0 :: o1 :: o2 :: some (.int x) :: T) st h = ev d 122 305 (o0 :: o1 :: o2 :: some (.int x) :: T) (.int x :: st) h := ev_of d_122_304 rfl
theorem d_122_305 : decode (cd 122) 305 = .ok (.iconst 2, 1) := by rw [cd_122]; decide +kernel
theorem e_122_305 {d : Nat} {h : mM} {L : mLs} {st : List Value} : ev d 122 305 L st h = ev d 122 306 L (.int 2 :: st) h := ev_of d_122_305 rfl
theorem d_122_306 : decode (cd 122) 306 = .ok (.iadd, 1) := by rw [cd_122]; decide +kernel
theorem e_122_306 {d : Nat} {h : mM} {L : mLs} {st : List Value} {x y : Int32} : ev d 122 306 L (.int y :: .int x :: st) h = ev d 122 307 L (.int (x + y) :: st) h := ev_of d_122_306 rfl
theorem d_122_307 : decode (cd 122) 307 = .ok (.iaload, 1) := by rw [cd_122]; decide +kernel
theorem e_122_307 {d : Nat} {h : mM} {L : mLs} {st : List Value} {a : Nat} {i : Int32} : ev d 122 307 L (.int i :: .ref a :: st) h = if (mK h a = 11 ∨ mK h a = 19) ∧ ixOK i (mL h a) = true then ev d 122 308 L (.int (mI h a i.toNatClampNeg) :: st) h else none := ev_ia d_122_307
theorem d_122_308 : decode (cd 122) 308 = .ok (.invokevirtual 42, 3) := by rw [cd_122]; decide +kernel
theorem e_122_308 {d : Nat} {h : mM} {L : mLs} {st : List Value} {a : Nat} {x0 : Int32} {x1 : Int32} (hc : mCat st ≤ 8) : ev (d + 1) 122 308 L (.int x1 :: .int x0 :: .ref a :: st) h = if mK h a = 10 then cV (ev d 88 0 [some (.ref a), some (.int x0), some (.int x1), none] [] h) (fun v h1 => ev (d + 1) 122 311 L (v ++ st) h1) else none := ev_cv (mj := 88) (as := [.int x0, .int x1]) (rest := st) d_122_308 (by decide +kernel) rfl rfl (by show _ ≤ List.length _; simp only [List.length_cons]; have : na 88 = 2 := rfl; omega) rfl (Nat.le_of_ble_eq_true rfl) hc
theorem d_122_311 : decode (cd 122) 311 = .ok (.lcmp, 1) := by rw [cd_122]; decide +kernel
theorem e_122_311 {d : Nat} {h : mM} {L : mLs} {st : List Value} {x y : Int64} : ev d 122 311 L (.long y :: .long x :: st) h = ev d 122 312 L (.int (lg_cmp x y) :: st) h := ev_of d_122_311 rfl
theorem d_122_312 : decode (cd 122) 312 = .ok (.ifCond .eq 770, 3) := by rw [cd_122]; decide +kernel
theorem e_122_312 {d : Nat} {h : mM} {L : mLs} {st : List Value} {x : Int32} : ev d 122 312 L (.int x :: st) h = if x = 0 then ev d 122 1082 L st h else ev d 122 315 L st h := ev_if (x = 0) inferInstance rfl d_122_312 (by decide)
theorem d_122_315 : decode (cd 122) 315 = .ok (.iconst 0, 1) := by rw [cd_122]; decide +kernel
theorem e_122_315 {d : Nat} {h : mM} {L : mLs} {st : List Value} : ev d 122 315 L st h = ev d 122 316 L (.int 0 :: st) h := ev_of d_122_315 rfl
theorem d_122_316 : decode (cd 122) 316 = .ok (.ireturn, 1) := by rw [cd_122]; decide +kernel
theorem e_122_316 {d : Nat} {h : mM} {L : mLs} {v : Int32} : ev d 122 316 L [.int v] h = if mZO v = true then some (some (.int v), h) else none := ev_rz d_122_316 (by decide +kernel)
theorem d_122_317 : decode (cd 122) 317 = .ok (.aload_n 1, 1) := by rw [cd_122]; decide +kernel
theorem e_122_317 {d : Nat} {h : mM} {o0 : Option Value} {T : mLs} {x : Nat} {st : List Value} : ev d 122 317 (o0 :: some (.ref x) :: T) st h = ev d 122 318 (o0 :: some (.ref x) :: T) (.ref x :: st) h := ev_of d_122_317 rfl
theorem d_122_318 : decode (cd 122) 318 = .ok (.aload_n 0, 1) := by rw [cd_122]; decide +kernel
theorem e_122_318 {d : Nat} {h : mM} {T : mLs} {x : Nat} {st : List Value} : ev d 122 318 ( some (.ref x) :: T) st h = ev d 122 319 ( some (.ref x) :: T) (.ref x :: st) h := ev_of d_122_318 rfl
theorem d_122_319 : decode (cd 122) 319 = .ok (.iload_n 3, 1) := by rw [cd_122]; decide +kernel
theorem e_122_319 {d : Nat} {h : mM} {o0 o1 o2 : Option Value} {T : mLs} {x : Int32} {st : List Value} : ev d 122 319 (o0 :: o1 :: o2 :: some (.int x) :: T) st h = ev d 122 320 (o0 :: o1 :: o2 :: some (.int x) :: T) (.int x :: st) h := ev_of d_122_319 rfl
theorem d_122_320 : decode (cd 122) 320 = .ok (.iconst 1, 1) := by rw [cd_122]; decide +kernel
theorem e_122_320 {d : Nat} {h : mM} {L : mLs} {st : List Value} : ev d 122 320 L st h = ev d 122 321 L (.int 1 :: st) h := ev_of d_122_320 rfl
theorem d_122_321 : decode (cd 122) 321 = .ok (.iadd, 1) := by rw [cd_122]; decide +kernel
theorem e_122_321 {d : Nat} {h : mM} {L : mLs} {st : List Value} {x y : Int32} : ev d 122 321 L (.int y :: .int x :: st) h = ev d 122 322 L (.int (x + y) :: st) h := ev_of d_122_321 rfl
theorem d_122_322 : decode (cd 122) 322 = .ok (.iaload, 1) := by rw [cd_122]; decide +kernel
theorem e_122_322 {d : Nat} {h : mM} {L : mLs} {st : List Value} {a : Nat} {i : Int32} : ev d 122 322 L (.int i :: .ref a :: st) h = if (mK h a = 11 ∨ mK h a = 19) ∧ ixOK i (mL h a) = true then ev d 122 323 L (.int (mI h a i.toNatClampNeg) :: st) h else none := ev_ia d_122_322
theorem d_122_323 : decode (cd 122) 323 = .ok (.aload_n 0, 1) := by rw [cd_122]; decide +kernel
theorem e_122_323 {d : Nat} {h : mM} {T : mLs} {x : Nat} {st : List Value} : ev d 122 323 ( some (.ref x) :: T) st h = ev d 122 324 ( some (.ref x) :: T) (.ref x :: st) h := ev_of d_122_323 rfl
theorem d_122_324 : decode (cd 122) 324 = .ok (.iload_n 3, 1) := by rw [cd_122]; decide +kernel
theorem e_122_324 {d : Nat} {h : mM} {o0 o1 o2 : Option Value} {T : mLs} {x : Int32} {st : List Value} : ev d 122 324 (o0 :: o1 :: o2 :: some (.int x) :: T) st h = ev d 122 325 (o0 :: o1 :: o2 :: some (.int x) :: T) (.int x :: st) h := ev_of d_122_324 rfl
theorem d_122_325 : decode (cd 122) 325 = .ok (.iconst 2, 1) := by rw [cd_122]; decide +kernel
theorem e_122_325 {d : Nat} {h : mM} {L : mLs} {st : List Value} : ev d 122 325 L st h = ev d 122 326 L (.int 2 :: st) h := ev_of d_122_325 rfl
theorem d_122_326 : decode (cd 122) 326 = .ok (.iadd, 1) := by rw [cd_122]; decide +kernel
theorem e_122_326 {d : Nat} {h : mM} {L : mLs} {st : List Value} {x y : Int32} : ev d 122 326 L (.int y :: .int x :: st) h = ev d 122 327 L (.int (x + y) :: st) h := ev_of d_122_326 rfl
theorem d_122_327 : decode (cd 122) 327 = .ok (.iaload, 1) := by rw [cd_122]; decide +kernel
theorem e_122_327 {d : Nat} {h : mM} {L : mLs} {st : List Value} {a : Nat} {i : Int32} : ev d 122 327 L (.int i :: .ref a :: st) h = if (mK h a = 11 ∨ mK h a = 19) ∧ ixOK i (mL h a) = true then ev d 122 328 L (.int (mI h a i.toNatClampNeg) :: st) h else none := ev_ia d_122_327
theorem d_122_328 : decode (cd 122) 328 = .ok (.invokevirtual 44, 3) := by rw [cd_122]; decide +kernel
theorem e_122_328 {d : Nat} {h : mM} {L : mLs} {st : List Value} {a : Nat} {x0 : Int32} {x1 : Int32} (hc : mCat st ≤ 8) : ev (d + 1) 122 328 L (.int x1 :: .int x0 :: .ref a :: st) h = if mK h a = 9 then cV (ev d 43 0 [some (.ref a), some (.int x0), some (.int x1), none] [] h) (fun v h1 => ev (d + 1) 122 331 L (v ++ st) h1) else none := ev_cv (mj := 43) (as := [.int x0, .int x1]) (rest := st) d_122_328 (by decide +kernel) rfl rfl (by show _ ≤ List.length _; simp only [List.length_cons]; have : na 43 = 2 := rfl; omega) rfl (Nat.le_of_ble_eq_true rfl) hc
theorem d_122_331 : decode (cd 122) 331 = .ok (.i2l, 1) := by rw [cd_122]; decide +kernel
theorem e_122_331 {d : Nat} {h : mM} {L : mLs} {st : List Value} {x : Int32} : ev d 122 331 L (.int x :: st) h = ev d 122 332 L (.long x.toInt64 :: st) h := ev_of d_122_331 rfl
theorem d_122_332 : decode (cd 122) 332 = .ok (.aload_n 2, 1) := by rw [cd_122]; decide +kernel
theorem e_122_332 {d : Nat} {h : mM} {o0 o1 : Option Value} {T : mLs} {x : Nat} {st : List Value} : ev d 122 332 (o0 :: o1 :: some (.ref x) :: T) st h = ev d 122 333 (o0 :: o1 :: some (.ref x) :: T) (.ref x :: st) h := ev_of d_122_332 rfl
theorem d_122_333 : decode (cd 122) 333 = .ok (.aload_n 0, 1) := by rw [cd_122]; decide +kernel
theorem e_122_333 {d : Nat} {h : mM} {T : mLs} {x : Nat} {st : List Value} : ev d 122 333 ( some (.ref x) :: T) st h = ev d 122 334 ( some (.ref x) :: T) (.ref x :: st) h := ev_of d_122_333 rfl
theorem d_122_334 : decode (cd 122) 334 = .ok (.iload_n 3, 1) := by rw [cd_122]; decide +kernel
theorem e_122_334 {d : Nat} {h : mM} {o0 o1 o2 : Option Value} {T : mLs} {x : Int32} {st : List Value} : ev d 122 334 (o0 :: o1 :: o2 :: some (.int x) :: T) st h = ev d 122 335 (o0 :: o1 :: o2 :: some (.int x) :: T) (.int x :: st) h := ev_of d_122_334 rfl
theorem d_122_335 : decode (cd 122) 335 = .ok (.iconst 1, 1) := by rw [cd_122]; decide +kernel
theorem e_122_335 {d : Nat} {h : mM} {L : mLs} {st : List Value} : ev d 122 335 L st h = ev d 122 336 L (.int 1 :: st) h := ev_of d_122_335 rfl
theorem d_122_336 : decode (cd 122) 336 = .ok (.iadd, 1) := by rw [cd_122]; decide +kernel
theorem e_122_336 {d : Nat} {h : mM} {L : mLs} {st : List Value} {x y : Int32} : ev d 122 336 L (.int y :: .int x :: st) h = ev d 122 337 L (.int (x + y) :: st) h := ev_of d_122_336 rfl
theorem d_122_337 : decode (cd 122) 337 = .ok (.iaload, 1) := by rw [cd_122]; decide +kernel
theorem e_122_337 {d : Nat} {h : mM} {L : mLs} {st : List Value} {a : Nat} {i : Int32} : ev d 122 337 L (.int i :: .ref a :: st) h = if (mK h a = 11 ∨ mK h a = 19) ∧ ixOK i (mL h a) = true then ev d 122 338 L (.int (mI h a i.toNatClampNeg) :: st) h else none := ev_ia d_122_337
theorem d_122_338 : decode (cd 122) 338 = .ok (.aload_n 0, 1) := by rw [cd_122]; decide +kernel
theorem e_122_338 {d : Nat} {h : mM} {T : mLs} {x : Nat} {st : List Value} : ev d 122 338 ( some (.ref x) :: T) st h = ev d 122 339 ( some (.ref x) :: T) (.ref x :: st) h := ev_of d_122_338 rfl
theorem d_122_339 : decode (cd 122) 339 = .ok (.iload_n 3, 1) := by rw [cd_122]; decide +kernel
theorem e_122_339 {d : Nat} {h : mM} {o0 o1 o2 : Option Value} {T : mLs} {x : Int32} {st : List Value} : ev d 122 339 (o0 :: o1 :: o2 :: some (.int x) :: T) st h = ev d 122 340 (o0 :: o1 :: o2 :: some (.int x) :: T) (.int x :: st) h := ev_of d_122_339 rfl
theorem d_122_340 : decode (cd 122) 340 = .ok (.iconst 2, 1) := by rw [cd_122]; decide +kernel
theorem e_122_340 {d : Nat} {h : mM} {L : mLs} {st : List Value} : ev d 122 340 L st h = ev d 122 341 L (.int 2 :: st) h := ev_of d_122_340 rfl
theorem d_122_341 : decode (cd 122) 341 = .ok (.iadd, 1) := by rw [cd_122]; decide +kernel
theorem e_122_341 {d : Nat} {h : mM} {L : mLs} {st : List Value} {x y : Int32} : ev d 122 341 L (.int y :: .int x :: st) h = ev d 122 342 L (.int (x + y) :: st) h := ev_of d_122_341 rfl
theorem d_122_342 : decode (cd 122) 342 = .ok (.iaload, 1) := by rw [cd_122]; decide +kernel
theorem e_122_342 {d : Nat} {h : mM} {L : mLs} {st : List Value} {a : Nat} {i : Int32} : ev d 122 342 L (.int i :: .ref a :: st) h = if (mK h a = 11 ∨ mK h a = 19) ∧ ixOK i (mL h a) = true then ev d 122 343 L (.int (mI h a i.toNatClampNeg) :: st) h else none := ev_ia d_122_342
theorem d_122_343 : decode (cd 122) 343 = .ok (.invokevirtual 47, 3) := by rw [cd_122]; decide +kernel
theorem e_122_343 {d : Nat} {h : mM} {L : mLs} {st : List Value} {a : Nat} {x0 : Int32} {x1 : Int32} (hc : mCat st ≤ 8) : ev (d + 1) 122 343 L (.int x1 :: .int x0 :: .ref a :: st) h = if mK h a = 10 then cV (ev d 89 0 [some (.ref a), some (.int x0), some (.int x1), none] [] h) (fun v h1 => ev (d + 1) 122 346 L (v ++ st) h1) else none := ev_cv (mj := 89) (as := [.int x0, .int x1]) (rest := st) d_122_343 (by decide +kernel) rfl rfl (by show _ ≤ List.length _; simp only [List.length_cons]; have : na 89 = 2 := rfl; omega) rfl (Nat.le_of_ble_eq_true rfl) hc
theorem d_122_346 : decode (cd 122) 346 = .ok (.lcmp, 1) := by rw [cd_122]; decide +kernel
theorem e_122_346 {d : Nat} {h : mM} {L : mLs} {st : List Value} {x y : Int64} : ev d 122 346 L (.long y :: .long x :: st) h = ev d 122 347 L (.int (lg_cmp x y) :: st) h := ev_of d_122_346 rfl
theorem d_122_347 : decode (cd 122) 347 = .ok (.ifCond .eq 735, 3) := by rw [cd_122]; decide +kernel
theorem e_122_347 {d : Nat} {h : mM} {L : mLs} {st : List Value} {x : Int32} : ev d 122 347 L (.int x :: st) h = if x = 0 then ev d 122 1082 L st h else ev d 122 350 L st h := ev_if (x = 0) inferInstance rfl d_122_347 (by decide)
theorem d_122_350 : decode (cd 122) 350 = .ok (.iconst 0, 1) := by rw [cd_122]; decide +kernel
theorem e_122_350 {d : Nat} {h : mM} {L : mLs} {st : List Value} : ev d 122 350 L st h = ev d 122 351 L (.int 0 :: st) h := ev_of d_122_350 rfl
theorem d_122_351 : decode (cd 122) 351 = .ok (.ireturn, 1) := by rw [cd_122]; decide +kernel
theorem e_122_351 {d : Nat} {h : mM} {L : mLs} {v : Int32} : ev d 122 351 L [.int v] h = if mZO v = true then some (some (.int v), h) else none := ev_rz d_122_351 (by decide +kernel)
theorem d_122_352 : decode (cd 122) 352 = .ok (.aload_n 1, 1) := by rw [cd_122]; decide +kernel
theorem e_122_352 {d : Nat} {h : mM} {o0 : Option Value} {T : mLs} {x : Nat} {st : List Value} : ev d 122 352 (o0 :: some (.ref x) :: T) st h = ev d 122 353 (o0 :: some (.ref x) :: T) (.ref x :: st) h := ev_of d_122_352 rfl
theorem d_122_353 : decode (cd 122) 353 = .ok (.aload_n 0, 1) := by rw [cd_122]; decide +kernel
theorem e_122_353 {d : Nat} {h : mM} {T : mLs} {x : Nat} {st : List Value} : ev d 122 353 ( some (.ref x) :: T) st h = ev d 122 354 ( some (.ref x) :: T) (.ref x :: st) h := ev_of d_122_353 rfl
theorem d_122_354 : decode (cd 122) 354 = .ok (.iload_n 3, 1) := by rw [cd_122]; decide +kernel
theorem e_122_354 {d : Nat} {h : mM} {o0 o1 o2 : Option Value} {T : mLs} {x : Int32} {st : List Value} : ev d 122 354 (o0 :: o1 :: o2 :: some (.int x) :: T) st h = ev d 122 355 (o0 :: o1 :: o2 :: some (.int x) :: T) (.int x :: st) h := ev_of d_122_354 rfl
theorem d_122_355 : decode (cd 122) 355 = .ok (.iconst 1, 1) := by rw [cd_122]; decide +kernel
theorem e_122_355 {d : Nat} {h : mM} {L : mLs} {st : List Value} : ev d 122 355 L st h = ev d 122 356 L (.int 1 :: st) h := ev_of d_122_355 rfl
theorem d_122_356 : decode (cd 122) 356 = .ok (.iadd, 1) := by rw [cd_122]; decide +kernel
theorem e_122_356 {d : Nat} {h : mM} {L : mLs} {st : List Value} {x y : Int32} : ev d 122 356 L (.int y :: .int x :: st) h = ev d 122 357 L (.int (x + y) :: st) h := ev_of d_122_356 rfl
theorem d_122_357 : decode (cd 122) 357 = .ok (.iaload, 1) := by rw [cd_122]; decide +kernel
theorem e_122_357 {d : Nat} {h : mM} {L : mLs} {st : List Value} {a : Nat} {i : Int32} : ev d 122 357 L (.int i :: .ref a :: st) h = if (mK h a = 11 ∨ mK h a = 19) ∧ ixOK i (mL h a) = true then ev d 122 358 L (.int (mI h a i.toNatClampNeg) :: st) h else none := ev_ia d_122_357
theorem d_122_358 : decode (cd 122) 358 = .ok (.aload_n 0, 1) := by rw [cd_122]; decide +kernel
theorem e_122_358 {d : Nat} {h : mM} {T : mLs} {x : Nat} {st : List Value} : ev d 122 358 ( some (.ref x) :: T) st h = ev d 122 359 ( some (.ref x) :: T) (.ref x :: st) h := ev_of d_122_358 rfl
theorem d_122_359 : decode (cd 122) 359 = .ok (.iload_n 3, 1) := by rw [cd_122]; decide +kernel
theorem e_122_359 {d : Nat} {h : mM} {o0 o1 o2 : Option Value} {T : mLs} {x : Int32} {st : List Value} : ev d 122 359 (o0 :: o1 :: o2 :: some (.int x) :: T) st h = ev d 122 360 (o0 :: o1 :: o2 :: some (.int x) :: T) (.int x :: st) h := ev_of d_122_359 rfl
theorem d_122_360 : decode (cd 122) 360 = .ok (.iconst 2, 1) := by rw [cd_122]; decide +kernel
theorem e_122_360 {d : Nat} {h : mM} {L : mLs} {st : List Value} : ev d 122 360 L st h = ev d 122 361 L (.int 2 :: st) h := ev_of d_122_360 rfl
theorem d_122_361 : decode (cd 122) 361 = .ok (.iadd, 1) := by rw [cd_122]; decide +kernel
theorem e_122_361 {d : Nat} {h : mM} {L : mLs} {st : List Value} {x y : Int32} : ev d 122 361 L (.int y :: .int x :: st) h = ev d 122 362 L (.int (x + y) :: st) h := ev_of d_122_361 rfl
theorem d_122_362 : decode (cd 122) 362 = .ok (.iaload, 1) := by rw [cd_122]; decide +kernel
theorem e_122_362 {d : Nat} {h : mM} {L : mLs} {st : List Value} {a : Nat} {i : Int32} : ev d 122 362 L (.int i :: .ref a :: st) h = if (mK h a = 11 ∨ mK h a = 19) ∧ ixOK i (mL h a) = true then ev d 122 363 L (.int (mI h a i.toNatClampNeg) :: st) h else none := ev_ia d_122_362
theorem d_122_363 : decode (cd 122) 363 = .ok (.aload_n 0, 1) := by rw [cd_122]; decide +kernel
theorem e_122_363 {d : Nat} {h : mM} {T : mLs} {x : Nat} {st : List Value} : ev d 122 363 ( some (.ref x) :: T) st h = ev d 122 364 ( some (.ref x) :: T) (.ref x :: st) h := ev_of d_122_363 rfl
theorem d_122_364 : decode (cd 122) 364 = .ok (.iload_n 3, 1) := by rw [cd_122]; decide +kernel
theorem e_122_364 {d : Nat} {h : mM} {o0 o1 o2 : Option Value} {T : mLs} {x : Int32} {st : List Value} : ev d 122 364 (o0 :: o1 :: o2 :: some (.int x) :: T) st h = ev d 122 365 (o0 :: o1 :: o2 :: some (.int x) :: T) (.int x :: st) h := ev_of d_122_364 rfl
theorem d_122_365 : decode (cd 122) 365 = .ok (.iconst 3, 1) := by rw [cd_122]; decide +kernel
theorem e_122_365 {d : Nat} {h : mM} {L : mLs} {st : List Value} : ev d 122 365 L st h = ev d 122 366 L (.int 3 :: st) h := ev_of d_122_365 rfl
theorem d_122_366 : decode (cd 122) 366 = .ok (.iadd, 1) := by rw [cd_122]; decide +kernel
theorem e_122_366 {d : Nat} {h : mM} {L : mLs} {st : List Value} {x y : Int32} : ev d 122 366 L (.int y :: .int x :: st) h = ev d 122 367 L (.int (x + y) :: st) h := ev_of d_122_366 rfl
theorem d_122_367 : decode (cd 122) 367 = .ok (.iaload, 1) := by rw [cd_122]; decide +kernel
theorem e_122_367 {d : Nat} {h : mM} {L : mLs} {st : List Value} {a : Nat} {i : Int32} : ev d 122 367 L (.int i :: .ref a :: st) h = if (mK h a = 11 ∨ mK h a = 19) ∧ ixOK i (mL h a) = true then ev d 122 368 L (.int (mI h a i.toNatClampNeg) :: st) h else none := ev_ia d_122_367
theorem d_122_368 : decode (cd 122) 368 = .ok (.invokevirtual 49, 3) := by rw [cd_122]; decide +kernel
theorem e_122_368 {d : Nat} {h : mM} {L : mLs} {st : List Value} {a : Nat} {x0 : Int32} {x1 : Int32} {x2 : Int32} (hc : mCat st ≤ 8) : ev (d + 1) 122 368 L (.int x2 :: .int x1 :: .int x0 :: .ref a :: st) h = if mK h a = 9 then cV (ev d 44 0 [some (.ref a), some (.int x0), some (.int x1), some (.int x2), none, none] [] h) (fun v h1 => ev (d + 1) 122 371 L (v ++ st) h1) else none := ev_cv (mj := 44) (as := [.int x0, .int x1, .int x2]) (rest := st) d_122_368 (by decide +kernel) rfl rfl (by show _ ≤ List.length _; simp only [List.length_cons]; have : na 44 = 3 := rfl; omega) rfl (Nat.le_of_ble_eq_true rfl) hc
theorem d_122_371 : decode (cd 122) 371 = .ok (.i2l, 1) := by rw [cd_122]; decide +kernel
theorem e_122_371 {d : Nat} {h : mM} {L : mLs} {st : List Value} {x : Int32} : ev d 122 371 L (.int x :: st) h = ev d 122 372 L (.long x.toInt64 :: st) h := ev_of d_122_371 rfl
theorem d_122_372 : decode (cd 122) 372 = .ok (.aload_n 2, 1) := by rw [cd_122]; decide +kernel
theorem e_122_372 {d : Nat} {h : mM} {o0 o1 : Option Value} {T : mLs} {x : Nat} {st : List Value} : ev d 122 372 (o0 :: o1 :: some (.ref x) :: T) st h = ev d 122 373 (o0 :: o1 :: some (.ref x) :: T) (.ref x :: st) h := ev_of d_122_372 rfl
theorem d_122_373 : decode (cd 122) 373 = .ok (.aload_n 0, 1) := by rw [cd_122]; decide +kernel
theorem e_122_373 {d : Nat} {h : mM} {T : mLs} {x : Nat} {st : List Value} : ev d 122 373 ( some (.ref x) :: T) st h = ev d 122 374 ( some (.ref x) :: T) (.ref x :: st) h := ev_of d_122_373 rfl
theorem d_122_374 : decode (cd 122) 374 = .ok (.iload_n 3, 1) := by rw [cd_122]; decide +kernel
theorem e_122_374 {d : Nat} {h : mM} {o0 o1 o2 : Option Value} {T : mLs} {x : Int32} {st : List Value} : ev d 122 374 (o0 :: o1 :: o2 :: some (.int x) :: T) st h = ev d 122 375 (o0 :: o1 :: o2 :: some (.int x) :: T) (.int x :: st) h := ev_of d_122_374 rfl
theorem d_122_375 : decode (cd 122) 375 = .ok (.iconst 1, 1) := by rw [cd_122]; decide +kernel
theorem e_122_375 {d : Nat} {h : mM} {L : mLs} {st : List Value} : ev d 122 375 L st h = ev d 122 376 L (.int 1 :: st) h := ev_of d_122_375 rfl
theorem d_122_376 : decode (cd 122) 376 = .ok (.iadd, 1) := by rw [cd_122]; decide +kernel
theorem e_122_376 {d : Nat} {h : mM} {L : mLs} {st : List Value} {x y : Int32} : ev d 122 376 L (.int y :: .int x :: st) h = ev d 122 377 L (.int (x + y) :: st) h := ev_of d_122_376 rfl
theorem d_122_377 : decode (cd 122) 377 = .ok (.iaload, 1) := by rw [cd_122]; decide +kernel
theorem e_122_377 {d : Nat} {h : mM} {L : mLs} {st : List Value} {a : Nat} {i : Int32} : ev d 122 377 L (.int i :: .ref a :: st) h = if (mK h a = 11 ∨ mK h a = 19) ∧ ixOK i (mL h a) = true then ev d 122 378 L (.int (mI h a i.toNatClampNeg) :: st) h else none := ev_ia d_122_377
theorem d_122_378 : decode (cd 122) 378 = .ok (.aload_n 0, 1) := by rw [cd_122]; decide +kernel
theorem e_122_378 {d : Nat} {h : mM} {T : mLs} {x : Nat} {st : List Value} : ev d 122 378 ( some (.ref x) :: T) st h = ev d 122 379 ( some (.ref x) :: T) (.ref x :: st) h := ev_of d_122_378 rfl
theorem d_122_379 : decode (cd 122) 379 = .ok (.iload_n 3, 1) := by rw [cd_122]; decide +kernel
theorem e_122_379 {d : Nat} {h : mM} {o0 o1 o2 : Option Value} {T : mLs} {x : Int32} {st : List Value} : ev d 122 379 (o0 :: o1 :: o2 :: some (.int x) :: T) st h = ev d 122 380 (o0 :: o1 :: o2 :: some (.int x) :: T) (.int x :: st) h := ev_of d_122_379 rfl
theorem d_122_380 : decode (cd 122) 380 = .ok (.iconst 2, 1) := by rw [cd_122]; decide +kernel
theorem e_122_380 {d : Nat} {h : mM} {L : mLs} {st : List Value} : ev d 122 380 L st h = ev d 122 381 L (.int 2 :: st) h := ev_of d_122_380 rfl
theorem d_122_381 : decode (cd 122) 381 = .ok (.iadd, 1) := by rw [cd_122]; decide +kernel
theorem e_122_381 {d : Nat} {h : mM} {L : mLs} {st : List Value} {x y : Int32} : ev d 122 381 L (.int y :: .int x :: st) h = ev d 122 382 L (.int (x + y) :: st) h := ev_of d_122_381 rfl
theorem d_122_382 : decode (cd 122) 382 = .ok (.iaload, 1) := by rw [cd_122]; decide +kernel
theorem e_122_382 {d : Nat} {h : mM} {L : mLs} {st : List Value} {a : Nat} {i : Int32} : ev d 122 382 L (.int i :: .ref a :: st) h = if (mK h a = 11 ∨ mK h a = 19) ∧ ixOK i (mL h a) = true then ev d 122 383 L (.int (mI h a i.toNatClampNeg) :: st) h else none := ev_ia d_122_382
theorem d_122_383 : decode (cd 122) 383 = .ok (.aload_n 0, 1) := by rw [cd_122]; decide +kernel
theorem e_122_383 {d : Nat} {h : mM} {T : mLs} {x : Nat} {st : List Value} : ev d 122 383 ( some (.ref x) :: T) st h = ev d 122 384 ( some (.ref x) :: T) (.ref x :: st) h := ev_of d_122_383 rfl
theorem d_122_384 : decode (cd 122) 384 = .ok (.iload_n 3, 1) := by rw [cd_122]; decide +kernel
theorem e_122_384 {d : Nat} {h : mM} {o0 o1 o2 : Option Value} {T : mLs} {x : Int32} {st : List Value} : ev d 122 384 (o0 :: o1 :: o2 :: some (.int x) :: T) st h = ev d 122 385 (o0 :: o1 :: o2 :: some (.int x) :: T) (.int x :: st) h := ev_of d_122_384 rfl
theorem d_122_385 : decode (cd 122) 385 = .ok (.iconst 3, 1) := by rw [cd_122]; decide +kernel
theorem e_122_385 {d : Nat} {h : mM} {L : mLs} {st : List Value} : ev d 122 385 L st h = ev d 122 386 L (.int 3 :: st) h := ev_of d_122_385 rfl
theorem d_122_386 : decode (cd 122) 386 = .ok (.iadd, 1) := by rw [cd_122]; decide +kernel
theorem e_122_386 {d : Nat} {h : mM} {L : mLs} {st : List Value} {x y : Int32} : ev d 122 386 L (.int y :: .int x :: st) h = ev d 122 387 L (.int (x + y) :: st) h := ev_of d_122_386 rfl
theorem d_122_387 : decode (cd 122) 387 = .ok (.iaload, 1) := by rw [cd_122]; decide +kernel
theorem e_122_387 {d : Nat} {h : mM} {L : mLs} {st : List Value} {a : Nat} {i : Int32} : ev d 122 387 L (.int i :: .ref a :: st) h = if (mK h a = 11 ∨ mK h a = 19) ∧ ixOK i (mL h a) = true then ev d 122 388 L (.int (mI h a i.toNatClampNeg) :: st) h else none := ev_ia d_122_387
theorem d_122_388 : decode (cd 122) 388 = .ok (.invokevirtual 52, 3) := by rw [cd_122]; decide +kernel
theorem e_122_388 {d : Nat} {h : mM} {L : mLs} {st : List Value} {a : Nat} {x0 : Int32} {x1 : Int32} {x2 : Int32} (hc : mCat st ≤ 8) : ev (d + 1) 122 388 L (.int x2 :: .int x1 :: .int x0 :: .ref a :: st) h = if mK h a = 10 then cV (ev d 90 0 [some (.ref a), some (.int x0), some (.int x1), some (.int x2)] [] h) (fun v h1 => ev (d + 1) 122 391 L (v ++ st) h1) else none := ev_cv (mj := 90) (as := [.int x0, .int x1, .int x2]) (rest := st) d_122_388 (by decide +kernel) rfl rfl (by show _ ≤ List.length _; simp only [List.length_cons]; have : na 90 = 3 := rfl; omega) rfl (Nat.le_of_ble_eq_true rfl) hc
theorem d_122_391 : decode (cd 122) 391 = .ok (.lcmp, 1) := by rw [cd_122]; decide +kernel
theorem e_122_391 {d : Nat} {h : mM} {L : mLs} {st : List Value} {x y : Int64} : ev d 122 391 L (.long y :: .long x :: st) h = ev d 122 392 L (.int (lg_cmp x y) :: st) h := ev_of d_122_391 rfl
theorem d_122_392 : decode (cd 122) 392 = .ok (.ifCond .eq 690, 3) := by rw [cd_122]; decide +kernel
theorem e_122_392 {d : Nat} {h : mM} {L : mLs} {st : List Value} {x : Int32} : ev d 122 392 L (.int x :: st) h = if x = 0 then ev d 122 1082 L st h else ev d 122 395 L st h := ev_if (x = 0) inferInstance rfl d_122_392 (by decide)
theorem d_122_395 : decode (cd 122) 395 = .ok (.iconst 0, 1) := by rw [cd_122]; decide +kernel
theorem e_122_395 {d : Nat} {h : mM} {L : mLs} {st : List Value} : ev d 122 395 L st h = ev d 122 396 L (.int 0 :: st) h := ev_of d_122_395 rfl
theorem d_122_396 : decode (cd 122) 396 = .ok (.ireturn, 1) := by rw [cd_122]; decide +kernel
theorem e_122_396 {d : Nat} {h : mM} {L : mLs} {v : Int32} : ev d 122 396 L [.int v] h = if mZO v = true then some (some (.int v), h) else none := ev_rz d_122_396 (by decide +kernel)
theorem d_122_397 : decode (cd 122) 397 = .ok (.aload_n 1, 1) := by rw [cd_122]; decide +kernel
theorem e_122_397 {d : Nat} {h : mM} {o0 : Option Value} {T : mLs} {x : Nat} {st : List Value} : ev d 122 397 (o0 :: some (.ref x) :: T) st h = ev d 122 398 (o0 :: some (.ref x) :: T) (.ref x :: st) h := ev_of d_122_397 rfl
theorem d_122_398 : decode (cd 122) 398 = .ok (.aload_n 0, 1) := by rw [cd_122]; decide +kernel
theorem e_122_398 {d : Nat} {h : mM} {T : mLs} {x : Nat} {st : List Value} : ev d 122 398 ( some (.ref x) :: T) st h = ev d 122 399 ( some (.ref x) :: T) (.ref x :: st) h := ev_of d_122_398 rfl
theorem d_122_399 : decode (cd 122) 399 = .ok (.iload_n 3, 1) := by rw [cd_122]; decide +kernel
theorem e_122_399 {d : Nat} {h : mM} {o0 o1 o2 : Option Value} {T : mLs} {x : Int32} {st : List Value} : ev d 122 399 (o0 :: o1 :: o2 :: some (.int x) :: T) st h = ev d 122 400 (o0 :: o1 :: o2 :: some (.int x) :: T) (.int x :: st) h := ev_of d_122_399 rfl
theorem d_122_400 : decode (cd 122) 400 = .ok (.iconst 1, 1) := by rw [cd_122]; decide +kernel
theorem e_122_400 {d : Nat} {h : mM} {L : mLs} {st : List Value} : ev d 122 400 L st h = ev d 122 401 L (.int 1 :: st) h := ev_of d_122_400 rfl
theorem d_122_401 : decode (cd 122) 401 = .ok (.iadd, 1) := by rw [cd_122]; decide +kernel
theorem e_122_401 {d : Nat} {h : mM} {L : mLs} {st : List Value} {x y : Int32} : ev d 122 401 L (.int y :: .int x :: st) h = ev d 122 402 L (.int (x + y) :: st) h := ev_of d_122_401 rfl
theorem d_122_402 : decode (cd 122) 402 = .ok (.iaload, 1) := by rw [cd_122]; decide +kernel
theorem e_122_402 {d : Nat} {h : mM} {L : mLs} {st : List Value} {a : Nat} {i : Int32} : ev d 122 402 L (.int i :: .ref a :: st) h = if (mK h a = 11 ∨ mK h a = 19) ∧ ixOK i (mL h a) = true then ev d 122 403 L (.int (mI h a i.toNatClampNeg) :: st) h else none := ev_ia d_122_402
theorem d_122_403 : decode (cd 122) 403 = .ok (.aload_n 0, 1) := by rw [cd_122]; decide +kernel
theorem e_122_403 {d : Nat} {h : mM} {T : mLs} {x : Nat} {st : List Value} : ev d 122 403 ( some (.ref x) :: T) st h = ev d 122 404 ( some (.ref x) :: T) (.ref x :: st) h := ev_of d_122_403 rfl
theorem d_122_404 : decode (cd 122) 404 = .ok (.iload_n 3, 1) := by rw [cd_122]; decide +kernel
theorem e_122_404 {d : Nat} {h : mM} {o0 o1 o2 : Option Value} {T : mLs} {x : Int32} {st : List Value} : ev d 122 404 (o0 :: o1 :: o2 :: some (.int x) :: T) st h = ev d 122 405 (o0 :: o1 :: o2 :: some (.int x) :: T) (.int x :: st) h := ev_of d_122_404 rfl
theorem d_122_405 : decode (cd 122) 405 = .ok (.iconst 2, 1) := by rw [cd_122]; decide +kernel
theorem e_122_405 {d : Nat} {h : mM} {L : mLs} {st : List Value} : ev d 122 405 L st h = ev d 122 406 L (.int 2 :: st) h := ev_of d_122_405 rfl
theorem d_122_406 : decode (cd 122) 406 = .ok (.iadd, 1) := by rw [cd_122]; decide +kernel
theorem e_122_406 {d : Nat} {h : mM} {L : mLs} {st : List Value} {x y : Int32} : ev d 122 406 L (.int y :: .int x :: st) h = ev d 122 407 L (.int (x + y) :: st) h := ev_of d_122_406 rfl
theorem d_122_407 : decode (cd 122) 407 = .ok (.iaload, 1) := by rw [cd_122]; decide +kernel
theorem e_122_407 {d : Nat} {h : mM} {L : mLs} {st : List Value} {a : Nat} {i : Int32} : ev d 122 407 L (.int i :: .ref a :: st) h = if (mK h a = 11 ∨ mK h a = 19) ∧ ixOK i (mL h a) = true then ev d 122 408 L (.int (mI h a i.toNatClampNeg) :: st) h else none := ev_ia d_122_407
theorem d_122_408 : decode (cd 122) 408 = .ok (.invokevirtual 54, 3) := by rw [cd_122]; decide +kernel
theorem e_122_408 {d : Nat} {h : mM} {L : mLs} {st : List Value} {a : Nat} {x0 : Int32} {x1 : Int32} (hc : mCat st ≤ 8) : ev (d + 1) 122 408 L (.int x1 :: .int x0 :: .ref a :: st) h = if mK h a = 9 then cV (ev d 45 0 [some (.ref a), some (.int x0), some (.int x1), none] [] h) (fun v h1 => ev (d + 1) 122 411 L (v ++ st) h1) else none := ev_cv (mj := 45) (as := [.int x0, .int x1]) (rest := st) d_122_408 (by decide +kernel) rfl rfl (by show _ ≤ List.length _; simp only [List.length_cons]; have : na 45 = 2 := rfl; omega) rfl (Nat.le_of_ble_eq_true rfl) hc
theorem d_122_411 : decode (cd 122) 411 = .ok (.i2l, 1) := by rw [cd_122]; decide +kernel
theorem e_122_411 {d : Nat} {h : mM} {L : mLs} {st : List Value} {x : Int32} : ev d 122 411 L (.int x :: st) h = ev d 122 412 L (.long x.toInt64 :: st) h := ev_of d_122_411 rfl
theorem d_122_412 : decode (cd 122) 412 = .ok (.aload_n 2, 1) := by rw [cd_122]; decide +kernel
theorem e_122_412 {d : Nat} {h : mM} {o0 o1 : Option Value} {T : mLs} {x : Nat} {st : List Value} : ev d 122 412 (o0 :: o1 :: some (.ref x) :: T) st h = ev d 122 413 (o0 :: o1 :: some (.ref x) :: T) (.ref x :: st) h := ev_of d_122_412 rfl
theorem d_122_413 : decode (cd 122) 413 = .ok (.aload_n 0, 1) := by rw [cd_122]; decide +kernel
theorem e_122_413 {d : Nat} {h : mM} {T : mLs} {x : Nat} {st : List Value} : ev d 122 413 ( some (.ref x) :: T) st h = ev d 122 414 ( some (.ref x) :: T) (.ref x :: st) h := ev_of d_122_413 rfl
theorem d_122_414 : decode (cd 122) 414 = .ok (.iload_n 3, 1) := by rw [cd_122]; decide +kernel
theorem e_122_414 {d : Nat} {h : mM} {o0 o1 o2 : Option Value} {T : mLs} {x : Int32} {st : List Value} : ev d 122 414 (o0 :: o1 :: o2 :: some (.int x) :: T) st h = ev d 122 415 (o0 :: o1 :: o2 :: some (.int x) :: T) (.int x :: st) h := ev_of d_122_414 rfl
theorem d_122_415 : decode (cd 122) 415 = .ok (.iconst 1, 1) := by rw [cd_122]; decide +kernel
theorem e_122_415 {d : Nat} {h : mM} {L : mLs} {st : List Value} : ev d 122 415 L st h = ev d 122 416 L (.int 1 :: st) h := ev_of d_122_415 rfl
theorem d_122_416 : decode (cd 122) 416 = .ok (.iadd, 1) := by rw [cd_122]; decide +kernel
theorem e_122_416 {d : Nat} {h : mM} {L : mLs} {st : List Value} {x y : Int32} : ev d 122 416 L (.int y :: .int x :: st) h = ev d 122 417 L (.int (x + y) :: st) h := ev_of d_122_416 rfl
theorem d_122_417 : decode (cd 122) 417 = .ok (.iaload, 1) := by rw [cd_122]; decide +kernel
theorem e_122_417 {d : Nat} {h : mM} {L : mLs} {st : List Value} {a : Nat} {i : Int32} : ev d 122 417 L (.int i :: .ref a :: st) h = if (mK h a = 11 ∨ mK h a = 19) ∧ ixOK i (mL h a) = true then ev d 122 418 L (.int (mI h a i.toNatClampNeg) :: st) h else none := ev_ia d_122_417
theorem d_122_418 : decode (cd 122) 418 = .ok (.aload_n 0, 1) := by rw [cd_122]; decide +kernel
theorem e_122_418 {d : Nat} {h : mM} {T : mLs} {x : Nat} {st : List Value} : ev d 122 418 ( some (.ref x) :: T) st h = ev d 122 419 ( some (.ref x) :: T) (.ref x :: st) h := ev_of d_122_418 rfl
theorem d_122_419 : decode (cd 122) 419 = .ok (.iload_n 3, 1) := by rw [cd_122]; decide +kernel
theorem e_122_419 {d : Nat} {h : mM} {o0 o1 o2 : Option Value} {T : mLs} {x : Int32} {st : List Value} : ev d 122 419 (o0 :: o1 :: o2 :: some (.int x) :: T) st h = ev d 122 420 (o0 :: o1 :: o2 :: some (.int x) :: T) (.int x :: st) h := ev_of d_122_419 rfl
theorem d_122_420 : decode (cd 122) 420 = .ok (.iconst 2, 1) := by rw [cd_122]; decide +kernel
theorem e_122_420 {d : Nat} {h : mM} {L : mLs} {st : List Value} : ev d 122 420 L st h = ev d 122 421 L (.int 2 :: st) h := ev_of d_122_420 rfl
theorem d_122_421 : decode (cd 122) 421 = .ok (.iadd, 1) := by rw [cd_122]; decide +kernel
theorem e_122_421 {d : Nat} {h : mM} {L : mLs} {st : List Value} {x y : Int32} : ev d 122 421 L (.int y :: .int x :: st) h = ev d 122 422 L (.int (x + y) :: st) h := ev_of d_122_421 rfl
theorem d_122_422 : decode (cd 122) 422 = .ok (.iaload, 1) := by rw [cd_122]; decide +kernel
theorem e_122_422 {d : Nat} {h : mM} {L : mLs} {st : List Value} {a : Nat} {i : Int32} : ev d 122 422 L (.int i :: .ref a :: st) h = if (mK h a = 11 ∨ mK h a = 19) ∧ ixOK i (mL h a) = true then ev d 122 423 L (.int (mI h a i.toNatClampNeg) :: st) h else none := ev_ia d_122_422
theorem d_122_423 : decode (cd 122) 423 = .ok (.invokevirtual 57, 3) := by rw [cd_122]; decide +kernel
theorem e_122_423 {d : Nat} {h : mM} {L : mLs} {st : List Value} {a : Nat} {x0 : Int32} {x1 : Int32} (hc : mCat st ≤ 8) : ev (d + 1) 122 423 L (.int x1 :: .int x0 :: .ref a :: st) h = if mK h a = 10 then cV (ev d 91 0 [some (.ref a), some (.int x0), some (.int x1), none] [] h) (fun v h1 => ev (d + 1) 122 426 L (v ++ st) h1) else none := ev_cv (mj := 91) (as := [.int x0, .int x1]) (rest := st) d_122_423 (by decide +kernel) rfl rfl (by show _ ≤ List.length _; simp only [List.length_cons]; have : na 91 = 2 := rfl; omega) rfl (Nat.le_of_ble_eq_true rfl) hc
theorem d_122_426 : decode (cd 122) 426 = .ok (.lcmp, 1) := by rw [cd_122]; decide +kernel
theorem e_122_426 {d : Nat} {h : mM} {L : mLs} {st : List Value} {x y : Int64} : ev d 122 426 L (.long y :: .long x :: st) h = ev d 122 427 L (.int (lg_cmp x y) :: st) h := ev_of d_122_426 rfl
theorem d_122_427 : decode (cd 122) 427 = .ok (.ifCond .eq 655, 3) := by rw [cd_122]; decide +kernel
theorem e_122_427 {d : Nat} {h : mM} {L : mLs} {st : List Value} {x : Int32} : ev d 122 427 L (.int x :: st) h = if x = 0 then ev d 122 1082 L st h else ev d 122 430 L st h := ev_if (x = 0) inferInstance rfl d_122_427 (by decide)
theorem d_122_430 : decode (cd 122) 430 = .ok (.iconst 0, 1) := by rw [cd_122]; decide +kernel
theorem e_122_430 {d : Nat} {h : mM} {L : mLs} {st : List Value} : ev d 122 430 L st h = ev d 122 431 L (.int 0 :: st) h := ev_of d_122_430 rfl
theorem d_122_431 : decode (cd 122) 431 = .ok (.ireturn, 1) := by rw [cd_122]; decide +kernel
theorem e_122_431 {d : Nat} {h : mM} {L : mLs} {v : Int32} : ev d 122 431 L [.int v] h = if mZO v = true then some (some (.int v), h) else none := ev_rz d_122_431 (by decide +kernel)
theorem d_122_432 : decode (cd 122) 432 = .ok (.aload_n 1, 1) := by rw [cd_122]; decide +kernel
theorem e_122_432 {d : Nat} {h : mM} {o0 : Option Value} {T : mLs} {x : Nat} {st : List Value} : ev d 122 432 (o0 :: some (.ref x) :: T) st h = ev d 122 433 (o0 :: some (.ref x) :: T) (.ref x :: st) h := ev_of d_122_432 rfl
theorem d_122_433 : decode (cd 122) 433 = .ok (.aload_n 0, 1) := by rw [cd_122]; decide +kernel
theorem e_122_433 {d : Nat} {h : mM} {T : mLs} {x : Nat} {st : List Value} : ev d 122 433 ( some (.ref x) :: T) st h = ev d 122 434 ( some (.ref x) :: T) (.ref x :: st) h := ev_of d_122_433 rfl
theorem d_122_434 : decode (cd 122) 434 = .ok (.iload_n 3, 1) := by rw [cd_122]; decide +kernel
theorem e_122_434 {d : Nat} {h : mM} {o0 o1 o2 : Option Value} {T : mLs} {x : Int32} {st : List Value} : ev d 122 434 (o0 :: o1 :: o2 :: some (.int x) :: T) st h = ev d 122 435 (o0 :: o1 :: o2 :: some (.int x) :: T) (.int x :: st) h := ev_of d_122_434 rfl
theorem d_122_435 : decode (cd 122) 435 = .ok (.iconst 1, 1) := by rw [cd_122]; decide +kernel
theorem e_122_435 {d : Nat} {h : mM} {L : mLs} {st : List Value} : ev d 122 435 L st h = ev d 122 436 L (.int 1 :: st) h := ev_of d_122_435 rfl
theorem d_122_436 : decode (cd 122) 436 = .ok (.iadd, 1) := by rw [cd_122]; decide +kernel
theorem e_122_436 {d : Nat} {h : mM} {L : mLs} {st : List Value} {x y : Int32} : ev d 122 436 L (.int y :: .int x :: st) h = ev d 122 437 L (.int (x + y) :: st) h := ev_of d_122_436 rfl
theorem d_122_437 : decode (cd 122) 437 = .ok (.iaload, 1) := by rw [cd_122]; decide +kernel
theorem e_122_437 {d : Nat} {h : mM} {L : mLs} {st : List Value} {a : Nat} {i : Int32} : ev d 122 437 L (.int i :: .ref a :: st) h = if (mK h a = 11 ∨ mK h a = 19) ∧ ixOK i (mL h a) = true then ev d 122 438 L (.int (mI h a i.toNatClampNeg) :: st) h else none := ev_ia d_122_437
theorem d_122_438 : decode (cd 122) 438 = .ok (.aload_n 0, 1) := by rw [cd_122]; decide +kernel
theorem e_122_438 {d : Nat} {h : mM} {T : mLs} {x : Nat} {st : List Value} : ev d 122 438 ( some (.ref x) :: T) st h = ev d 122 439 ( some (.ref x) :: T) (.ref x :: st) h := ev_of d_122_438 rfl
theorem d_122_439 : decode (cd 122) 439 = .ok (.iload_n 3, 1) := by rw [cd_122]; decide +kernel
theorem e_122_439 {d : Nat} {h : mM} {o0 o1 o2 : Option Value} {T : mLs} {x : Int32} {st : List Value} : ev d 122 439 (o0 :: o1 :: o2 :: some (.int x) :: T) st h = ev d 122 440 (o0 :: o1 :: o2 :: some (.int x) :: T) (.int x :: st) h := ev_of d_122_439 rfl
theorem d_122_440 : decode (cd 122) 440 = .ok (.iconst 2, 1) := by rw [cd_122]; decide +kernel
theorem e_122_440 {d : Nat} {h : mM} {L : mLs} {st : List Value} : ev d 122 440 L st h = ev d 122 441 L (.int 2 :: st) h := ev_of d_122_440 rfl
theorem d_122_441 : decode (cd 122) 441 = .ok (.iadd, 1) := by rw [cd_122]; decide +kernel
theorem e_122_441 {d : Nat} {h : mM} {L : mLs} {st : List Value} {x y : Int32} : ev d 122 441 L (.int y :: .int x :: st) h = ev d 122 442 L (.int (x + y) :: st) h := ev_of d_122_441 rfl
theorem d_122_442 : decode (cd 122) 442 = .ok (.iaload, 1) := by rw [cd_122]; decide +kernel
theorem e_122_442 {d : Nat} {h : mM} {L : mLs} {st : List Value} {a : Nat} {i : Int32} : ev d 122 442 L (.int i :: .ref a :: st) h = if (mK h a = 11 ∨ mK h a = 19) ∧ ixOK i (mL h a) = true then ev d 122 443 L (.int (mI h a i.toNatClampNeg) :: st) h else none := ev_ia d_122_442
theorem d_122_443 : decode (cd 122) 443 = .ok (.invokevirtual 59, 3) := by rw [cd_122]; decide +kernel
theorem e_122_443 {d : Nat} {h : mM} {L : mLs} {st : List Value} {a : Nat} {x0 : Int32} {x1 : Int32} (hc : mCat st ≤ 8) : ev (d + 1) 122 443 L (.int x1 :: .int x0 :: .ref a :: st) h = if mK h a = 9 then cV (ev d 46 0 [some (.ref a), some (.int x0), some (.int x1), none] [] h) (fun v h1 => ev (d + 1) 122 446 L (v ++ st) h1) else none := ev_cv (mj := 46) (as := [.int x0, .int x1]) (rest := st) d_122_443 (by decide +kernel) rfl rfl (by show _ ≤ List.length _; simp only [List.length_cons]; have : na 46 = 2 := rfl; omega) rfl (Nat.le_of_ble_eq_true rfl) hc
theorem d_122_446 : decode (cd 122) 446 = .ok (.i2l, 1) := by rw [cd_122]; decide +kernel
theorem e_122_446 {d : Nat} {h : mM} {L : mLs} {st : List Value} {x : Int32} : ev d 122 446 L (.int x :: st) h = ev d 122 447 L (.long x.toInt64 :: st) h := ev_of d_122_446 rfl
theorem d_122_447 : decode (cd 122) 447 = .ok (.aload_n 2, 1) := by rw [cd_122]; decide +kernel
theorem e_122_447 {d : Nat} {h : mM} {o0 o1 : Option Value} {T : mLs} {x : Nat} {st : List Value} : ev d 122 447 (o0 :: o1 :: some (.ref x) :: T) st h = ev d 122 448 (o0 :: o1 :: some (.ref x) :: T) (.ref x :: st) h := ev_of d_122_447 rfl
theorem d_122_448 : decode (cd 122) 448 = .ok (.aload_n 0, 1) := by rw [cd_122]; decide +kernel
theorem e_122_448 {d : Nat} {h : mM} {T : mLs} {x : Nat} {st : List Value} : ev d 122 448 ( some (.ref x) :: T) st h = ev d 122 449 ( some (.ref x) :: T) (.ref x :: st) h := ev_of d_122_448 rfl
theorem d_122_449 : decode (cd 122) 449 = .ok (.iload_n 3, 1) := by rw [cd_122]; decide +kernel
theorem e_122_449 {d : Nat} {h : mM} {o0 o1 o2 : Option Value} {T : mLs} {x : Int32} {st : List Value} : ev d 122 449 (o0 :: o1 :: o2 :: some (.int x) :: T) st h = ev d 122 450 (o0 :: o1 :: o2 :: some (.int x) :: T) (.int x :: st) h := ev_of d_122_449 rfl
theorem d_122_450 : decode (cd 122) 450 = .ok (.iconst 1, 1) := by rw [cd_122]; decide +kernel
theorem e_122_450 {d : Nat} {h : mM} {L : mLs} {st : List Value} : ev d 122 450 L st h = ev d 122 451 L (.int 1 :: st) h := ev_of d_122_450 rfl
theorem d_122_451 : decode (cd 122) 451 = .ok (.iadd, 1) := by rw [cd_122]; decide +kernel
theorem e_122_451 {d : Nat} {h : mM} {L : mLs} {st : List Value} {x y : Int32} : ev d 122 451 L (.int y :: .int x :: st) h = ev d 122 452 L (.int (x + y) :: st) h := ev_of d_122_451 rfl
theorem d_122_452 : decode (cd 122) 452 = .ok (.iaload, 1) := by rw [cd_122]; decide +kernel
theorem e_122_452 {d : Nat} {h : mM} {L : mLs} {st : List Value} {a : Nat} {i : Int32} : ev d 122 452 L (.int i :: .ref a :: st) h = if (mK h a = 11 ∨ mK h a = 19) ∧ ixOK i (mL h a) = true then ev d 122 453 L (.int (mI h a i.toNatClampNeg) :: st) h else none := ev_ia d_122_452
theorem d_122_453 : decode (cd 122) 453 = .ok (.aload_n 0, 1) := by rw [cd_122]; decide +kernel
theorem e_122_453 {d : Nat} {h : mM} {T : mLs} {x : Nat} {st : List Value} : ev d 122 453 ( some (.ref x) :: T) st h = ev d 122 454 ( some (.ref x) :: T) (.ref x :: st) h := ev_of d_122_453 rfl
theorem d_122_454 : decode (cd 122) 454 = .ok (.iload_n 3, 1) := by rw [cd_122]; decide +kernel
theorem e_122_454 {d : Nat} {h : mM} {o0 o1 o2 : Option Value} {T : mLs} {x : Int32} {st : List Value} : ev d 122 454 (o0 :: o1 :: o2 :: some (.int x) :: T) st h = ev d 122 455 (o0 :: o1 :: o2 :: some (.int x) :: T) (.int x :: st) h := ev_of d_122_454 rfl
theorem d_122_455 : decode (cd 122) 455 = .ok (.iconst 2, 1) := by rw [cd_122]; decide +kernel
theorem e_122_455 {d : Nat} {h : mM} {L : mLs} {st : List Value} : ev d 122 455 L st h = ev d 122 456 L (.int 2 :: st) h := ev_of d_122_455 rfl
theorem d_122_456 : decode (cd 122) 456 = .ok (.iadd, 1) := by rw [cd_122]; decide +kernel
theorem e_122_456 {d : Nat} {h : mM} {L : mLs} {st : List Value} {x y : Int32} : ev d 122 456 L (.int y :: .int x :: st) h = ev d 122 457 L (.int (x + y) :: st) h := ev_of d_122_456 rfl
theorem d_122_457 : decode (cd 122) 457 = .ok (.iaload, 1) := by rw [cd_122]; decide +kernel
theorem e_122_457 {d : Nat} {h : mM} {L : mLs} {st : List Value} {a : Nat} {i : Int32} : ev d 122 457 L (.int i :: .ref a :: st) h = if (mK h a = 11 ∨ mK h a = 19) ∧ ixOK i (mL h a) = true then ev d 122 458 L (.int (mI h a i.toNatClampNeg) :: st) h else none := ev_ia d_122_457
theorem d_122_458 : decode (cd 122) 458 = .ok (.invokevirtual 62, 3) := by rw [cd_122]; decide +kernel
theorem e_122_458 {d : Nat} {h : mM} {L : mLs} {st : List Value} {a : Nat} {x0 : Int32} {x1 : Int32} (hc : mCat st ≤ 8) : ev (d + 1) 122 458 L (.int x1 :: .int x0 :: .ref a :: st) h = if mK h a = 10 then cV (ev d 92 0 [some (.ref a), some (.int x0), some (.int x1), none, none] [] h) (fun v h1 => ev (d + 1) 122 461 L (v ++ st) h1) else none := ev_cv (mj := 92) (as := [.int x0, .int x1]) (rest := st) d_122_458 (by decide +kernel) rfl rfl (by show _ ≤ List.length _; simp only [List.length_cons]; have : na 92 = 2 := rfl; omega) rfl (Nat.le_of_ble_eq_true rfl) hc
theorem d_122_461 : decode (cd 122) 461 = .ok (.lcmp, 1) := by rw [cd_122]; decide +kernel
theorem e_122_461 {d : Nat} {h : mM} {L : mLs} {st : List Value} {x y : Int64} : ev d 122 461 L (.long y :: .long x :: st) h = ev d 122 462 L (.int (lg_cmp x y) :: st) h := ev_of d_122_461 rfl
theorem d_122_462 : decode (cd 122) 462 = .ok (.ifCond .eq 620, 3) := by rw [cd_122]; decide +kernel
theorem e_122_462 {d : Nat} {h : mM} {L : mLs} {st : List Value} {x : Int32} : ev d 122 462 L (.int x :: st) h = if x = 0 then ev d 122 1082 L st h else ev d 122 465 L st h := ev_if (x = 0) inferInstance rfl d_122_462 (by decide)
theorem d_122_465 : decode (cd 122) 465 = .ok (.iconst 0, 1) := by rw [cd_122]; decide +kernel
theorem e_122_465 {d : Nat} {h : mM} {L : mLs} {st : List Value} : ev d 122 465 L st h = ev d 122 466 L (.int 0 :: st) h := ev_of d_122_465 rfl
theorem d_122_466 : decode (cd 122) 466 = .ok (.ireturn, 1) := by rw [cd_122]; decide +kernel
theorem e_122_466 {d : Nat} {h : mM} {L : mLs} {v : Int32} : ev d 122 466 L [.int v] h = if mZO v = true then some (some (.int v), h) else none := ev_rz d_122_466 (by decide +kernel)
theorem d_122_467 : decode (cd 122) 467 = .ok (.aload_n 1, 1) := by rw [cd_122]; decide +kernel
theorem e_122_467 {d : Nat} {h : mM} {o0 : Option Value} {T : mLs} {x : Nat} {st : List Value} : ev d 122 467 (o0 :: some (.ref x) :: T) st h = ev d 122 468 (o0 :: some (.ref x) :: T) (.ref x :: st) h := ev_of d_122_467 rfl
theorem d_122_468 : decode (cd 122) 468 = .ok (.aload_n 0, 1) := by rw [cd_122]; decide +kernel
theorem e_122_468 {d : Nat} {h : mM} {T : mLs} {x : Nat} {st : List Value} : ev d 122 468 ( some (.ref x) :: T) st h = ev d 122 469 ( some (.ref x) :: T) (.ref x :: st) h := ev_of d_122_468 rfl
theorem d_122_469 : decode (cd 122) 469 = .ok (.iload_n 3, 1) := by rw [cd_122]; decide +kernel
theorem e_122_469 {d : Nat} {h : mM} {o0 o1 o2 : Option Value} {T : mLs} {x : Int32} {st : List Value} : ev d 122 469 (o0 :: o1 :: o2 :: some (.int x) :: T) st h = ev d 122 470 (o0 :: o1 :: o2 :: some (.int x) :: T) (.int x :: st) h := ev_of d_122_469 rfl
theorem d_122_470 : decode (cd 122) 470 = .ok (.iconst 1, 1) := by rw [cd_122]; decide +kernel
theorem e_122_470 {d : Nat} {h : mM} {L : mLs} {st : List Value} : ev d 122 470 L st h = ev d 122 471 L (.int 1 :: st) h := ev_of d_122_470 rfl
theorem d_122_471 : decode (cd 122) 471 = .ok (.iadd, 1) := by rw [cd_122]; decide +kernel
theorem e_122_471 {d : Nat} {h : mM} {L : mLs} {st : List Value} {x y : Int32} : ev d 122 471 L (.int y :: .int x :: st) h = ev d 122 472 L (.int (x + y) :: st) h := ev_of d_122_471 rfl
theorem d_122_472 : decode (cd 122) 472 = .ok (.iaload, 1) := by rw [cd_122]; decide +kernel
theorem e_122_472 {d : Nat} {h : mM} {L : mLs} {st : List Value} {a : Nat} {i : Int32} : ev d 122 472 L (.int i :: .ref a :: st) h = if (mK h a = 11 ∨ mK h a = 19) ∧ ixOK i (mL h a) = true then ev d 122 473 L (.int (mI h a i.toNatClampNeg) :: st) h else none := ev_ia d_122_472
theorem d_122_473 : decode (cd 122) 473 = .ok (.aload_n 0, 1) := by rw [cd_122]; decide +kernel
theorem e_122_473 {d : Nat} {h : mM} {T : mLs} {x : Nat} {st : List Value} : ev d 122 473 ( some (.ref x) :: T) st h = ev d 122 474 ( some (.ref x) :: T) (.ref x :: st) h := ev_of d_122_473 rfl
theorem d_122_474 : decode (cd 122) 474 = .ok (.iload_n 3, 1) := by rw [cd_122]; decide +kernel
theorem e_122_474 {d : Nat} {h : mM} {o0 o1 o2 : Option Value} {T : mLs} {x : Int32} {st : List Value} : ev d 122 474 (o0 :: o1 :: o2 :: some (.int x) :: T) st h = ev d 122 475 (o0 :: o1 :: o2 :: some (.int x) :: T) (.int x :: st) h := ev_of d_122_474 rfl
theorem d_122_475 : decode (cd 122) 475 = .ok (.iconst 2, 1) := by rw [cd_122]; decide +kernel
theorem e_122_475 {d : Nat} {h : mM} {L : mLs} {st : List Value} : ev d 122 475 L st h = ev d 122 476 L (.int 2 :: st) h := ev_of d_122_475 rfl
theorem d_122_476 : decode (cd 122) 476 = .ok (.iadd, 1) := by rw [cd_122]; decide +kernel
theorem e_122_476 {d : Nat} {h : mM} {L : mLs} {st : List Value} {x y : Int32} : ev d 122 476 L (.int y :: .int x :: st) h = ev d 122 477 L (.int (x + y) :: st) h := ev_of d_122_476 rfl
theorem d_122_477 : decode (cd 122) 477 = .ok (.iaload, 1) := by rw [cd_122]; decide +kernel
theorem e_122_477 {d : Nat} {h : mM} {L : mLs} {st : List Value} {a : Nat} {i : Int32} : ev d 122 477 L (.int i :: .ref a :: st) h = if (mK h a = 11 ∨ mK h a = 19) ∧ ixOK i (mL h a) = true then ev d 122 478 L (.int (mI h a i.toNatClampNeg) :: st) h else none := ev_ia d_122_477
theorem d_122_478 : decode (cd 122) 478 = .ok (.aload_n 0, 1) := by rw [cd_122]; decide +kernel
theorem e_122_478 {d : Nat} {h : mM} {T : mLs} {x : Nat} {st : List Value} : ev d 122 478 ( some (.ref x) :: T) st h = ev d 122 479 ( some (.ref x) :: T) (.ref x :: st) h := ev_of d_122_478 rfl
theorem d_122_479 : decode (cd 122) 479 = .ok (.iload_n 3, 1) := by rw [cd_122]; decide +kernel
theorem e_122_479 {d : Nat} {h : mM} {o0 o1 o2 : Option Value} {T : mLs} {x : Int32} {st : List Value} : ev d 122 479 (o0 :: o1 :: o2 :: some (.int x) :: T) st h = ev d 122 480 (o0 :: o1 :: o2 :: some (.int x) :: T) (.int x :: st) h := ev_of d_122_479 rfl
theorem d_122_480 : decode (cd 122) 480 = .ok (.iconst 3, 1) := by rw [cd_122]; decide +kernel
theorem e_122_480 {d : Nat} {h : mM} {L : mLs} {st : List Value} : ev d 122 480 L st h = ev d 122 481 L (.int 3 :: st) h := ev_of d_122_480 rfl
theorem d_122_481 : decode (cd 122) 481 = .ok (.iadd, 1) := by rw [cd_122]; decide +kernel
theorem e_122_481 {d : Nat} {h : mM} {L : mLs} {st : List Value} {x y : Int32} : ev d 122 481 L (.int y :: .int x :: st) h = ev d 122 482 L (.int (x + y) :: st) h := ev_of d_122_481 rfl
theorem d_122_482 : decode (cd 122) 482 = .ok (.iaload, 1) := by rw [cd_122]; decide +kernel
theorem e_122_482 {d : Nat} {h : mM} {L : mLs} {st : List Value} {a : Nat} {i : Int32} : ev d 122 482 L (.int i :: .ref a :: st) h = if (mK h a = 11 ∨ mK h a = 19) ∧ ixOK i (mL h a) = true then ev d 122 483 L (.int (mI h a i.toNatClampNeg) :: st) h else none := ev_ia d_122_482
theorem d_122_483 : decode (cd 122) 483 = .ok (.aload_n 0, 1) := by rw [cd_122]; decide +kernel
theorem e_122_483 {d : Nat} {h : mM} {T : mLs} {x : Nat} {st : List Value} : ev d 122 483 ( some (.ref x) :: T) st h = ev d 122 484 ( some (.ref x) :: T) (.ref x :: st) h := ev_of d_122_483 rfl
theorem d_122_484 : decode (cd 122) 484 = .ok (.iload_n 3, 1) := by rw [cd_122]; decide +kernel
theorem e_122_484 {d : Nat} {h : mM} {o0 o1 o2 : Option Value} {T : mLs} {x : Int32} {st : List Value} : ev d 122 484 (o0 :: o1 :: o2 :: some (.int x) :: T) st h = ev d 122 485 (o0 :: o1 :: o2 :: some (.int x) :: T) (.int x :: st) h := ev_of d_122_484 rfl
theorem d_122_485 : decode (cd 122) 485 = .ok (.iconst 4, 1) := by rw [cd_122]; decide +kernel
theorem e_122_485 {d : Nat} {h : mM} {L : mLs} {st : List Value} : ev d 122 485 L st h = ev d 122 486 L (.int 4 :: st) h := ev_of d_122_485 rfl
theorem d_122_486 : decode (cd 122) 486 = .ok (.iadd, 1) := by rw [cd_122]; decide +kernel
theorem e_122_486 {d : Nat} {h : mM} {L : mLs} {st : List Value} {x y : Int32} : ev d 122 486 L (.int y :: .int x :: st) h = ev d 122 487 L (.int (x + y) :: st) h := ev_of d_122_486 rfl
theorem d_122_487 : decode (cd 122) 487 = .ok (.iaload, 1) := by rw [cd_122]; decide +kernel
theorem e_122_487 {d : Nat} {h : mM} {L : mLs} {st : List Value} {a : Nat} {i : Int32} : ev d 122 487 L (.int i :: .ref a :: st) h = if (mK h a = 11 ∨ mK h a = 19) ∧ ixOK i (mL h a) = true then ev d 122 488 L (.int (mI h a i.toNatClampNeg) :: st) h else none := ev_ia d_122_487
theorem d_122_488 : decode (cd 122) 488 = .ok (.aload_n 0, 1) := by rw [cd_122]; decide +kernel
theorem e_122_488 {d : Nat} {h : mM} {T : mLs} {x : Nat} {st : List Value} : ev d 122 488 ( some (.ref x) :: T) st h = ev d 122 489 ( some (.ref x) :: T) (.ref x :: st) h := ev_of d_122_488 rfl
theorem d_122_489 : decode (cd 122) 489 = .ok (.iload_n 3, 1) := by rw [cd_122]; decide +kernel
theorem e_122_489 {d : Nat} {h : mM} {o0 o1 o2 : Option Value} {T : mLs} {x : Int32} {st : List Value} : ev d 122 489 (o0 :: o1 :: o2 :: some (.int x) :: T) st h = ev d 122 490 (o0 :: o1 :: o2 :: some (.int x) :: T) (.int x :: st) h := ev_of d_122_489 rfl
theorem d_122_490 : decode (cd 122) 490 = .ok (.iconst 5, 1) := by rw [cd_122]; decide +kernel
theorem e_122_490 {d : Nat} {h : mM} {L : mLs} {st : List Value} : ev d 122 490 L st h = ev d 122 491 L (.int 5 :: st) h := ev_of d_122_490 rfl
theorem d_122_491 : decode (cd 122) 491 = .ok (.iadd, 1) := by rw [cd_122]; decide +kernel
theorem e_122_491 {d : Nat} {h : mM} {L : mLs} {st : List Value} {x y : Int32} : ev d 122 491 L (.int y :: .int x :: st) h = ev d 122 492 L (.int (x + y) :: st) h := ev_of d_122_491 rfl
theorem d_122_492 : decode (cd 122) 492 = .ok (.iaload, 1) := by rw [cd_122]; decide +kernel
theorem e_122_492 {d : Nat} {h : mM} {L : mLs} {st : List Value} {a : Nat} {i : Int32} : ev d 122 492 L (.int i :: .ref a :: st) h = if (mK h a = 11 ∨ mK h a = 19) ∧ ixOK i (mL h a) = true then ev d 122 493 L (.int (mI h a i.toNatClampNeg) :: st) h else none := ev_ia d_122_492
theorem d_122_493 : decode (cd 122) 493 = .ok (.invokevirtual 64, 3) := by rw [cd_122]; decide +kernel
theorem e_122_493 {d : Nat} {h : mM} {L : mLs} {st : List Value} {a : Nat} {x0 : Int32} {x1 : Int32} {x2 : Int32} {x3 : Int32} {x4 : Int32} (hc : mCat st ≤ 8) : ev (d + 1) 122 493 L (.int x4 :: .int x3 :: .int x2 :: .int x1 :: .int x0 :: .ref a :: st) h = if mK h a = 9 then cV (ev d 47 0 [some (.ref a), some (.int x0), some (.int x1), some (.int x2), some (.int x3), some (.int x4), none, none] [] h) (fun v h1 => ev (d + 1) 122 496 L (v ++ st) h1) else none := ev_cv (mj := 47) (as := [.int x0, .int x1, .int x2, .int x3, .int x4]) (rest := st) d_122_493 (by decide +kernel) rfl rfl (by show _ ≤ List.length _; simp only [List.length_cons]; have : na 47 = 5 := rfl; omega) rfl (Nat.le_of_ble_eq_true rfl) hc
theorem d_122_496 : decode (cd 122) 496 = .ok (.i2l, 1) := by rw [cd_122]; decide +kernel
theorem e_122_496 {d : Nat} {h : mM} {L : mLs} {st : List Value} {x : Int32} : ev d 122 496 L (.int x :: st) h = ev d 122 497 L (.long x.toInt64 :: st) h := ev_of d_122_496 rfl
theorem d_122_497 : decode (cd 122) 497 = .ok (.aload_n 2, 1) := by rw [cd_122]; decide +kernel
theorem e_122_497 {d : Nat} {h : mM} {o0 o1 : Option Value} {T : mLs} {x : Nat} {st : List Value} : ev d 122 497 (o0 :: o1 :: some (.ref x) :: T) st h = ev d 122 498 (o0 :: o1 :: some (.ref x) :: T) (.ref x :: st) h := ev_of d_122_497 rfl
theorem d_122_498 : decode (cd 122) 498 = .ok (.aload_n 0, 1) := by rw [cd_122]; decide +kernel
theorem e_122_498 {d : Nat} {h : mM} {T : mLs} {x : Nat} {st : List Value} : ev d 122 498 ( some (.ref x) :: T) st h = ev d 122 499 ( some (.ref x) :: T) (.ref x :: st) h := ev_of d_122_498 rfl
theorem d_122_499 : decode (cd 122) 499 = .ok (.iload_n 3, 1) := by rw [cd_122]; decide +kernel
theorem e_122_499 {d : Nat} {h : mM} {o0 o1 o2 : Option Value} {T : mLs} {x : Int32} {st : List Value} : ev d 122 499 (o0 :: o1 :: o2 :: some (.int x) :: T) st h = ev d 122 500 (o0 :: o1 :: o2 :: some (.int x) :: T) (.int x :: st) h := ev_of d_122_499 rfl
theorem d_122_500 : decode (cd 122) 500 = .ok (.iconst 1, 1) := by rw [cd_122]; decide +kernel
theorem e_122_500 {d : Nat} {h : mM} {L : mLs} {st : List Value} : ev d 122 500 L st h = ev d 122 501 L (.int 1 :: st) h := ev_of d_122_500 rfl
theorem d_122_501 : decode (cd 122) 501 = .ok (.iadd, 1) := by rw [cd_122]; decide +kernel
theorem e_122_501 {d : Nat} {h : mM} {L : mLs} {st : List Value} {x y : Int32} : ev d 122 501 L (.int y :: .int x :: st) h = ev d 122 502 L (.int (x + y) :: st) h := ev_of d_122_501 rfl
theorem d_122_502 : decode (cd 122) 502 = .ok (.iaload, 1) := by rw [cd_122]; decide +kernel
theorem e_122_502 {d : Nat} {h : mM} {L : mLs} {st : List Value} {a : Nat} {i : Int32} : ev d 122 502 L (.int i :: .ref a :: st) h = if (mK h a = 11 ∨ mK h a = 19) ∧ ixOK i (mL h a) = true then ev d 122 503 L (.int (mI h a i.toNatClampNeg) :: st) h else none := ev_ia d_122_502
theorem d_122_503 : decode (cd 122) 503 = .ok (.aload_n 0, 1) := by rw [cd_122]; decide +kernel
theorem e_122_503 {d : Nat} {h : mM} {T : mLs} {x : Nat} {st : List Value} : ev d 122 503 ( some (.ref x) :: T) st h = ev d 122 504 ( some (.ref x) :: T) (.ref x :: st) h := ev_of d_122_503 rfl
theorem d_122_504 : decode (cd 122) 504 = .ok (.iload_n 3, 1) := by rw [cd_122]; decide +kernel
theorem e_122_504 {d : Nat} {h : mM} {o0 o1 o2 : Option Value} {T : mLs} {x : Int32} {st : List Value} : ev d 122 504 (o0 :: o1 :: o2 :: some (.int x) :: T) st h = ev d 122 505 (o0 :: o1 :: o2 :: some (.int x) :: T) (.int x :: st) h := ev_of d_122_504 rfl
theorem d_122_505 : decode (cd 122) 505 = .ok (.iconst 2, 1) := by rw [cd_122]; decide +kernel
theorem e_122_505 {d : Nat} {h : mM} {L : mLs} {st : List Value} : ev d 122 505 L st h = ev d 122 506 L (.int 2 :: st) h := ev_of d_122_505 rfl
theorem d_122_506 : decode (cd 122) 506 = .ok (.iadd, 1) := by rw [cd_122]; decide +kernel
theorem e_122_506 {d : Nat} {h : mM} {L : mLs} {st : List Value} {x y : Int32} : ev d 122 506 L (.int y :: .int x :: st) h = ev d 122 507 L (.int (x + y) :: st) h := ev_of d_122_506 rfl
theorem d_122_507 : decode (cd 122) 507 = .ok (.iaload, 1) := by rw [cd_122]; decide +kernel
theorem e_122_507 {d : Nat} {h : mM} {L : mLs} {st : List Value} {a : Nat} {i : Int32} : ev d 122 507 L (.int i :: .ref a :: st) h = if (mK h a = 11 ∨ mK h a = 19) ∧ ixOK i (mL h a) = true then ev d 122 508 L (.int (mI h a i.toNatClampNeg) :: st) h else none := ev_ia d_122_507
theorem d_122_508 : decode (cd 122) 508 = .ok (.aload_n 0, 1) := by rw [cd_122]; decide +kernel
theorem e_122_508 {d : Nat} {h : mM} {T : mLs} {x : Nat} {st : List Value} : ev d 122 508 ( some (.ref x) :: T) st h = ev d 122 509 ( some (.ref x) :: T) (.ref x :: st) h := ev_of d_122_508 rfl
theorem d_122_509 : decode (cd 122) 509 = .ok (.iload_n 3, 1) := by rw [cd_122]; decide +kernel
theorem e_122_509 {d : Nat} {h : mM} {o0 o1 o2 : Option Value} {T : mLs} {x : Int32} {st : List Value} : ev d 122 509 (o0 :: o1 :: o2 :: some (.int x) :: T) st h = ev d 122 510 (o0 :: o1 :: o2 :: some (.int x) :: T) (.int x :: st) h := ev_of d_122_509 rfl
theorem d_122_510 : decode (cd 122) 510 = .ok (.iconst 3, 1) := by rw [cd_122]; decide +kernel
theorem e_122_510 {d : Nat} {h : mM} {L : mLs} {st : List Value} : ev d 122 510 L st h = ev d 122 511 L (.int 3 :: st) h := ev_of d_122_510 rfl
theorem d_122_511 : decode (cd 122) 511 = .ok (.iadd, 1) := by rw [cd_122]; decide +kernel
theorem e_122_511 {d : Nat} {h : mM} {L : mLs} {st : List Value} {x y : Int32} : ev d 122 511 L (.int y :: .int x :: st) h = ev d 122 512 L (.int (x + y) :: st) h := ev_of d_122_511 rfl
theorem d_122_512 : decode (cd 122) 512 = .ok (.iaload, 1) := by rw [cd_122]; decide +kernel
theorem e_122_512 {d : Nat} {h : mM} {L : mLs} {st : List Value} {a : Nat} {i : Int32} : ev d 122 512 L (.int i :: .ref a :: st) h = if (mK h a = 11 ∨ mK h a = 19) ∧ ixOK i (mL h a) = true then ev d 122 513 L (.int (mI h a i.toNatClampNeg) :: st) h else none := ev_ia d_122_512
theorem d_122_513 : decode (cd 122) 513 = .ok (.aload_n 0, 1) := by rw [cd_122]; decide +kernel
theorem e_122_513 {d : Nat} {h : mM} {T : mLs} {x : Nat} {st : List Value} : ev d 122 513 ( some (.ref x) :: T) st h = ev d 122 514 ( some (.ref x) :: T) (.ref x :: st) h := ev_of d_122_513 rfl
theorem d_122_514 : decode (cd 122) 514 = .ok (.iload_n 3, 1) := by rw [cd_122]; decide +kernel
theorem e_122_514 {d : Nat} {h : mM} {o0 o1 o2 : Option Value} {T : mLs} {x : Int32} {st : List Value} : ev d 122 514 (o0 :: o1 :: o2 :: some (.int x) :: T) st h = ev d 122 515 (o0 :: o1 :: o2 :: some (.int x) :: T) (.int x :: st) h := ev_of d_122_514 rfl
theorem d_122_515 : decode (cd 122) 515 = .ok (.iconst 4, 1) := by rw [cd_122]; decide +kernel
theorem e_122_515 {d : Nat} {h : mM} {L : mLs} {st : List Value} : ev d 122 515 L st h = ev d 122 516 L (.int 4 :: st) h := ev_of d_122_515 rfl
theorem d_122_516 : decode (cd 122) 516 = .ok (.iadd, 1) := by rw [cd_122]; decide +kernel
theorem e_122_516 {d : Nat} {h : mM} {L : mLs} {st : List Value} {x y : Int32} : ev d 122 516 L (.int y :: .int x :: st) h = ev d 122 517 L (.int (x + y) :: st) h := ev_of d_122_516 rfl
theorem d_122_517 : decode (cd 122) 517 = .ok (.iaload, 1) := by rw [cd_122]; decide +kernel
theorem e_122_517 {d : Nat} {h : mM} {L : mLs} {st : List Value} {a : Nat} {i : Int32} : ev d 122 517 L (.int i :: .ref a :: st) h = if (mK h a = 11 ∨ mK h a = 19) ∧ ixOK i (mL h a) = true then ev d 122 518 L (.int (mI h a i.toNatClampNeg) :: st) h else none := ev_ia d_122_517
theorem d_122_518 : decode (cd 122) 518 = .ok (.aload_n 0, 1) := by rw [cd_122]; decide +kernel
theorem e_122_518 {d : Nat} {h : mM} {T : mLs} {x : Nat} {st : List Value} : ev d 122 518 ( some (.ref x) :: T) st h = ev d 122 519 ( some (.ref x) :: T) (.ref x :: st) h := ev_of d_122_518 rfl
theorem d_122_519 : decode (cd 122) 519 = .ok (.iload_n 3, 1) := by rw [cd_122]; decide +kernel
theorem e_122_519 {d : Nat} {h : mM} {o0 o1 o2 : Option Value} {T : mLs} {x : Int32} {st : List Value} : ev d 122 519 (o0 :: o1 :: o2 :: some (.int x) :: T) st h = ev d 122 520 (o0 :: o1 :: o2 :: some (.int x) :: T) (.int x :: st) h := ev_of d_122_519 rfl
theorem d_122_520 : decode (cd 122) 520 = .ok (.iconst 5, 1) := by rw [cd_122]; decide +kernel
theorem e_122_520 {d : Nat} {h : mM} {L : mLs} {st : List Value} : ev d 122 520 L st h = ev d 122 521 L (.int 5 :: st) h := ev_of d_122_520 rfl
theorem d_122_521 : decode (cd 122) 521 = .ok (.iadd, 1) := by rw [cd_122]; decide +kernel
theorem e_122_521 {d : Nat} {h : mM} {L : mLs} {st : List Value} {x y : Int32} : ev d 122 521 L (.int y :: .int x :: st) h = ev d 122 522 L (.int (x + y) :: st) h := ev_of d_122_521 rfl
theorem d_122_522 : decode (cd 122) 522 = .ok (.iaload, 1) := by rw [cd_122]; decide +kernel
theorem e_122_522 {d : Nat} {h : mM} {L : mLs} {st : List Value} {a : Nat} {i : Int32} : ev d 122 522 L (.int i :: .ref a :: st) h = if (mK h a = 11 ∨ mK h a = 19) ∧ ixOK i (mL h a) = true then ev d 122 523 L (.int (mI h a i.toNatClampNeg) :: st) h else none := ev_ia d_122_522
theorem d_122_523 : decode (cd 122) 523 = .ok (.invokevirtual 68, 3) := by rw [cd_122]; decide +kernel
theorem e_122_523 {d : Nat} {h : mM} {L : mLs} {st : List Value} {a : Nat} {x0 : Int32} {x1 : Int32} {x2 : Int32} {x3 : Int32} {x4 : Int32} (hc : mCat st ≤ 8) : ev (d + 1) 122 523 L (.int x4 :: .int x3 :: .int x2 :: .int x1 :: .int x0 :: .ref a :: st) h = if mK h a = 10 then cV (ev d 93 0 [some (.ref a), some (.int x0), some (.int x1), some (.int x2), some (.int x3), some (.int x4)] [] h) (fun v h1 => ev (d + 1) 122 526 L (v ++ st) h1) else none := ev_cv (mj := 93) (as := [.int x0, .int x1, .int x2, .int x3, .int x4]) (rest := st) d_122_523 (by decide +kernel) rfl rfl (by show _ ≤ List.length _; simp only [List.length_cons]; have : na 93 = 5 := rfl; omega) rfl (Nat.le_of_ble_eq_true rfl) hc
theorem d_122_526 : decode (cd 122) 526 = .ok (.lcmp, 1) := by rw [cd_122]; decide +kernel
theorem e_122_526 {d : Nat} {h : mM} {L : mLs} {st : List Value} {x y : Int64} : ev d 122 526 L (.long y :: .long x :: st) h = ev d 122 527 L (.int (lg_cmp x y) :: st) h := ev_of d_122_526 rfl
theorem d_122_527 : decode (cd 122) 527 = .ok (.ifCond .eq 555, 3) := by rw [cd_122]; decide +kernel
theorem e_122_527 {d : Nat} {h : mM} {L : mLs} {st : List Value} {x : Int32} : ev d 122 527 L (.int x :: st) h = if x = 0 then ev d 122 1082 L st h else ev d 122 530 L st h := ev_if (x = 0) inferInstance rfl d_122_527 (by decide)
theorem d_122_530 : decode (cd 122) 530 = .ok (.iconst 0, 1) := by rw [cd_122]; decide +kernel
theorem e_122_530 {d : Nat} {h : mM} {L : mLs} {st : List Value} : ev d 122 530 L st h = ev d 122 531 L (.int 0 :: st) h := ev_of d_122_530 rfl
theorem d_122_531 : decode (cd 122) 531 = .ok (.ireturn, 1) := by rw [cd_122]; decide +kernel
theorem e_122_531 {d : Nat} {h : mM} {L : mLs} {v : Int32} : ev d 122 531 L [.int v] h = if mZO v = true then some (some (.int v), h) else none := ev_rz d_122_531 (by decide +kernel)
theorem d_122_532 : decode (cd 122) 532 = .ok (.aload_n 1, 1) := by rw [cd_122]; decide +kernel
theorem e_122_532 {d : Nat} {h : mM} {o0 : Option Value} {T : mLs} {x : Nat} {st : List Value} : ev d 122 532 (o0 :: some (.ref x) :: T) st h = ev d 122 533 (o0 :: some (.ref x) :: T) (.ref x :: st) h := ev_of d_122_532 rfl
theorem d_122_533 : decode (cd 122) 533 = .ok (.aload_n 0, 1) := by rw [cd_122]; decide +kernel
theorem e_122_533 {d : Nat} {h : mM} {T : mLs} {x : Nat} {st : List Value} : ev d 122 533 ( some (.ref x) :: T) st h = ev d 122 534 ( some (.ref x) :: T) (.ref x :: st) h := ev_of d_122_533 rfl
theorem d_122_534 : decode (cd 122) 534 = .ok (.iload_n 3, 1) := by rw [cd_122]; decide +kernel
theorem e_122_534 {d : Nat} {h : mM} {o0 o1 o2 : Option Value} {T : mLs} {x : Int32} {st : List Value} : ev d 122 534 (o0 :: o1 :: o2 :: some (.int x) :: T) st h = ev d 122 535 (o0 :: o1 :: o2 :: some (.int x) :: T) (.int x :: st) h := ev_of d_122_534 rfl
theorem d_122_535 : decode (cd 122) 535 = .ok (.iconst 1, 1) := by rw [cd_122]; decide +kernel
theorem e_122_535 {d : Nat} {h : mM} {L : mLs} {st : List Value} : ev d 122 535 L st h = ev d 122 536 L (.int 1 :: st) h := ev_of d_122_535 rfl
theorem d_122_536 : decode (cd 122) 536 = .ok (.iadd, 1) := by rw [cd_122]; decide +kernel
theorem e_122_536 {d : Nat} {h : mM} {L : mLs} {st : List Value} {x y : Int32} : ev d 122 536 L (.int y :: .int x :: st) h = ev d 122 537 L (.int (x + y) :: st) h := ev_of d_122_536 rfl
theorem d_122_537 : decode (cd 122) 537 = .ok (.iaload, 1) := by rw [cd_122]; decide +kernel
theorem e_122_537 {d : Nat} {h : mM} {L : mLs} {st : List Value} {a : Nat} {i : Int32} : ev d 122 537 L (.int i :: .ref a :: st) h = if (mK h a = 11 ∨ mK h a = 19) ∧ ixOK i (mL h a) = true then ev d 122 538 L (.int (mI h a i.toNatClampNeg) :: st) h else none := ev_ia d_122_537
theorem d_122_538 : decode (cd 122) 538 = .ok (.aload_n 0, 1) := by rw [cd_122]; decide +kernel
theorem e_122_538 {d : Nat} {h : mM} {T : mLs} {x : Nat} {st : List Value} : ev d 122 538 ( some (.ref x) :: T) st h = ev d 122 539 ( some (.ref x) :: T) (.ref x :: st) h := ev_of d_122_538 rfl
theorem d_122_539 : decode (cd 122) 539 = .ok (.iload_n 3, 1) := by rw [cd_122]; decide +kernel
theorem e_122_539 {d : Nat} {h : mM} {o0 o1 o2 : Option Value} {T : mLs} {x : Int32} {st : List Value} : ev d 122 539 (o0 :: o1 :: o2 :: some (.int x) :: T) st h = ev d 122 540 (o0 :: o1 :: o2 :: some (.int x) :: T) (.int x :: st) h := ev_of d_122_539 rfl
theorem d_122_540 : decode (cd 122) 540 = .ok (.iconst 2, 1) := by rw [cd_122]; decide +kernel
theorem e_122_540 {d : Nat} {h : mM} {L : mLs} {st : List Value} : ev d 122 540 L st h = ev d 122 541 L (.int 2 :: st) h := ev_of d_122_540 rfl
theorem d_122_541 : decode (cd 122) 541 = .ok (.iadd, 1) := by rw [cd_122]; decide +kernel
theorem e_122_541 {d : Nat} {h : mM} {L : mLs} {st : List Value} {x y : Int32} : ev d 122 541 L (.int y :: .int x :: st) h = ev d 122 542 L (.int (x + y) :: st) h := ev_of d_122_541 rfl
theorem d_122_542 : decode (cd 122) 542 = .ok (.iaload, 1) := by rw [cd_122]; decide +kernel
theorem e_122_542 {d : Nat} {h : mM} {L : mLs} {st : List Value} {a : Nat} {i : Int32} : ev d 122 542 L (.int i :: .ref a :: st) h = if (mK h a = 11 ∨ mK h a = 19) ∧ ixOK i (mL h a) = true then ev d 122 543 L (.int (mI h a i.toNatClampNeg) :: st) h else none := ev_ia d_122_542
theorem d_122_543 : decode (cd 122) 543 = .ok (.invokevirtual 71, 3) := by rw [cd_122]; decide +kernel
theorem e_122_543 {d : Nat} {h : mM} {L : mLs} {st : List Value} {a : Nat} {x0 : Int32} {x1 : Int32} (hc : mCat st ≤ 8) : ev (d + 1) 122 543 L (.int x1 :: .int x0 :: .ref a :: st) h = if mK h a = 9 then cV (ev d 48 0 [some (.ref a), some (.int x0), some (.int x1)] [] h) (fun v h1 => ev (d + 1) 122 546 L (v ++ st) h1) else none := ev_cv (mj := 48) (as := [.int x0, .int x1]) (rest := st) d_122_543 (by decide +kernel) rfl rfl (by show _ ≤ List.length _; simp only [List.length_cons]; have : na 48 = 2 := rfl; omega) rfl (Nat.le_of_ble_eq_true rfl) hc
theorem d_122_546 : decode (cd 122) 546 = .ok (.i2l, 1) := by rw [cd_122]; decide +kernel
theorem e_122_546 {d : Nat} {h : mM} {L : mLs} {st : List Value} {x : Int32} : ev d 122 546 L (.int x :: st) h = ev d 122 547 L (.long x.toInt64 :: st) h := ev_of d_122_546 rfl
theorem d_122_547 : decode (cd 122) 547 = .ok (.aload_n 2, 1) := by rw [cd_122]; decide +kernel
theorem e_122_547 {d : Nat} {h : mM} {o0 o1 : Option Value} {T : mLs} {x : Nat} {st : List Value} : ev d 122 547 (o0 :: o1 :: some (.ref x) :: T) st h = ev d 122 548 (o0 :: o1 :: some (.ref x) :: T) (.ref x :: st) h := ev_of d_122_547 rfl
theorem d_122_548 : decode (cd 122) 548 = .ok (.aload_n 0, 1) := by rw [cd_122]; decide +kernel
theorem e_122_548 {d : Nat} {h : mM} {T : mLs} {x : Nat} {st : List Value} : ev d 122 548 ( some (.ref x) :: T) st h = ev d 122 549 ( some (.ref x) :: T) (.ref x :: st) h := ev_of d_122_548 rfl
theorem d_122_549 : decode (cd 122) 549 = .ok (.iload_n 3, 1) := by rw [cd_122]; decide +kernel
theorem e_122_549 {d : Nat} {h : mM} {o0 o1 o2 : Option Value} {T : mLs} {x : Int32} {st : List Value} : ev d 122 549 (o0 :: o1 :: o2 :: some (.int x) :: T) st h = ev d 122 550 (o0 :: o1 :: o2 :: some (.int x) :: T) (.int x :: st) h := ev_of d_122_549 rfl
theorem d_122_550 : decode (cd 122) 550 = .ok (.iconst 1, 1) := by rw [cd_122]; decide +kernel
theorem e_122_550 {d : Nat} {h : mM} {L : mLs} {st : List Value} : ev d 122 550 L st h = ev d 122 551 L (.int 1 :: st) h := ev_of d_122_550 rfl
theorem d_122_551 : decode (cd 122) 551 = .ok (.iadd, 1) := by rw [cd_122]; decide +kernel
theorem e_122_551 {d : Nat} {h : mM} {L : mLs} {st : List Value} {x y : Int32} : ev d 122 551 L (.int y :: .int x :: st) h = ev d 122 552 L (.int (x + y) :: st) h := ev_of d_122_551 rfl
theorem d_122_552 : decode (cd 122) 552 = .ok (.iaload, 1) := by rw [cd_122]; decide +kernel
theorem e_122_552 {d : Nat} {h : mM} {L : mLs} {st : List Value} {a : Nat} {i : Int32} : ev d 122 552 L (.int i :: .ref a :: st) h = if (mK h a = 11 ∨ mK h a = 19) ∧ ixOK i (mL h a) = true then ev d 122 553 L (.int (mI h a i.toNatClampNeg) :: st) h else none := ev_ia d_122_552
theorem d_122_553 : decode (cd 122) 553 = .ok (.aload_n 0, 1) := by rw [cd_122]; decide +kernel
theorem e_122_553 {d : Nat} {h : mM} {T : mLs} {x : Nat} {st : List Value} : ev d 122 553 ( some (.ref x) :: T) st h = ev d 122 554 ( some (.ref x) :: T) (.ref x :: st) h := ev_of d_122_553 rfl
theorem d_122_554 : decode (cd 122) 554 = .ok (.iload_n 3, 1) := by rw [cd_122]; decide +kernel
theorem e_122_554 {d : Nat} {h : mM} {o0 o1 o2 : Option Value} {T : mLs} {x : Int32} {st : List Value} : ev d 122 554 (o0 :: o1 :: o2 :: some (.int x) :: T) st h = ev d 122 555 (o0 :: o1 :: o2 :: some (.int x) :: T) (.int x :: st) h := ev_of d_122_554 rfl
theorem d_122_555 : decode (cd 122) 555 = .ok (.iconst 2, 1) := by rw [cd_122]; decide +kernel
theorem e_122_555 {d : Nat} {h : mM} {L : mLs} {st : List Value} : ev d 122 555 L st h = ev d 122 556 L (.int 2 :: st) h := ev_of d_122_555 rfl
theorem d_122_556 : decode (cd 122) 556 = .ok (.iadd, 1) := by rw [cd_122]; decide +kernel
theorem e_122_556 {d : Nat} {h : mM} {L : mLs} {st : List Value} {x y : Int32} : ev d 122 556 L (.int y :: .int x :: st) h = ev d 122 557 L (.int (x + y) :: st) h := ev_of d_122_556 rfl
theorem d_122_557 : decode (cd 122) 557 = .ok (.iaload, 1) := by rw [cd_122]; decide +kernel
theorem e_122_557 {d : Nat} {h : mM} {L : mLs} {st : List Value} {a : Nat} {i : Int32} : ev d 122 557 L (.int i :: .ref a :: st) h = if (mK h a = 11 ∨ mK h a = 19) ∧ ixOK i (mL h a) = true then ev d 122 558 L (.int (mI h a i.toNatClampNeg) :: st) h else none := ev_ia d_122_557
theorem d_122_558 : decode (cd 122) 558 = .ok (.invokevirtual 74, 3) := by rw [cd_122]; decide +kernel
theorem e_122_558 {d : Nat} {h : mM} {L : mLs} {st : List Value} {a : Nat} {x0 : Int32} {x1 : Int32} (hc : mCat st ≤ 8) : ev (d + 1) 122 558 L (.int x1 :: .int x0 :: .ref a :: st) h = if mK h a = 10 then cV (ev d 94 0 [some (.ref a), some (.int x0), some (.int x1)] [] h) (fun v h1 => ev (d + 1) 122 561 L (v ++ st) h1) else none := ev_cv (mj := 94) (as := [.int x0, .int x1]) (rest := st) d_122_558 (by decide +kernel) rfl rfl (by show _ ≤ List.length _; simp only [List.length_cons]; have : na 94 = 2 := rfl; omega) rfl (Nat.le_of_ble_eq_true rfl) hc
theorem d_122_561 : decode (cd 122) 561 = .ok (.lcmp, 1) := by rw [cd_122]; decide +kernel
theorem e_122_561 {d : Nat} {h : mM} {L : mLs} {st : List Value} {x y : Int64} : ev d 122 561 L (.long y :: .long x :: st) h = ev d 122 562 L (.int (lg_cmp x y) :: st) h := ev_of d_122_561 rfl
theorem d_122_562 : decode (cd 122) 562 = .ok (.ifCond .eq 520, 3) := by rw [cd_122]; decide +kernel
theorem e_122_562 {d : Nat} {h : mM} {L : mLs} {st : List Value} {x : Int32} : ev d 122 562 L (.int x :: st) h = if x = 0 then ev d 122 1082 L st h else ev d 122 565 L st h := ev_if (x = 0) inferInstance rfl d_122_562 (by decide)
theorem d_122_565 : decode (cd 122) 565 = .ok (.iconst 0, 1) := by rw [cd_122]; decide +kernel
theorem e_122_565 {d : Nat} {h : mM} {L : mLs} {st : List Value} : ev d 122 565 L st h = ev d 122 566 L (.int 0 :: st) h := ev_of d_122_565 rfl
theorem d_122_566 : decode (cd 122) 566 = .ok (.ireturn, 1) := by rw [cd_122]; decide +kernel
theorem e_122_566 {d : Nat} {h : mM} {L : mLs} {v : Int32} : ev d 122 566 L [.int v] h = if mZO v = true then some (some (.int v), h) else none := ev_rz d_122_566 (by decide +kernel)
theorem d_122_567 : decode (cd 122) 567 = .ok (.aload_n 1, 1) := by rw [cd_122]; decide +kernel
theorem e_122_567 {d : Nat} {h : mM} {o0 : Option Value} {T : mLs} {x : Nat} {st : List Value} : ev d 122 567 (o0 :: some (.ref x) :: T) st h = ev d 122 568 (o0 :: some (.ref x) :: T) (.ref x :: st) h := ev_of d_122_567 rfl
theorem d_122_568 : decode (cd 122) 568 = .ok (.aload_n 0, 1) := by rw [cd_122]; decide +kernel
theorem e_122_568 {d : Nat} {h : mM} {T : mLs} {x : Nat} {st : List Value} : ev d 122 568 ( some (.ref x) :: T) st h = ev d 122 569 ( some (.ref x) :: T) (.ref x :: st) h := ev_of d_122_568 rfl
theorem d_122_569 : decode (cd 122) 569 = .ok (.iload_n 3, 1) := by rw [cd_122]; decide +kernel
theorem e_122_569 {d : Nat} {h : mM} {o0 o1 o2 : Option Value} {T : mLs} {x : Int32} {st : List Value} : ev d 122 569 (o0 :: o1 :: o2 :: some (.int x) :: T) st h = ev d 122 570 (o0 :: o1 :: o2 :: some (.int x) :: T) (.int x :: st) h := ev_of d_122_569 rfl
theorem d_122_570 : decode (cd 122) 570 = .ok (.iconst 1, 1) := by rw [cd_122]; decide +kernel
theorem e_122_570 {d : Nat} {h : mM} {L : mLs} {st : List Value} : ev d 122 570 L st h = ev d 122 571 L (.int 1 :: st) h := ev_of d_122_570 rfl
theorem d_122_571 : decode (cd 122) 571 = .ok (.iadd, 1) := by rw [cd_122]; decide +kernel
theorem e_122_571 {d : Nat} {h : mM} {L : mLs} {st : List Value} {x y : Int32} : ev d 122 571 L (.int y :: .int x :: st) h = ev d 122 572 L (.int (x + y) :: st) h := ev_of d_122_571 rfl
theorem d_122_572 : decode (cd 122) 572 = .ok (.iaload, 1) := by rw [cd_122]; decide +kernel
theorem e_122_572 {d : Nat} {h : mM} {L : mLs} {st : List Value} {a : Nat} {i : Int32} : ev d 122 572 L (.int i :: .ref a :: st) h = if (mK h a = 11 ∨ mK h a = 19) ∧ ixOK i (mL h a) = true then ev d 122 573 L (.int (mI h a i.toNatClampNeg) :: st) h else none := ev_ia d_122_572
theorem d_122_573 : decode (cd 122) 573 = .ok (.aload_n 0, 1) := by rw [cd_122]; decide +kernel
theorem e_122_573 {d : Nat} {h : mM} {T : mLs} {x : Nat} {st : List Value} : ev d 122 573 ( some (.ref x) :: T) st h = ev d 122 574 ( some (.ref x) :: T) (.ref x :: st) h := ev_of d_122_573 rfl
theorem d_122_574 : decode (cd 122) 574 = .ok (.iload_n 3, 1) := by rw [cd_122]; decide +kernel
theorem e_122_574 {d : Nat} {h : mM} {o0 o1 o2 : Option Value} {T : mLs} {x : Int32} {st : List Value} : ev d 122 574 (o0 :: o1 :: o2 :: some (.int x) :: T) st h = ev d 122 575 (o0 :: o1 :: o2 :: some (.int x) :: T) (.int x :: st) h := ev_of d_122_574 rfl
theorem d_122_575 : decode (cd 122) 575 = .ok (.iconst 2, 1) := by rw [cd_122]; decide +kernel
theorem e_122_575 {d : Nat} {h : mM} {L : mLs} {st : List Value} : ev d 122 575 L st h = ev d 122 576 L (.int 2 :: st) h := ev_of d_122_575 rfl
theorem d_122_576 : decode (cd 122) 576 = .ok (.iadd, 1) := by rw [cd_122]; decide +kernel
theorem e_122_576 {d : Nat} {h : mM} {L : mLs} {st : List Value} {x y : Int32} : ev d 122 576 L (.int y :: .int x :: st) h = ev d 122 577 L (.int (x + y) :: st) h := ev_of d_122_576 rfl
theorem d_122_577 : decode (cd 122) 577 = .ok (.iaload, 1) := by rw [cd_122]; decide +kernel
theorem e_122_577 {d : Nat} {h : mM} {L : mLs} {st : List Value} {a : Nat} {i : Int32} : ev d 122 577 L (.int i :: .ref a :: st) h = if (mK h a = 11 ∨ mK h a = 19) ∧ ixOK i (mL h a) = true then ev d 122 578 L (.int (mI h a i.toNatClampNeg) :: st) h else none := ev_ia d_122_577
theorem d_122_578 : decode (cd 122) 578 = .ok (.aload_n 0, 1) := by rw [cd_122]; decide +kernel
theorem e_122_578 {d : Nat} {h : mM} {T : mLs} {x : Nat} {st : List Value} : ev d 122 578 ( some (.ref x) :: T) st h = ev d 122 579 ( some (.ref x) :: T) (.ref x :: st) h := ev_of d_122_578 rfl
theorem d_122_579 : decode (cd 122) 579 = .ok (.iload_n 3, 1) := by rw [cd_122]; decide +kernel
theorem e_122_579 {d : Nat} {h : mM} {o0 o1 o2 : Option Value} {T : mLs} {x : Int32} {st : List Value} : ev d 122 579 (o0 :: o1 :: o2 :: some (.int x) :: T) st h = ev d 122 580 (o0 :: o1 :: o2 :: some (.int x) :: T) (.int x :: st) h := ev_of d_122_579 rfl
theorem d_122_580 : decode (cd 122) 580 = .ok (.iconst 3, 1) := by rw [cd_122]; decide +kernel
theorem e_122_580 {d : Nat} {h : mM} {L : mLs} {st : List Value} : ev d 122 580 L st h = ev d 122 581 L (.int 3 :: st) h := ev_of d_122_580 rfl
theorem d_122_581 : decode (cd 122) 581 = .ok (.iadd, 1) := by rw [cd_122]; decide +kernel
theorem e_122_581 {d : Nat} {h : mM} {L : mLs} {st : List Value} {x y : Int32} : ev d 122 581 L (.int y :: .int x :: st) h = ev d 122 582 L (.int (x + y) :: st) h := ev_of d_122_581 rfl
theorem d_122_582 : decode (cd 122) 582 = .ok (.iaload, 1) := by rw [cd_122]; decide +kernel
theorem e_122_582 {d : Nat} {h : mM} {L : mLs} {st : List Value} {a : Nat} {i : Int32} : ev d 122 582 L (.int i :: .ref a :: st) h = if (mK h a = 11 ∨ mK h a = 19) ∧ ixOK i (mL h a) = true then ev d 122 583 L (.int (mI h a i.toNatClampNeg) :: st) h else none := ev_ia d_122_582
theorem d_122_583 : decode (cd 122) 583 = .ok (.aload_n 0, 1) := by rw [cd_122]; decide +kernel
theorem e_122_583 {d : Nat} {h : mM} {T : mLs} {x : Nat} {st : List Value} : ev d 122 583 ( some (.ref x) :: T) st h = ev d 122 584 ( some (.ref x) :: T) (.ref x :: st) h := ev_of d_122_583 rfl
theorem d_122_584 : decode (cd 122) 584 = .ok (.iload_n 3, 1) := by rw [cd_122]; decide +kernel
theorem e_122_584 {d : Nat} {h : mM} {o0 o1 o2 : Option Value} {T : mLs} {x : Int32} {st : List Value} : ev d 122 584 (o0 :: o1 :: o2 :: some (.int x) :: T) st h = ev d 122 585 (o0 :: o1 :: o2 :: some (.int x) :: T) (.int x :: st) h := ev_of d_122_584 rfl
theorem d_122_585 : decode (cd 122) 585 = .ok (.iconst 4, 1) := by rw [cd_122]; decide +kernel
theorem e_122_585 {d : Nat} {h : mM} {L : mLs} {st : List Value} : ev d 122 585 L st h = ev d 122 586 L (.int 4 :: st) h := ev_of d_122_585 rfl
theorem d_122_586 : decode (cd 122) 586 = .ok (.iadd, 1) := by rw [cd_122]; decide +kernel
theorem e_122_586 {d : Nat} {h : mM} {L : mLs} {st : List Value} {x y : Int32} : ev d 122 586 L (.int y :: .int x :: st) h = ev d 122 587 L (.int (x + y) :: st) h := ev_of d_122_586 rfl
theorem d_122_587 : decode (cd 122) 587 = .ok (.iaload, 1) := by rw [cd_122]; decide +kernel
theorem e_122_587 {d : Nat} {h : mM} {L : mLs} {st : List Value} {a : Nat} {i : Int32} : ev d 122 587 L (.int i :: .ref a :: st) h = if (mK h a = 11 ∨ mK h a = 19) ∧ ixOK i (mL h a) = true then ev d 122 588 L (.int (mI h a i.toNatClampNeg) :: st) h else none := ev_ia d_122_587
theorem d_122_588 : decode (cd 122) 588 = .ok (.aload_n 0, 1) := by rw [cd_122]; decide +kernel
theorem e_122_588 {d : Nat} {h : mM} {T : mLs} {x : Nat} {st : List Value} : ev d 122 588 ( some (.ref x) :: T) st h = ev d 122 589 ( some (.ref x) :: T) (.ref x :: st) h := ev_of d_122_588 rfl
theorem d_122_589 : decode (cd 122) 589 = .ok (.iload_n 3, 1) := by rw [cd_122]; decide +kernel
theorem e_122_589 {d : Nat} {h : mM} {o0 o1 o2 : Option Value} {T : mLs} {x : Int32} {st : List Value} : ev d 122 589 (o0 :: o1 :: o2 :: some (.int x) :: T) st h = ev d 122 590 (o0 :: o1 :: o2 :: some (.int x) :: T) (.int x :: st) h := ev_of d_122_589 rfl
theorem d_122_590 : decode (cd 122) 590 = .ok (.iconst 5, 1) := by rw [cd_122]; decide +kernel
theorem e_122_590 {d : Nat} {h : mM} {L : mLs} {st : List Value} : ev d 122 590 L st h = ev d 122 591 L (.int 5 :: st) h := ev_of d_122_590 rfl
theorem d_122_591 : decode (cd 122) 591 = .ok (.iadd, 1) := by rw [cd_122]; decide +kernel
theorem e_122_591 {d : Nat} {h : mM} {L : mLs} {st : List Value} {x y : Int32} : ev d 122 591 L (.int y :: .int x :: st) h = ev d 122 592 L (.int (x + y) :: st) h := ev_of d_122_591 rfl
theorem d_122_592 : decode (cd 122) 592 = .ok (.iaload, 1) := by rw [cd_122]; decide +kernel
theorem e_122_592 {d : Nat} {h : mM} {L : mLs} {st : List Value} {a : Nat} {i : Int32} : ev d 122 592 L (.int i :: .ref a :: st) h = if (mK h a = 11 ∨ mK h a = 19) ∧ ixOK i (mL h a) = true then ev d 122 593 L (.int (mI h a i.toNatClampNeg) :: st) h else none := ev_ia d_122_592
theorem d_122_593 : decode (cd 122) 593 = .ok (.invokevirtual 76, 3) := by rw [cd_122]; decide +kernel
theorem e_122_593 {d : Nat} {h : mM} {L : mLs} {st : List Value} {a : Nat} {x0 : Int32} {x1 : Int32} {x2 : Int32} {x3 : Int32} {x4 : Int32} (hc : mCat st ≤ 8) : ev (d + 1) 122 593 L (.int x4 :: .int x3 :: .int x2 :: .int x1 :: .int x0 :: .ref a :: st) h = if mK h a = 9 then cV (ev d 49 0 [some (.ref a), some (.int x0), some (.int x1), some (.int x2), some (.int x3), some (.int x4), none, none, none] [] h) (fun v h1 => ev (d + 1) 122 596 L (v ++ st) h1) else none := ev_cv (mj := 49) (as := [.int x0, .int x1, .int x2, .int x3, .int x4]) (rest := st) d_122_593 (by decide +kernel) rfl rfl (by show _ ≤ List.length _; simp only [List.length_cons]; have : na 49 = 5 := rfl; omega) rfl (Nat.le_of_ble_eq_true rfl) hc
theorem d_122_596 : decode (cd 122) 596 = .ok (.i2l, 1) := by rw [cd_122]; decide +kernel
theorem e_122_596 {d : Nat} {h : mM} {L : mLs} {st : List Value} {x : Int32} : ev d 122 596 L (.int x :: st) h = ev d 122 597 L (.long x.toInt64 :: st) h := ev_of d_122_596 rfl
theorem d_122_597 : decode (cd 122) 597 = .ok (.aload_n 2, 1) := by rw [cd_122]; decide +kernel
theorem e_122_597 {d : Nat} {h : mM} {o0 o1 : Option Value} {T : mLs} {x : Nat} {st : List Value} : ev d 122 597 (o0 :: o1 :: some (.ref x) :: T) st h = ev d 122 598 (o0 :: o1 :: some (.ref x) :: T) (.ref x :: st) h := ev_of d_122_597 rfl
theorem d_122_598 : decode (cd 122) 598 = .ok (.aload_n 0, 1) := by rw [cd_122]; decide +kernel
theorem e_122_598 {d : Nat} {h : mM} {T : mLs} {x : Nat} {st : List Value} : ev d 122 598 ( some (.ref x) :: T) st h = ev d 122 599 ( some (.ref x) :: T) (.ref x :: st) h := ev_of d_122_598 rfl
theorem d_122_599 : decode (cd 122) 599 = .ok (.iload_n 3, 1) := by rw [cd_122]; decide +kernel
theorem e_122_599 {d : Nat} {h : mM} {o0 o1 o2 : Option Value} {T : mLs} {x : Int32} {st : List Value} : ev d 122 599 (o0 :: o1 :: o2 :: some (.int x) :: T) st h = ev d 122 600 (o0 :: o1 :: o2 :: some (.int x) :: T) (.int x :: st) h := ev_of d_122_599 rfl
theorem d_122_600 : decode (cd 122) 600 = .ok (.iconst 1, 1) := by rw [cd_122]; decide +kernel
theorem e_122_600 {d : Nat} {h : mM} {L : mLs} {st : List Value} : ev d 122 600 L st h = ev d 122 601 L (.int 1 :: st) h := ev_of d_122_600 rfl
theorem d_122_601 : decode (cd 122) 601 = .ok (.iadd, 1) := by rw [cd_122]; decide +kernel
theorem e_122_601 {d : Nat} {h : mM} {L : mLs} {st : List Value} {x y : Int32} : ev d 122 601 L (.int y :: .int x :: st) h = ev d 122 602 L (.int (x + y) :: st) h := ev_of d_122_601 rfl
theorem d_122_602 : decode (cd 122) 602 = .ok (.iaload, 1) := by rw [cd_122]; decide +kernel
theorem e_122_602 {d : Nat} {h : mM} {L : mLs} {st : List Value} {a : Nat} {i : Int32} : ev d 122 602 L (.int i :: .ref a :: st) h = if (mK h a = 11 ∨ mK h a = 19) ∧ ixOK i (mL h a) = true then ev d 122 603 L (.int (mI h a i.toNatClampNeg) :: st) h else none := ev_ia d_122_602
theorem d_122_603 : decode (cd 122) 603 = .ok (.aload_n 0, 1) := by rw [cd_122]; decide +kernel
theorem e_122_603 {d : Nat} {h : mM} {T : mLs} {x : Nat} {st : List Value} : ev d 122 603 ( some (.ref x) :: T) st h = ev d 122 604 ( some (.ref x) :: T) (.ref x :: st) h := ev_of d_122_603 rfl
theorem d_122_604 : decode (cd 122) 604 = .ok (.iload_n 3, 1) := by rw [cd_122]; decide +kernel
theorem e_122_604 {d : Nat} {h : mM} {o0 o1 o2 : Option Value} {T : mLs} {x : Int32} {st : List Value} : ev d 122 604 (o0 :: o1 :: o2 :: some (.int x) :: T) st h = ev d 122 605 (o0 :: o1 :: o2 :: some (.int x) :: T) (.int x :: st) h := ev_of d_122_604 rfl
theorem d_122_605 : decode (cd 122) 605 = .ok (.iconst 2, 1) := by rw [cd_122]; decide +kernel
theorem e_122_605 {d : Nat} {h : mM} {L : mLs} {st : List Value} : ev d 122 605 L st h = ev d 122 606 L (.int 2 :: st) h := ev_of d_122_605 rfl
theorem d_122_606 : decode (cd 122) 606 = .ok (.iadd, 1) := by rw [cd_122]; decide +kernel
theorem e_122_606 {d : Nat} {h : mM} {L : mLs} {st : List Value} {x y : Int32} : ev d 122 606 L (.int y :: .int x :: st) h = ev d 122 607 L (.int (x + y) :: st) h := ev_of d_122_606 rfl
theorem d_122_607 : decode (cd 122) 607 = .ok (.iaload, 1) := by rw [cd_122]; decide +kernel
theorem e_122_607 {d : Nat} {h : mM} {L : mLs} {st : List Value} {a : Nat} {i : Int32} : ev d 122 607 L (.int i :: .ref a :: st) h = if (mK h a = 11 ∨ mK h a = 19) ∧ ixOK i (mL h a) = true then ev d 122 608 L (.int (mI h a i.toNatClampNeg) :: st) h else none := ev_ia d_122_607
theorem d_122_608 : decode (cd 122) 608 = .ok (.aload_n 0, 1) := by rw [cd_122]; decide +kernel
theorem e_122_608 {d : Nat} {h : mM} {T : mLs} {x : Nat} {st : List Value} : ev d 122 608 ( some (.ref x) :: T) st h = ev d 122 609 ( some (.ref x) :: T) (.ref x :: st) h := ev_of d_122_608 rfl
theorem d_122_609 : decode (cd 122) 609 = .ok (.iload_n 3, 1) := by rw [cd_122]; decide +kernel
theorem e_122_609 {d : Nat} {h : mM} {o0 o1 o2 : Option Value} {T : mLs} {x : Int32} {st : List Value} : ev d 122 609 (o0 :: o1 :: o2 :: some (.int x) :: T) st h = ev d 122 610 (o0 :: o1 :: o2 :: some (.int x) :: T) (.int x :: st) h := ev_of d_122_609 rfl
theorem d_122_610 : decode (cd 122) 610 = .ok (.iconst 3, 1) := by rw [cd_122]; decide +kernel
theorem e_122_610 {d : Nat} {h : mM} {L : mLs} {st : List Value} : ev d 122 610 L st h = ev d 122 611 L (.int 3 :: st) h := ev_of d_122_610 rfl
theorem d_122_611 : decode (cd 122) 611 = .ok (.iadd, 1) := by rw [cd_122]; decide +kernel
theorem e_122_611 {d : Nat} {h : mM} {L : mLs} {st : List Value} {x y : Int32} : ev d 122 611 L (.int y :: .int x :: st) h = ev d 122 612 L (.int (x + y) :: st) h := ev_of d_122_611 rfl
theorem d_122_612 : decode (cd 122) 612 = .ok (.iaload, 1) := by rw [cd_122]; decide +kernel
theorem e_122_612 {d : Nat} {h : mM} {L : mLs} {st : List Value} {a : Nat} {i : Int32} : ev d 122 612 L (.int i :: .ref a :: st) h = if (mK h a = 11 ∨ mK h a = 19) ∧ ixOK i (mL h a) = true then ev d 122 613 L (.int (mI h a i.toNatClampNeg) :: st) h else none := ev_ia d_122_612
theorem d_122_613 : decode (cd 122) 613 = .ok (.aload_n 0, 1) := by rw [cd_122]; decide +kernel
theorem e_122_613 {d : Nat} {h : mM} {T : mLs} {x : Nat} {st : List Value} : ev d 122 613 ( some (.ref x) :: T) st h = ev d 122 614 ( some (.ref x) :: T) (.ref x :: st) h := ev_of d_122_613 rfl
theorem d_122_614 : decode (cd 122) 614 = .ok (.iload_n 3, 1) := by rw [cd_122]; decide +kernel
theorem e_122_614 {d : Nat} {h : mM} {o0 o1 o2 : Option Value} {T : mLs} {x : Int32} {st : List Value} : ev d 122 614 (o0 :: o1 :: o2 :: some (.int x) :: T) st h = ev d 122 615 (o0 :: o1 :: o2 :: some (.int x) :: T) (.int x :: st) h := ev_of d_122_614 rfl
theorem d_122_615 : decode (cd 122) 615 = .ok (.iconst 4, 1) := by rw [cd_122]; decide +kernel
theorem e_122_615 {d : Nat} {h : mM} {L : mLs} {st : List Value} : ev d 122 615 L st h = ev d 122 616 L (.int 4 :: st) h := ev_of d_122_615 rfl
theorem d_122_616 : decode (cd 122) 616 = .ok (.iadd, 1) := by rw [cd_122]; decide +kernel
theorem e_122_616 {d : Nat} {h : mM} {L : mLs} {st : List Value} {x y : Int32} : ev d 122 616 L (.int y :: .int x :: st) h = ev d 122 617 L (.int (x + y) :: st) h := ev_of d_122_616 rfl
theorem d_122_617 : decode (cd 122) 617 = .ok (.iaload, 1) := by rw [cd_122]; decide +kernel
theorem e_122_617 {d : Nat} {h : mM} {L : mLs} {st : List Value} {a : Nat} {i : Int32} : ev d 122 617 L (.int i :: .ref a :: st) h = if (mK h a = 11 ∨ mK h a = 19) ∧ ixOK i (mL h a) = true then ev d 122 618 L (.int (mI h a i.toNatClampNeg) :: st) h else none := ev_ia d_122_617
theorem d_122_618 : decode (cd 122) 618 = .ok (.aload_n 0, 1) := by rw [cd_122]; decide +kernel
theorem e_122_618 {d : Nat} {h : mM} {T : mLs} {x : Nat} {st : List Value} : ev d 122 618 ( some (.ref x) :: T) st h = ev d 122 619 ( some (.ref x) :: T) (.ref x :: st) h := ev_of d_122_618 rfl
theorem d_122_619 : decode (cd 122) 619 = .ok (.iload_n 3, 1) := by rw [cd_122]; decide +kernel
theorem e_122_619 {d : Nat} {h : mM} {o0 o1 o2 : Option Value} {T : mLs} {x : Int32} {st : List Value} : ev d 122 619 (o0 :: o1 :: o2 :: some (.int x) :: T) st h = ev d 122 620 (o0 :: o1 :: o2 :: some (.int x) :: T) (.int x :: st) h := ev_of d_122_619 rfl
theorem d_122_620 : decode (cd 122) 620 = .ok (.iconst 5, 1) := by rw [cd_122]; decide +kernel
theorem e_122_620 {d : Nat} {h : mM} {L : mLs} {st : List Value} : ev d 122 620 L st h = ev d 122 621 L (.int 5 :: st) h := ev_of d_122_620 rfl
theorem d_122_621 : decode (cd 122) 621 = .ok (.iadd, 1) := by rw [cd_122]; decide +kernel
theorem e_122_621 {d : Nat} {h : mM} {L : mLs} {st : List Value} {x y : Int32} : ev d 122 621 L (.int y :: .int x :: st) h = ev d 122 622 L (.int (x + y) :: st) h := ev_of d_122_621 rfl
theorem d_122_622 : decode (cd 122) 622 = .ok (.iaload, 1) := by rw [cd_122]; decide +kernel
theorem e_122_622 {d : Nat} {h : mM} {L : mLs} {st : List Value} {a : Nat} {i : Int32} : ev d 122 622 L (.int i :: .ref a :: st) h = if (mK h a = 11 ∨ mK h a = 19) ∧ ixOK i (mL h a) = true then ev d 122 623 L (.int (mI h a i.toNatClampNeg) :: st) h else none := ev_ia d_122_622
theorem d_122_623 : decode (cd 122) 623 = .ok (.invokevirtual 79, 3) := by rw [cd_122]; decide +kernel
theorem e_122_623 {d : Nat} {h : mM} {L : mLs} {st : List Value} {a : Nat} {x0 : Int32} {x1 : Int32} {x2 : Int32} {x3 : Int32} {x4 : Int32} (hc : mCat st ≤ 8) : ev (d + 1) 122 623 L (.int x4 :: .int x3 :: .int x2 :: .int x1 :: .int x0 :: .ref a :: st) h = if mK h a = 10 then cV (ev d 95 0 [some (.ref a), some (.int x0), some (.int x1), some (.int x2), some (.int x3), some (.int x4), none] [] h) (fun v h1 => ev (d + 1) 122 626 L (v ++ st) h1) else none := ev_cv (mj := 95) (as := [.int x0, .int x1, .int x2, .int x3, .int x4]) (rest := st) d_122_623 (by decide +kernel) rfl rfl (by show _ ≤ List.length _; simp only [List.length_cons]; have : na 95 = 5 := rfl; omega) rfl (Nat.le_of_ble_eq_true rfl) hc
theorem d_122_626 : decode (cd 122) 626 = .ok (.lcmp, 1) := by rw [cd_122]; decide +kernel
theorem e_122_626 {d : Nat} {h : mM} {L : mLs} {st : List Value} {x y : Int64} : ev d 122 626 L (.long y :: .long x :: st) h = ev d 122 627 L (.int (lg_cmp x y) :: st) h := ev_of d_122_626 rfl
theorem d_122_627 : decode (cd 122) 627 = .ok (.ifCond .eq 455, 3) := by rw [cd_122]; decide +kernel
theorem e_122_627 {d : Nat} {h : mM} {L : mLs} {st : List Value} {x : Int32} : ev d 122 627 L (.int x :: st) h = if x = 0 then ev d 122 1082 L st h else ev d 122 630 L st h := ev_if (x = 0) inferInstance rfl d_122_627 (by decide)
theorem d_122_630 : decode (cd 122) 630 = .ok (.iconst 0, 1) := by rw [cd_122]; decide +kernel
theorem e_122_630 {d : Nat} {h : mM} {L : mLs} {st : List Value} : ev d 122 630 L st h = ev d 122 631 L (.int 0 :: st) h := ev_of d_122_630 rfl
theorem d_122_631 : decode (cd 122) 631 = .ok (.ireturn, 1) := by rw [cd_122]; decide +kernel
theorem e_122_631 {d : Nat} {h : mM} {L : mLs} {v : Int32} : ev d 122 631 L [.int v] h = if mZO v = true then some (some (.int v), h) else none := ev_rz d_122_631 (by decide +kernel)
theorem d_122_632 : decode (cd 122) 632 = .ok (.aload_n 1, 1) := by rw [cd_122]; decide +kernel
theorem e_122_632 {d : Nat} {h : mM} {o0 : Option Value} {T : mLs} {x : Nat} {st : List Value} : ev d 122 632 (o0 :: some (.ref x) :: T) st h = ev d 122 633 (o0 :: some (.ref x) :: T) (.ref x :: st) h := ev_of d_122_632 rfl
theorem d_122_633 : decode (cd 122) 633 = .ok (.aload_n 0, 1) := by rw [cd_122]; decide +kernel
theorem e_122_633 {d : Nat} {h : mM} {T : mLs} {x : Nat} {st : List Value} : ev d 122 633 ( some (.ref x) :: T) st h = ev d 122 634 ( some (.ref x) :: T) (.ref x :: st) h := ev_of d_122_633 rfl
theorem d_122_634 : decode (cd 122) 634 = .ok (.iload_n 3, 1) := by rw [cd_122]; decide +kernel
theorem e_122_634 {d : Nat} {h : mM} {o0 o1 o2 : Option Value} {T : mLs} {x : Int32} {st : List Value} : ev d 122 634 (o0 :: o1 :: o2 :: some (.int x) :: T) st h = ev d 122 635 (o0 :: o1 :: o2 :: some (.int x) :: T) (.int x :: st) h := ev_of d_122_634 rfl
theorem d_122_635 : decode (cd 122) 635 = .ok (.iconst 1, 1) := by rw [cd_122]; decide +kernel
theorem e_122_635 {d : Nat} {h : mM} {L : mLs} {st : List Value} : ev d 122 635 L st h = ev d 122 636 L (.int 1 :: st) h := ev_of d_122_635 rfl
theorem d_122_636 : decode (cd 122) 636 = .ok (.iadd, 1) := by rw [cd_122]; decide +kernel
theorem e_122_636 {d : Nat} {h : mM} {L : mLs} {st : List Value} {x y : Int32} : ev d 122 636 L (.int y :: .int x :: st) h = ev d 122 637 L (.int (x + y) :: st) h := ev_of d_122_636 rfl
theorem d_122_637 : decode (cd 122) 637 = .ok (.iaload, 1) := by rw [cd_122]; decide +kernel
theorem e_122_637 {d : Nat} {h : mM} {L : mLs} {st : List Value} {a : Nat} {i : Int32} : ev d 122 637 L (.int i :: .ref a :: st) h = if (mK h a = 11 ∨ mK h a = 19) ∧ ixOK i (mL h a) = true then ev d 122 638 L (.int (mI h a i.toNatClampNeg) :: st) h else none := ev_ia d_122_637
theorem d_122_638 : decode (cd 122) 638 = .ok (.aload_n 0, 1) := by rw [cd_122]; decide +kernel
theorem e_122_638 {d : Nat} {h : mM} {T : mLs} {x : Nat} {st : List Value} : ev d 122 638 ( some (.ref x) :: T) st h = ev d 122 639 ( some (.ref x) :: T) (.ref x :: st) h := ev_of d_122_638 rfl
theorem d_122_639 : decode (cd 122) 639 = .ok (.iload_n 3, 1) := by rw [cd_122]; decide +kernel
theorem e_122_639 {d : Nat} {h : mM} {o0 o1 o2 : Option Value} {T : mLs} {x : Int32} {st : List Value} : ev d 122 639 (o0 :: o1 :: o2 :: some (.int x) :: T) st h = ev d 122 640 (o0 :: o1 :: o2 :: some (.int x) :: T) (.int x :: st) h := ev_of d_122_639 rfl
theorem d_122_640 : decode (cd 122) 640 = .ok (.iconst 2, 1) := by rw [cd_122]; decide +kernel
theorem e_122_640 {d : Nat} {h : mM} {L : mLs} {st : List Value} : ev d 122 640 L st h = ev d 122 641 L (.int 2 :: st) h := ev_of d_122_640 rfl
theorem d_122_641 : decode (cd 122) 641 = .ok (.iadd, 1) := by rw [cd_122]; decide +kernel
theorem e_122_641 {d : Nat} {h : mM} {L : mLs} {st : List Value} {x y : Int32} : ev d 122 641 L (.int y :: .int x :: st) h = ev d 122 642 L (.int (x + y) :: st) h := ev_of d_122_641 rfl
theorem d_122_642 : decode (cd 122) 642 = .ok (.iaload, 1) := by rw [cd_122]; decide +kernel
theorem e_122_642 {d : Nat} {h : mM} {L : mLs} {st : List Value} {a : Nat} {i : Int32} : ev d 122 642 L (.int i :: .ref a :: st) h = if (mK h a = 11 ∨ mK h a = 19) ∧ ixOK i (mL h a) = true then ev d 122 643 L (.int (mI h a i.toNatClampNeg) :: st) h else none := ev_ia d_122_642
theorem d_122_643 : decode (cd 122) 643 = .ok (.aload_n 0, 1) := by rw [cd_122]; decide +kernel
theorem e_122_643 {d : Nat} {h : mM} {T : mLs} {x : Nat} {st : List Value} : ev d 122 643 ( some (.ref x) :: T) st h = ev d 122 644 ( some (.ref x) :: T) (.ref x :: st) h := ev_of d_122_643 rfl
theorem d_122_644 : decode (cd 122) 644 = .ok (.iload_n 3, 1) := by rw [cd_122]; decide +kernel
theorem e_122_644 {d : Nat} {h : mM} {o0 o1 o2 : Option Value} {T : mLs} {x : Int32} {st : List Value} : ev d 122 644 (o0 :: o1 :: o2 :: some (.int x) :: T) st h = ev d 122 645 (o0 :: o1 :: o2 :: some (.int x) :: T) (.int x :: st) h := ev_of d_122_644 rfl
theorem d_122_645 : decode (cd 122) 645 = .ok (.iconst 3, 1) := by rw [cd_122]; decide +kernel
theorem e_122_645 {d : Nat} {h : mM} {L : mLs} {st : List Value} : ev d 122 645 L st h = ev d 122 646 L (.int 3 :: st) h := ev_of d_122_645 rfl
theorem d_122_646 : decode (cd 122) 646 = .ok (.iadd, 1) := by rw [cd_122]; decide +kernel
theorem e_122_646 {d : Nat} {h : mM} {L : mLs} {st : List Value} {x y : Int32} : ev d 122 646 L (.int y :: .int x :: st) h = ev d 122 647 L (.int (x + y) :: st) h := ev_of d_122_646 rfl
theorem d_122_647 : decode (cd 122) 647 = .ok (.iaload, 1) := by rw [cd_122]; decide +kernel
theorem e_122_647 {d : Nat} {h : mM} {L : mLs} {st : List Value} {a : Nat} {i : Int32} : ev d 122 647 L (.int i :: .ref a :: st) h = if (mK h a = 11 ∨ mK h a = 19) ∧ ixOK i (mL h a) = true then ev d 122 648 L (.int (mI h a i.toNatClampNeg) :: st) h else none := ev_ia d_122_647
theorem d_122_648 : decode (cd 122) 648 = .ok (.invokevirtual 81, 3) := by rw [cd_122]; decide +kernel
theorem e_122_648 {d : Nat} {h : mM} {L : mLs} {st : List Value} {a : Nat} {x0 : Int32} {x1 : Int32} {x2 : Int32} (hc : mCat st ≤ 8) : ev (d + 1) 122 648 L (.int x2 :: .int x1 :: .int x0 :: .ref a :: st) h = if mK h a = 9 then cV (ev d 50 0 [some (.ref a), some (.int x0), some (.int x1), some (.int x2), none, none] [] h) (fun v h1 => ev (d + 1) 122 651 L (v ++ st) h1) else none := ev_cv (mj := 50) (as := [.int x0, .int x1, .int x2]) (rest := st) d_122_648 (by decide +kernel) rfl rfl (by show _ ≤ List.length _; simp only [List.length_cons]; have : na 50 = 3 := rfl; omega) rfl (Nat.le_of_ble_eq_true rfl) hc
theorem d_122_651 : decode (cd 122) 651 = .ok (.i2l, 1) := by rw [cd_122]; decide +kernel
theorem e_122_651 {d : Nat} {h : mM} {L : mLs} {st : List Value} {x : Int32} : ev d 122 651 L (.int x :: st) h = ev d 122 652 L (.long x.toInt64 :: st) h := ev_of d_122_651 rfl
theorem d_122_652 : decode (cd 122) 652 = .ok (.aload_n 2, 1) := by rw [cd_122]; decide +kernel
theorem e_122_652 {d : Nat} {h : mM} {o0 o1 : Option Value} {T : mLs} {x : Nat} {st : List Value} : ev d 122 652 (o0 :: o1 :: some (.ref x) :: T) st h = ev d 122 653 (o0 :: o1 :: some (.ref x) :: T) (.ref x :: st) h := ev_of d_122_652 rfl
theorem d_122_653 : decode (cd 122) 653 = .ok (.aload_n 0, 1) := by rw [cd_122]; decide +kernel
theorem e_122_653 {d : Nat} {h : mM} {T : mLs} {x : Nat} {st : List Value} : ev d 122 653 ( some (.ref x) :: T) st h = ev d 122 654 ( some (.ref x) :: T) (.ref x :: st) h := ev_of d_122_653 rfl
theorem d_122_654 : decode (cd 122) 654 = .ok (.iload_n 3, 1) := by rw [cd_122]; decide +kernel
theorem e_122_654 {d : Nat} {h : mM} {o0 o1 o2 : Option Value} {T : mLs} {x : Int32} {st : List Value} : ev d 122 654 (o0 :: o1 :: o2 :: some (.int x) :: T) st h = ev d 122 655 (o0 :: o1 :: o2 :: some (.int x) :: T) (.int x :: st) h := ev_of d_122_654 rfl
theorem d_122_655 : decode (cd 122) 655 = .ok (.iconst 1, 1) := by rw [cd_122]; decide +kernel
theorem e_122_655 {d : Nat} {h : mM} {L : mLs} {st : List Value} : ev d 122 655 L st h = ev d 122 656 L (.int 1 :: st) h := ev_of d_122_655 rfl
theorem d_122_656 : decode (cd 122) 656 = .ok (.iadd, 1) := by rw [cd_122]; decide +kernel
theorem e_122_656 {d : Nat} {h : mM} {L : mLs} {st : List Value} {x y : Int32} : ev d 122 656 L (.int y :: .int x :: st) h = ev d 122 657 L (.int (x + y) :: st) h := ev_of d_122_656 rfl
theorem d_122_657 : decode (cd 122) 657 = .ok (.iaload, 1) := by rw [cd_122]; decide +kernel
theorem e_122_657 {d : Nat} {h : mM} {L : mLs} {st : List Value} {a : Nat} {i : Int32} : ev d 122 657 L (.int i :: .ref a :: st) h = if (mK h a = 11 ∨ mK h a = 19) ∧ ixOK i (mL h a) = true then ev d 122 658 L (.int (mI h a i.toNatClampNeg) :: st) h else none := ev_ia d_122_657
theorem d_122_658 : decode (cd 122) 658 = .ok (.aload_n 0, 1) := by rw [cd_122]; decide +kernel
theorem e_122_658 {d : Nat} {h : mM} {T : mLs} {x : Nat} {st : List Value} : ev d 122 658 ( some (.ref x) :: T) st h = ev d 122 659 ( some (.ref x) :: T) (.ref x :: st) h := ev_of d_122_658 rfl
theorem d_122_659 : decode (cd 122) 659 = .ok (.iload_n 3, 1) := by rw [cd_122]; decide +kernel
theorem e_122_659 {d : Nat} {h : mM} {o0 o1 o2 : Option Value} {T : mLs} {x : Int32} {st : List Value} : ev d 122 659 (o0 :: o1 :: o2 :: some (.int x) :: T) st h = ev d 122 660 (o0 :: o1 :: o2 :: some (.int x) :: T) (.int x :: st) h := ev_of d_122_659 rfl
theorem d_122_660 : decode (cd 122) 660 = .ok (.iconst 2, 1) := by rw [cd_122]; decide +kernel
theorem e_122_660 {d : Nat} {h : mM} {L : mLs} {st : List Value} : ev d 122 660 L st h = ev d 122 661 L (.int 2 :: st) h := ev_of d_122_660 rfl
theorem d_122_661 : decode (cd 122) 661 = .ok (.iadd, 1) := by rw [cd_122]; decide +kernel
theorem e_122_661 {d : Nat} {h : mM} {L : mLs} {st : List Value} {x y : Int32} : ev d 122 661 L (.int y :: .int x :: st) h = ev d 122 662 L (.int (x + y) :: st) h := ev_of d_122_661 rfl
theorem d_122_662 : decode (cd 122) 662 = .ok (.iaload, 1) := by rw [cd_122]; decide +kernel
theorem e_122_662 {d : Nat} {h : mM} {L : mLs} {st : List Value} {a : Nat} {i : Int32} : ev d 122 662 L (.int i :: .ref a :: st) h = if (mK h a = 11 ∨ mK h a = 19) ∧ ixOK i (mL h a) = true then ev d 122 663 L (.int (mI h a i.toNatClampNeg) :: st) h else none := ev_ia d_122_662
theorem d_122_663 : decode (cd 122) 663 = .ok (.aload_n 0, 1) := by rw [cd_122]; decide +kernel
theorem e_122_663 {d : Nat} {h : mM} {T : mLs} {x : Nat} {st : List Value} : ev d 122 663 ( some (.ref x) :: T) st h = ev d 122 664 ( some (.ref x) :: T) (.ref x :: st) h := ev_of d_122_663 rfl
theorem d_122_664 : decode (cd 122) 664 = .ok (.iload_n 3, 1) := by rw [cd_122]; decide +kernel
theorem e_122_664 {d : Nat} {h : mM} {o0 o1 o2 : Option Value} {T : mLs} {x : Int32} {st : List Value} : ev d 122 664 (o0 :: o1 :: o2 :: some (.int x) :: T) st h = ev d 122 665 (o0 :: o1 :: o2 :: some (.int x) :: T) (.int x :: st) h := ev_of d_122_664 rfl
theorem d_122_665 : decode (cd 122) 665 = .ok (.iconst 3, 1) := by rw [cd_122]; decide +kernel
theorem e_122_665 {d : Nat} {h : mM} {L : mLs} {st : List Value} : ev d 122 665 L st h = ev d 122 666 L (.int 3 :: st) h := ev_of d_122_665 rfl
theorem d_122_666 : decode (cd 122) 666 = .ok (.iadd, 1) := by rw [cd_122]; decide +kernel
theorem e_122_666 {d : Nat} {h : mM} {L : mLs} {st : List Value} {x y : Int32} : ev d 122 666 L (.int y :: .int x :: st) h = ev d 122 667 L (.int (x + y) :: st) h := ev_of d_122_666 rfl
theorem d_122_667 : decode (cd 122) 667 = .ok (.iaload, 1) := by rw [cd_122]; decide +kernel
theorem e_122_667 {d : Nat} {h : mM} {L : mLs} {st : List Value} {a : Nat} {i : Int32} : ev d 122 667 L (.int i :: .ref a :: st) h = if (mK h a = 11 ∨ mK h a = 19) ∧ ixOK i (mL h a) = true then ev d 122 668 L (.int (mI h a i.toNatClampNeg) :: st) h else none := ev_ia d_122_667
theorem d_122_668 : decode (cd 122) 668 = .ok (.invokevirtual 84, 3) := by rw [cd_122]; decide +kernel
theorem e_122_668 {d : Nat} {h : mM} {L : mLs} {st : List Value} {a : Nat} {x0 : Int32} {x1 : Int32} {x2 : Int32} (hc : mCat st ≤ 8) : ev (d + 1) 122 668 L (.int x2 :: .int x1 :: .int x0 :: .ref a :: st) h = if mK h a = 10 then cV (ev d 96 0 [some (.ref a), some (.int x0), some (.int x1), some (.int x2), none, none] [] h) (fun v h1 => ev (d + 1) 122 671 L (v ++ st) h1) else none := ev_cv (mj := 96) (as := [.int x0, .int x1, .int x2]) (rest := st) d_122_668 (by decide +kernel) rfl rfl (by show _ ≤ List.length _; simp only [List.length_cons]; have : na 96 = 3 := rfl; omega) rfl (Nat.le_of_ble_eq_true rfl) hc
theorem d_122_671 : decode (cd 122) 671 = .ok (.lcmp, 1) := by rw [cd_122]; decide +kernel
theorem e_122_671 {d : Nat} {h : mM} {L : mLs} {st : List Value} {x y : Int64} : ev d 122 671 L (.long y :: .long x :: st) h = ev d 122 672 L (.int (lg_cmp x y) :: st) h := ev_of d_122_671 rfl
theorem d_122_672 : decode (cd 122) 672 = .ok (.ifCond .eq 410, 3) := by rw [cd_122]; decide +kernel
theorem e_122_672 {d : Nat} {h : mM} {L : mLs} {st : List Value} {x : Int32} : ev d 122 672 L (.int x :: st) h = if x = 0 then ev d 122 1082 L st h else ev d 122 675 L st h := ev_if (x = 0) inferInstance rfl d_122_672 (by decide)
theorem d_122_675 : decode (cd 122) 675 = .ok (.iconst 0, 1) := by rw [cd_122]; decide +kernel
theorem e_122_675 {d : Nat} {h : mM} {L : mLs} {st : List Value} : ev d 122 675 L st h = ev d 122 676 L (.int 0 :: st) h := ev_of d_122_675 rfl
theorem d_122_676 : decode (cd 122) 676 = .ok (.ireturn, 1) := by rw [cd_122]; decide +kernel
theorem e_122_676 {d : Nat} {h : mM} {L : mLs} {v : Int32} : ev d 122 676 L [.int v] h = if mZO v = true then some (some (.int v), h) else none := ev_rz d_122_676 (by decide +kernel)
theorem d_122_677 : decode (cd 122) 677 = .ok (.aload_n 1, 1) := by rw [cd_122]; decide +kernel
theorem e_122_677 {d : Nat} {h : mM} {o0 : Option Value} {T : mLs} {x : Nat} {st : List Value} : ev d 122 677 (o0 :: some (.ref x) :: T) st h = ev d 122 678 (o0 :: some (.ref x) :: T) (.ref x :: st) h := ev_of d_122_677 rfl
theorem d_122_678 : decode (cd 122) 678 = .ok (.aload_n 0, 1) := by rw [cd_122]; decide +kernel
theorem e_122_678 {d : Nat} {h : mM} {T : mLs} {x : Nat} {st : List Value} : ev d 122 678 ( some (.ref x) :: T) st h = ev d 122 679 ( some (.ref x) :: T) (.ref x :: st) h := ev_of d_122_678 rfl
theorem d_122_679 : decode (cd 122) 679 = .ok (.iload_n 3, 1) := by rw [cd_122]; decide +kernel
theorem e_122_679 {d : Nat} {h : mM} {o0 o1 o2 : Option Value} {T : mLs} {x : Int32} {st : List Value} : ev d 122 679 (o0 :: o1 :: o2 :: some (.int x) :: T) st h = ev d 122 680 (o0 :: o1 :: o2 :: some (.int x) :: T) (.int x :: st) h := ev_of d_122_679 rfl
theorem d_122_680 : decode (cd 122) 680 = .ok (.iconst 1, 1) := by rw [cd_122]; decide +kernel
theorem e_122_680 {d : Nat} {h : mM} {L : mLs} {st : List Value} : ev d 122 680 L st h = ev d 122 681 L (.int 1 :: st) h := ev_of d_122_680 rfl
theorem d_122_681 : decode (cd 122) 681 = .ok (.iadd, 1) := by rw [cd_122]; decide +kernel
theorem e_122_681 {d : Nat} {h : mM} {L : mLs} {st : List Value} {x y : Int32} : ev d 122 681 L (.int y :: .int x :: st) h = ev d 122 682 L (.int (x + y) :: st) h := ev_of d_122_681 rfl
theorem d_122_682 : decode (cd 122) 682 = .ok (.iaload, 1) := by rw [cd_122]; decide +kernel
theorem e_122_682 {d : Nat} {h : mM} {L : mLs} {st : List Value} {a : Nat} {i : Int32} : ev d 122 682 L (.int i :: .ref a :: st) h = if (mK h a = 11 ∨ mK h a = 19) ∧ ixOK i (mL h a) = true then ev d 122 683 L (.int (mI h a i.toNatClampNeg) :: st) h else none := ev_ia d_122_682
theorem d_122_683 : decode (cd 122) 683 = .ok (.aload_n 0, 1) := by rw [cd_122]; decide +kernel
theorem e_122_683 {d : Nat} {h : mM} {T : mLs} {x : Nat} {st : List Value} : ev d 122 683 ( some (.ref x) :: T) st h = ev d 122 684 ( some (.ref x) :: T) (.ref x :: st) h := ev_of d_122_683 rfl
theorem d_122_684 : decode (cd 122) 684 = .ok (.iload_n 3, 1) := by rw [cd_122]; decide +kernel
theorem e_122_684 {d : Nat} {h : mM} {o0 o1 o2 : Option Value} {T : mLs} {x : Int32} {st : List Value} : ev d 122 684 (o0 :: o1 :: o2 :: some (.int x) :: T) st h = ev d 122 685 (o0 :: o1 :: o2 :: some (.int x) :: T) (.int x :: st) h := ev_of d_122_684 rfl
theorem d_122_685 : decode (cd 122) 685 = .ok (.iconst 2, 1) := by rw [cd_122]; decide +kernel
theorem e_122_685 {d : Nat} {h : mM} {L : mLs} {st : List Value} : ev d 122 685 L st h = ev d 122 686 L (.int 2 :: st) h := ev_of d_122_685 rfl
theorem d_122_686 : decode (cd 122) 686 = .ok (.iadd, 1) := by rw [cd_122]; decide +kernel
theorem e_122_686 {d : Nat} {h : mM} {L : mLs} {st : List Value} {x y : Int32} : ev d 122 686 L (.int y :: .int x :: st) h = ev d 122 687 L (.int (x + y) :: st) h := ev_of d_122_686 rfl
theorem d_122_687 : decode (cd 122) 687 = .ok (.iaload, 1) := by rw [cd_122]; decide +kernel
theorem e_122_687 {d : Nat} {h : mM} {L : mLs} {st : List Value} {a : Nat} {i : Int32} : ev d 122 687 L (.int i :: .ref a :: st) h = if (mK h a = 11 ∨ mK h a = 19) ∧ ixOK i (mL h a) = true then ev d 122 688 L (.int (mI h a i.toNatClampNeg) :: st) h else none := ev_ia d_122_687
theorem d_122_688 : decode (cd 122) 688 = .ok (.aload_n 0, 1) := by rw [cd_122]; decide +kernel
theorem e_122_688 {d : Nat} {h : mM} {T : mLs} {x : Nat} {st : List Value} : ev d 122 688 ( some (.ref x) :: T) st h = ev d 122 689 ( some (.ref x) :: T) (.ref x :: st) h := ev_of d_122_688 rfl
theorem d_122_689 : decode (cd 122) 689 = .ok (.iload_n 3, 1) := by rw [cd_122]; decide +kernel
theorem e_122_689 {d : Nat} {h : mM} {o0 o1 o2 : Option Value} {T : mLs} {x : Int32} {st : List Value} : ev d 122 689 (o0 :: o1 :: o2 :: some (.int x) :: T) st h = ev d 122 690 (o0 :: o1 :: o2 :: some (.int x) :: T) (.int x :: st) h := ev_of d_122_689 rfl
theorem d_122_690 : decode (cd 122) 690 = .ok (.iconst 3, 1) := by rw [cd_122]; decide +kernel
theorem e_122_690 {d : Nat} {h : mM} {L : mLs} {st : List Value} : ev d 122 690 L st h = ev d 122 691 L (.int 3 :: st) h := ev_of d_122_690 rfl
theorem d_122_691 : decode (cd 122) 691 = .ok (.iadd, 1) := by rw [cd_122]; decide +kernel
theorem e_122_691 {d : Nat} {h : mM} {L : mLs} {st : List Value} {x y : Int32} : ev d 122 691 L (.int y :: .int x :: st) h = ev d 122 692 L (.int (x + y) :: st) h := ev_of d_122_691 rfl
theorem d_122_692 : decode (cd 122) 692 = .ok (.iaload, 1) := by rw [cd_122]; decide +kernel
theorem e_122_692 {d : Nat} {h : mM} {L : mLs} {st : List Value} {a : Nat} {i : Int32} : ev d 122 692 L (.int i :: .ref a :: st) h = if (mK h a = 11 ∨ mK h a = 19) ∧ ixOK i (mL h a) = true then ev d 122 693 L (.int (mI h a i.toNatClampNeg) :: st) h else none := ev_ia d_122_692
theorem d_122_693 : decode (cd 122) 693 = .ok (.aload_n 0, 1) := by rw [cd_122]; decide +kernel
theorem e_122_693 {d : Nat} {h : mM} {T : mLs} {x : Nat} {st : List Value} : ev d 122 693 ( some (.ref x) :: T) st h = ev d 122 694 ( some (.ref x) :: T) (.ref x :: st) h := ev_of d_122_693 rfl
theorem d_122_694 : decode (cd 122) 694 = .ok (.iload_n 3, 1) := by rw [cd_122]; decide +kernel
theorem e_122_694 {d : Nat} {h : mM} {o0 o1 o2 : Option Value} {T : mLs} {x : Int32} {st : List Value} : ev d 122 694 (o0 :: o1 :: o2 :: some (.int x) :: T) st h = ev d 122 695 (o0 :: o1 :: o2 :: some (.int x) :: T) (.int x :: st) h := ev_of d_122_694 rfl
theorem d_122_695 : decode (cd 122) 695 = .ok (.iconst 4, 1) := by rw [cd_122]; decide +kernel
theorem e_122_695 {d : Nat} {h : mM} {L : mLs} {st : List Value} : ev d 122 695 L st h = ev d 122 696 L (.int 4 :: st) h := ev_of d_122_695 rfl
theorem d_122_696 : decode (cd 122) 696 = .ok (.iadd, 1) := by rw [cd_122]; decide +kernel
theorem e_122_696 {d : Nat} {h : mM} {L : mLs} {st : List Value} {x y : Int32} : ev d 122 696 L (.int y :: .int x :: st) h = ev d 122 697 L (.int (x + y) :: st) h := ev_of d_122_696 rfl
theorem d_122_697 : decode (cd 122) 697 = .ok (.iaload, 1) := by rw [cd_122]; decide +kernel
theorem e_122_697 {d : Nat} {h : mM} {L : mLs} {st : List Value} {a : Nat} {i : Int32} : ev d 122 697 L (.int i :: .ref a :: st) h = if (mK h a = 11 ∨ mK h a = 19) ∧ ixOK i (mL h a) = true then ev d 122 698 L (.int (mI h a i.toNatClampNeg) :: st) h else none := ev_ia d_122_697
theorem d_122_698 : decode (cd 122) 698 = .ok (.invokevirtual 86, 3) := by rw [cd_122]; decide +kernel
theorem e_122_698 {d : Nat} {h : mM} {L : mLs} {st : List Value} {a : Nat} {x0 : Int32} {x1 : Int32} {x2 : Int32} {x3 : Int32} (hc : mCat st ≤ 8) : ev (d + 1) 122 698 L (.int x3 :: .int x2 :: .int x1 :: .int x0 :: .ref a :: st) h = if mK h a = 9 then cV (ev d 51 0 [some (.ref a), some (.int x0), some (.int x1), some (.int x2), some (.int x3), none, none] [] h) (fun v h1 => ev (d + 1) 122 701 L (v ++ st) h1) else none := ev_cv (mj := 51) (as := [.int x0, .int x1, .int x2, .int x3]) (rest := st) d_122_698 (by decide +kernel) rfl rfl (by show _ ≤ List.length _; simp only [List.length_cons]; have : na 51 = 4 := rfl; omega) rfl (Nat.le_of_ble_eq_true rfl) hc
theorem d_122_701 : decode (cd 122) 701 = .ok (.i2l, 1) := by rw [cd_122]; decide +kernel
theorem e_122_701 {d : Nat} {h : mM} {L : mLs} {st : List Value} {x : Int32} : ev d 122 701 L (.int x :: st) h = ev d 122 702 L (.long x.toInt64 :: st) h := ev_of d_122_701 rfl
theorem d_122_702 : decode (cd 122) 702 = .ok (.aload_n 2, 1) := by rw [cd_122]; decide +kernel
theorem e_122_702 {d : Nat} {h : mM} {o0 o1 : Option Value} {T : mLs} {x : Nat} {st : List Value} : ev d 122 702 (o0 :: o1 :: some (.ref x) :: T) st h = ev d 122 703 (o0 :: o1 :: some (.ref x) :: T) (.ref x :: st) h := ev_of d_122_702 rfl
theorem d_122_703 : decode (cd 122) 703 = .ok (.aload_n 0, 1) := by rw [cd_122]; decide +kernel
theorem e_122_703 {d : Nat} {h : mM} {T : mLs} {x : Nat} {st : List Value} : ev d 122 703 ( some (.ref x) :: T) st h = ev d 122 704 ( some (.ref x) :: T) (.ref x :: st) h := ev_of d_122_703 rfl
theorem d_122_704 : decode (cd 122) 704 = .ok (.iload_n 3, 1) := by rw [cd_122]; decide +kernel
theorem e_122_704 {d : Nat} {h : mM} {o0 o1 o2 : Option Value} {T : mLs} {x : Int32} {st : List Value} : ev d 122 704 (o0 :: o1 :: o2 :: some (.int x) :: T) st h = ev d 122 705 (o0 :: o1 :: o2 :: some (.int x) :: T) (.int x :: st) h := ev_of d_122_704 rfl
theorem d_122_705 : decode (cd 122) 705 = .ok (.iconst 1, 1) := by rw [cd_122]; decide +kernel
theorem e_122_705 {d : Nat} {h : mM} {L : mLs} {st : List Value} : ev d 122 705 L st h = ev d 122 706 L (.int 1 :: st) h := ev_of d_122_705 rfl
theorem d_122_706 : decode (cd 122) 706 = .ok (.iadd, 1) := by rw [cd_122]; decide +kernel
theorem e_122_706 {d : Nat} {h : mM} {L : mLs} {st : List Value} {x y : Int32} : ev d 122 706 L (.int y :: .int x :: st) h = ev d 122 707 L (.int (x + y) :: st) h := ev_of d_122_706 rfl
theorem d_122_707 : decode (cd 122) 707 = .ok (.iaload, 1) := by rw [cd_122]; decide +kernel
theorem e_122_707 {d : Nat} {h : mM} {L : mLs} {st : List Value} {a : Nat} {i : Int32} : ev d 122 707 L (.int i :: .ref a :: st) h = if (mK h a = 11 ∨ mK h a = 19) ∧ ixOK i (mL h a) = true then ev d 122 708 L (.int (mI h a i.toNatClampNeg) :: st) h else none := ev_ia d_122_707
theorem d_122_708 : decode (cd 122) 708 = .ok (.aload_n 0, 1) := by rw [cd_122]; decide +kernel
theorem e_122_708 {d : Nat} {h : mM} {T : mLs} {x : Nat} {st : List Value} : ev d 122 708 ( some (.ref x) :: T) st h = ev d 122 709 ( some (.ref x) :: T) (.ref x :: st) h := ev_of d_122_708 rfl
theorem d_122_709 : decode (cd 122) 709 = .ok (.iload_n 3, 1) := by rw [cd_122]; decide +kernel
theorem e_122_709 {d : Nat} {h : mM} {o0 o1 o2 : Option Value} {T : mLs} {x : Int32} {st : List Value} : ev d 122 709 (o0 :: o1 :: o2 :: some (.int x) :: T) st h = ev d 122 710 (o0 :: o1 :: o2 :: some (.int x) :: T) (.int x :: st) h := ev_of d_122_709 rfl
theorem d_122_710 : decode (cd 122) 710 = .ok (.iconst 2, 1) := by rw [cd_122]; decide +kernel
theorem e_122_710 {d : Nat} {h : mM} {L : mLs} {st : List Value} : ev d 122 710 L st h = ev d 122 711 L (.int 2 :: st) h := ev_of d_122_710 rfl
theorem d_122_711 : decode (cd 122) 711 = .ok (.iadd, 1) := by rw [cd_122]; decide +kernel
theorem e_122_711 {d : Nat} {h : mM} {L : mLs} {st : List Value} {x y : Int32} : ev d 122 711 L (.int y :: .int x :: st) h = ev d 122 712 L (.int (x + y) :: st) h := ev_of d_122_711 rfl
theorem d_122_712 : decode (cd 122) 712 = .ok (.iaload, 1) := by rw [cd_122]; decide +kernel
theorem e_122_712 {d : Nat} {h : mM} {L : mLs} {st : List Value} {a : Nat} {i : Int32} : ev d 122 712 L (.int i :: .ref a :: st) h = if (mK h a = 11 ∨ mK h a = 19) ∧ ixOK i (mL h a) = true then ev d 122 713 L (.int (mI h a i.toNatClampNeg) :: st) h else none := ev_ia d_122_712
theorem d_122_713 : decode (cd 122) 713 = .ok (.aload_n 0, 1) := by rw [cd_122]; decide +kernel
theorem e_122_713 {d : Nat} {h : mM} {T : mLs} {x : Nat} {st : List Value} : ev d 122 713 ( some (.ref x) :: T) st h = ev d 122 714 ( some (.ref x) :: T) (.ref x :: st) h := ev_of d_122_713 rfl
theorem d_122_714 : decode (cd 122) 714 = .ok (.iload_n 3, 1) := by rw [cd_122]; decide +kernel
theorem e_122_714 {d : Nat} {h : mM} {o0 o1 o2 : Option Value} {T : mLs} {x : Int32} {st : List Value} : ev d 122 714 (o0 :: o1 :: o2 :: some (.int x) :: T) st h = ev d 122 715 (o0 :: o1 :: o2 :: some (.int x) :: T) (.int x :: st) h := ev_of d_122_714 rfl
theorem d_122_715 : decode (cd 122) 715 = .ok (.iconst 3, 1) := by rw [cd_122]; decide +kernel
theorem e_122_715 {d : Nat} {h : mM} {L : mLs} {st : List Value} : ev d 122 715 L st h = ev d 122 716 L (.int 3 :: st) h := ev_of d_122_715 rfl
theorem d_122_716 : decode (cd 122) 716 = .ok (.iadd, 1) := by rw [cd_122]; decide +kernel
theorem e_122_716 {d : Nat} {h : mM} {L : mLs} {st : List Value} {x y : Int32} : ev d 122 716 L (.int y :: .int x :: st) h = ev d 122 717 L (.int (x + y) :: st) h := ev_of d_122_716 rfl
theorem d_122_717 : decode (cd 122) 717 = .ok (.iaload, 1) := by rw [cd_122]; decide +kernel
theorem e_122_717 {d : Nat} {h : mM} {L : mLs} {st : List Value} {a : Nat} {i : Int32} : ev d 122 717 L (.int i :: .ref a :: st) h = if (mK h a = 11 ∨ mK h a = 19) ∧ ixOK i (mL h a) = true then ev d 122 718 L (.int (mI h a i.toNatClampNeg) :: st) h else none := ev_ia d_122_717
theorem d_122_718 : decode (cd 122) 718 = .ok (.aload_n 0, 1) := by rw [cd_122]; decide +kernel
theorem e_122_718 {d : Nat} {h : mM} {T : mLs} {x : Nat} {st : List Value} : ev d 122 718 ( some (.ref x) :: T) st h = ev d 122 719 ( some (.ref x) :: T) (.ref x :: st) h := ev_of d_122_718 rfl
theorem d_122_719 : decode (cd 122) 719 = .ok (.iload_n 3, 1) := by rw [cd_122]; decide +kernel
theorem e_122_719 {d : Nat} {h : mM} {o0 o1 o2 : Option Value} {T : mLs} {x : Int32} {st : List Value} : ev d 122 719 (o0 :: o1 :: o2 :: some (.int x) :: T) st h = ev d 122 720 (o0 :: o1 :: o2 :: some (.int x) :: T) (.int x :: st) h := ev_of d_122_719 rfl
theorem d_122_720 : decode (cd 122) 720 = .ok (.iconst 4, 1) := by rw [cd_122]; decide +kernel
theorem e_122_720 {d : Nat} {h : mM} {L : mLs} {st : List Value} : ev d 122 720 L st h = ev d 122 721 L (.int 4 :: st) h := ev_of d_122_720 rfl
theorem d_122_721 : decode (cd 122) 721 = .ok (.iadd, 1) := by rw [cd_122]; decide +kernel
theorem e_122_721 {d : Nat} {h : mM} {L : mLs} {st : List Value} {x y : Int32} : ev d 122 721 L (.int y :: .int x :: st) h = ev d 122 722 L (.int (x + y) :: st) h := ev_of d_122_721 rfl
theorem d_122_722 : decode (cd 122) 722 = .ok (.iaload, 1) := by rw [cd_122]; decide +kernel
theorem e_122_722 {d : Nat} {h : mM} {L : mLs} {st : List Value} {a : Nat} {i : Int32} : ev d 122 722 L (.int i :: .ref a :: st) h = if (mK h a = 11 ∨ mK h a = 19) ∧ ixOK i (mL h a) = true then ev d 122 723 L (.int (mI h a i.toNatClampNeg) :: st) h else none := ev_ia d_122_722
theorem d_122_723 : decode (cd 122) 723 = .ok (.invokevirtual 90, 3) := by rw [cd_122]; decide +kernel
theorem e_122_723 {d : Nat} {h : mM} {L : mLs} {st : List Value} {a : Nat} {x0 : Int32} {x1 : Int32} {x2 : Int32} {x3 : Int32} (hc : mCat st ≤ 8) : ev (d + 1) 122 723 L (.int x3 :: .int x2 :: .int x1 :: .int x0 :: .ref a :: st) h = if mK h a = 10 then cV (ev d 97 0 [some (.ref a), some (.int x0), some (.int x1), some (.int x2), some (.int x3), none] [] h) (fun v h1 => ev (d + 1) 122 726 L (v ++ st) h1) else none := ev_cv (mj := 97) (as := [.int x0, .int x1, .int x2, .int x3]) (rest := st) d_122_723 (by decide +kernel) rfl rfl (by show _ ≤ List.length _; simp only [List.length_cons]; have : na 97 = 4 := rfl; omega) rfl (Nat.le_of_ble_eq_true rfl) hc
theorem d_122_726 : decode (cd 122) 726 = .ok (.lcmp, 1) := by rw [cd_122]; decide +kernel
theorem e_122_726 {d : Nat} {h : mM} {L : mLs} {st : List Value} {x y : Int64} : ev d 122 726 L (.long y :: .long x :: st) h = ev d 122 727 L (.int (lg_cmp x y) :: st) h := ev_of d_122_726 rfl
theorem d_122_727 : decode (cd 122) 727 = .ok (.ifCond .eq 355, 3) := by rw [cd_122]; decide +kernel
theorem e_122_727 {d : Nat} {h : mM} {L : mLs} {st : List Value} {x : Int32} : ev d 122 727 L (.int x :: st) h = if x = 0 then ev d 122 1082 L st h else ev d 122 730 L st h := ev_if (x = 0) inferInstance rfl d_122_727 (by decide)
theorem d_122_730 : decode (cd 122) 730 = .ok (.iconst 0, 1) := by rw [cd_122]; decide +kernel
theorem e_122_730 {d : Nat} {h : mM} {L : mLs} {st : List Value} : ev d 122 730 L st h = ev d 122 731 L (.int 0 :: st) h := ev_of d_122_730 rfl
theorem d_122_731 : decode (cd 122) 731 = .ok (.ireturn, 1) := by rw [cd_122]; decide +kernel
theorem e_122_731 {d : Nat} {h : mM} {L : mLs} {v : Int32} : ev d 122 731 L [.int v] h = if mZO v = true then some (some (.int v), h) else none := ev_rz d_122_731 (by decide +kernel)
theorem d_122_732 : decode (cd 122) 732 = .ok (.aload_n 1, 1) := by rw [cd_122]; decide +kernel
theorem e_122_732 {d : Nat} {h : mM} {o0 : Option Value} {T : mLs} {x : Nat} {st : List Value} : ev d 122 732 (o0 :: some (.ref x) :: T) st h = ev d 122 733 (o0 :: some (.ref x) :: T) (.ref x :: st) h := ev_of d_122_732 rfl
theorem d_122_733 : decode (cd 122) 733 = .ok (.aload_n 0, 1) := by rw [cd_122]; decide +kernel
theorem e_122_733 {d : Nat} {h : mM} {T : mLs} {x : Nat} {st : List Value} : ev d 122 733 ( some (.ref x) :: T) st h = ev d 122 734 ( some (.ref x) :: T) (.ref x :: st) h := ev_of d_122_733 rfl
theorem d_122_734 : decode (cd 122) 734 = .ok (.iload_n 3, 1) := by rw [cd_122]; decide +kernel
theorem e_122_734 {d : Nat} {h : mM} {o0 o1 o2 : Option Value} {T : mLs} {x : Int32} {st : List Value} : ev d 122 734 (o0 :: o1 :: o2 :: some (.int x) :: T) st h = ev d 122 735 (o0 :: o1 :: o2 :: some (.int x) :: T) (.int x :: st) h := ev_of d_122_734 rfl
theorem d_122_735 : decode (cd 122) 735 = .ok (.iconst 1, 1) := by rw [cd_122]; decide +kernel
theorem e_122_735 {d : Nat} {h : mM} {L : mLs} {st : List Value} : ev d 122 735 L st h = ev d 122 736 L (.int 1 :: st) h := ev_of d_122_735 rfl
theorem d_122_736 : decode (cd 122) 736 = .ok (.iadd, 1) := by rw [cd_122]; decide +kernel
theorem e_122_736 {d : Nat} {h : mM} {L : mLs} {st : List Value} {x y : Int32} : ev d 122 736 L (.int y :: .int x :: st) h = ev d 122 737 L (.int (x + y) :: st) h := ev_of d_122_736 rfl
theorem d_122_737 : decode (cd 122) 737 = .ok (.iaload, 1) := by rw [cd_122]; decide +kernel
theorem e_122_737 {d : Nat} {h : mM} {L : mLs} {st : List Value} {a : Nat} {i : Int32} : ev d 122 737 L (.int i :: .ref a :: st) h = if (mK h a = 11 ∨ mK h a = 19) ∧ ixOK i (mL h a) = true then ev d 122 738 L (.int (mI h a i.toNatClampNeg) :: st) h else none := ev_ia d_122_737
theorem d_122_738 : decode (cd 122) 738 = .ok (.aload_n 0, 1) := by rw [cd_122]; decide +kernel
theorem e_122_738 {d : Nat} {h : mM} {T : mLs} {x : Nat} {st : List Value} : ev d 122 738 ( some (.ref x) :: T) st h = ev d 122 739 ( some (.ref x) :: T) (.ref x :: st) h := ev_of d_122_738 rfl
theorem d_122_739 : decode (cd 122) 739 = .ok (.iload_n 3, 1) := by rw [cd_122]; decide +kernel
theorem e_122_739 {d : Nat} {h : mM} {o0 o1 o2 : Option Value} {T : mLs} {x : Int32} {st : List Value} : ev d 122 739 (o0 :: o1 :: o2 :: some (.int x) :: T) st h = ev d 122 740 (o0 :: o1 :: o2 :: some (.int x) :: T) (.int x :: st) h := ev_of d_122_739 rfl
theorem d_122_740 : decode (cd 122) 740 = .ok (.iconst 2, 1) := by rw [cd_122]; decide +kernel
theorem e_122_740 {d : Nat} {h : mM} {L : mLs} {st : List Value} : ev d 122 740 L st h = ev d 122 741 L (.int 2 :: st) h := ev_of d_122_740 rfl
theorem d_122_741 : decode (cd 122) 741 = .ok (.iadd, 1) := by rw [cd_122]; decide +kernel
theorem e_122_741 {d : Nat} {h : mM} {L : mLs} {st : List Value} {x y : Int32} : ev d 122 741 L (.int y :: .int x :: st) h = ev d 122 742 L (.int (x + y) :: st) h := ev_of d_122_741 rfl
theorem d_122_742 : decode (cd 122) 742 = .ok (.iaload, 1) := by rw [cd_122]; decide +kernel
theorem e_122_742 {d : Nat} {h : mM} {L : mLs} {st : List Value} {a : Nat} {i : Int32} : ev d 122 742 L (.int i :: .ref a :: st) h = if (mK h a = 11 ∨ mK h a = 19) ∧ ixOK i (mL h a) = true then ev d 122 743 L (.int (mI h a i.toNatClampNeg) :: st) h else none := ev_ia d_122_742
theorem d_122_743 : decode (cd 122) 743 = .ok (.aload_n 0, 1) := by rw [cd_122]; decide +kernel
theorem e_122_743 {d : Nat} {h : mM} {T : mLs} {x : Nat} {st : List Value} : ev d 122 743 ( some (.ref x) :: T) st h = ev d 122 744 ( some (.ref x) :: T) (.ref x :: st) h := ev_of d_122_743 rfl
theorem d_122_744 : decode (cd 122) 744 = .ok (.iload_n 3, 1) := by rw [cd_122]; decide +kernel
theorem e_122_744 {d : Nat} {h : mM} {o0 o1 o2 : Option Value} {T : mLs} {x : Int32} {st : List Value} : ev d 122 744 (o0 :: o1 :: o2 :: some (.int x) :: T) st h = ev d 122 745 (o0 :: o1 :: o2 :: some (.int x) :: T) (.int x :: st) h := ev_of d_122_744 rfl
theorem d_122_745 : decode (cd 122) 745 = .ok (.iconst 3, 1) := by rw [cd_122]; decide +kernel
theorem e_122_745 {d : Nat} {h : mM} {L : mLs} {st : List Value} : ev d 122 745 L st h = ev d 122 746 L (.int 3 :: st) h := ev_of d_122_745 rfl
theorem d_122_746 : decode (cd 122) 746 = .ok (.iadd, 1) := by rw [cd_122]; decide +kernel
theorem e_122_746 {d : Nat} {h : mM} {L : mLs} {st : List Value} {x y : Int32} : ev d 122 746 L (.int y :: .int x :: st) h = ev d 122 747 L (.int (x + y) :: st) h := ev_of d_122_746 rfl
theorem d_122_747 : decode (cd 122) 747 = .ok (.iaload, 1) := by rw [cd_122]; decide +kernel
theorem e_122_747 {d : Nat} {h : mM} {L : mLs} {st : List Value} {a : Nat} {i : Int32} : ev d 122 747 L (.int i :: .ref a :: st) h = if (mK h a = 11 ∨ mK h a = 19) ∧ ixOK i (mL h a) = true then ev d 122 748 L (.int (mI h a i.toNatClampNeg) :: st) h else none := ev_ia d_122_747
theorem d_122_748 : decode (cd 122) 748 = .ok (.invokevirtual 93, 3) := by rw [cd_122]; decide +kernel
theorem e_122_748 {d : Nat} {h : mM} {L : mLs} {st : List Value} {a : Nat} {x0 : Int32} {x1 : Int32} {x2 : Int32} (hc : mCat st ≤ 8) : ev (d + 1) 122 748 L (.int x2 :: .int x1 :: .int x0 :: .ref a :: st) h = if mK h a = 9 then cV (ev d 52 0 [some (.ref a), some (.int x0), some (.int x1), some (.int x2), none, none] [] h) (fun v h1 => ev (d + 1) 122 751 L (v ++ st) h1) else none := ev_cv (mj := 52) (as := [.int x0, .int x1, .int x2]) (rest := st) d_122_748 (by decide +kernel) rfl rfl (by show _ ≤ List.length _; simp only [List.length_cons]; have : na 52 = 3 := rfl; omega) rfl (Nat.le_of_ble_eq_true rfl) hc
theorem d_122_751 : decode (cd 122) 751 = .ok (.i2l, 1) := by rw [cd_122]; decide +kernel
theorem e_122_751 {d : Nat} {h : mM} {L : mLs} {st : List Value} {x : Int32} : ev d 122 751 L (.int x :: st) h = ev d 122 752 L (.long x.toInt64 :: st) h := ev_of d_122_751 rfl
theorem d_122_752 : decode (cd 122) 752 = .ok (.aload_n 2, 1) := by rw [cd_122]; decide +kernel
theorem e_122_752 {d : Nat} {h : mM} {o0 o1 : Option Value} {T : mLs} {x : Nat} {st : List Value} : ev d 122 752 (o0 :: o1 :: some (.ref x) :: T) st h = ev d 122 753 (o0 :: o1 :: some (.ref x) :: T) (.ref x :: st) h := ev_of d_122_752 rfl
theorem d_122_753 : decode (cd 122) 753 = .ok (.aload_n 0, 1) := by rw [cd_122]; decide +kernel
theorem e_122_753 {d : Nat} {h : mM} {T : mLs} {x : Nat} {st : List Value} : ev d 122 753 ( some (.ref x) :: T) st h = ev d 122 754 ( some (.ref x) :: T) (.ref x :: st) h := ev_of d_122_753 rfl
theorem d_122_754 : decode (cd 122) 754 = .ok (.iload_n 3, 1) := by rw [cd_122]; decide +kernel
theorem e_122_754 {d : Nat} {h : mM} {o0 o1 o2 : Option Value} {T : mLs} {x : Int32} {st : List Value} : ev d 122 754 (o0 :: o1 :: o2 :: some (.int x) :: T) st h = ev d 122 755 (o0 :: o1 :: o2 :: some (.int x) :: T) (.int x :: st) h := ev_of d_122_754 rfl
theorem d_122_755 : decode (cd 122) 755 = .ok (.iconst 1, 1) := by rw [cd_122]; decide +kernel
theorem e_122_755 {d : Nat} {h : mM} {L : mLs} {st : List Value} : ev d 122 755 L st h = ev d 122 756 L (.int 1 :: st) h := ev_of d_122_755 rfl
theorem d_122_756 : decode (cd 122) 756 = .ok (.iadd, 1) := by rw [cd_122]; decide +kernel
theorem e_122_756 {d : Nat} {h : mM} {L : mLs} {st : List Value} {x y : Int32} : ev d 122 756 L (.int y :: .int x :: st) h = ev d 122 757 L (.int (x + y) :: st) h := ev_of d_122_756 rfl
theorem d_122_757 : decode (cd 122) 757 = .ok (.iaload, 1) := by rw [cd_122]; decide +kernel
theorem e_122_757 {d : Nat} {h : mM} {L : mLs} {st : List Value} {a : Nat} {i : Int32} : ev d 122 757 L (.int i :: .ref a :: st) h = if (mK h a = 11 ∨ mK h a = 19) ∧ ixOK i (mL h a) = true then ev d 122 758 L (.int (mI h a i.toNatClampNeg) :: st) h else none := ev_ia d_122_757
theorem d_122_758 : decode (cd 122) 758 = .ok (.aload_n 0, 1) := by rw [cd_122]; decide +kernel
theorem e_122_758 {d : Nat} {h : mM} {T : mLs} {x : Nat} {st : List Value} : ev d 122 758 ( some (.ref x) :: T) st h = ev d 122 759 ( some (.ref x) :: T) (.ref x :: st) h := ev_of d_122_758 rfl
theorem d_122_759 : decode (cd 122) 759 = .ok (.iload_n 3, 1) := by rw [cd_122]; decide +kernel
theorem e_122_759 {d : Nat} {h : mM} {o0 o1 o2 : Option Value} {T : mLs} {x : Int32} {st : List Value} : ev d 122 759 (o0 :: o1 :: o2 :: some (.int x) :: T) st h = ev d 122 760 (o0 :: o1 :: o2 :: some (.int x) :: T) (.int x :: st) h := ev_of d_122_759 rfl
theorem d_122_760 : decode (cd 122) 760 = .ok (.iconst 2, 1) := by rw [cd_122]; decide +kernel
theorem e_122_760 {d : Nat} {h : mM} {L : mLs} {st : List Value} : ev d 122 760 L st h = ev d 122 761 L (.int 2 :: st) h := ev_of d_122_760 rfl
theorem d_122_761 : decode (cd 122) 761 = .ok (.iadd, 1) := by rw [cd_122]; decide +kernel
theorem e_122_761 {d : Nat} {h : mM} {L : mLs} {st : List Value} {x y : Int32} : ev d 122 761 L (.int y :: .int x :: st) h = ev d 122 762 L (.int (x + y) :: st) h := ev_of d_122_761 rfl
theorem d_122_762 : decode (cd 122) 762 = .ok (.iaload, 1) := by rw [cd_122]; decide +kernel
theorem e_122_762 {d : Nat} {h : mM} {L : mLs} {st : List Value} {a : Nat} {i : Int32} : ev d 122 762 L (.int i :: .ref a :: st) h = if (mK h a = 11 ∨ mK h a = 19) ∧ ixOK i (mL h a) = true then ev d 122 763 L (.int (mI h a i.toNatClampNeg) :: st) h else none := ev_ia d_122_762
theorem d_122_763 : decode (cd 122) 763 = .ok (.aload_n 0, 1) := by rw [cd_122]; decide +kernel
theorem e_122_763 {d : Nat} {h : mM} {T : mLs} {x : Nat} {st : List Value} : ev d 122 763 ( some (.ref x) :: T) st h = ev d 122 764 ( some (.ref x) :: T) (.ref x :: st) h := ev_of d_122_763 rfl
theorem d_122_764 : decode (cd 122) 764 = .ok (.iload_n 3, 1) := by rw [cd_122]; decide +kernel
theorem e_122_764 {d : Nat} {h : mM} {o0 o1 o2 : Option Value} {T : mLs} {x : Int32} {st : List Value} : ev d 122 764 (o0 :: o1 :: o2 :: some (.int x) :: T) st h = ev d 122 765 (o0 :: o1 :: o2 :: some (.int x) :: T) (.int x :: st) h := ev_of d_122_764 rfl
theorem d_122_765 : decode (cd 122) 765 = .ok (.iconst 3, 1) := by rw [cd_122]; decide +kernel
theorem e_122_765 {d : Nat} {h : mM} {L : mLs} {st : List Value} : ev d 122 765 L st h = ev d 122 766 L (.int 3 :: st) h := ev_of d_122_765 rfl
theorem d_122_766 : decode (cd 122) 766 = .ok (.iadd, 1) := by rw [cd_122]; decide +kernel
theorem e_122_766 {d : Nat} {h : mM} {L : mLs} {st : List Value} {x y : Int32} : ev d 122 766 L (.int y :: .int x :: st) h = ev d 122 767 L (.int (x + y) :: st) h := ev_of d_122_766 rfl
theorem d_122_767 : decode (cd 122) 767 = .ok (.iaload, 1) := by rw [cd_122]; decide +kernel
theorem e_122_767 {d : Nat} {h : mM} {L : mLs} {st : List Value} {a : Nat} {i : Int32} : ev d 122 767 L (.int i :: .ref a :: st) h = if (mK h a = 11 ∨ mK h a = 19) ∧ ixOK i (mL h a) = true then ev d 122 768 L (.int (mI h a i.toNatClampNeg) :: st) h else none := ev_ia d_122_767
theorem d_122_768 : decode (cd 122) 768 = .ok (.invokevirtual 96, 3) := by rw [cd_122]; decide +kernel
theorem e_122_768 {d : Nat} {h : mM} {L : mLs} {st : List Value} {a : Nat} {x0 : Int32} {x1 : Int32} {x2 : Int32} (hc : mCat st ≤ 8) : ev (d + 1) 122 768 L (.int x2 :: .int x1 :: .int x0 :: .ref a :: st) h = if mK h a = 10 then cV (ev d 98 0 [some (.ref a), some (.int x0), some (.int x1), some (.int x2)] [] h) (fun v h1 => ev (d + 1) 122 771 L (v ++ st) h1) else none := ev_cv (mj := 98) (as := [.int x0, .int x1, .int x2]) (rest := st) d_122_768 (by decide +kernel) rfl rfl (by show _ ≤ List.length _; simp only [List.length_cons]; have : na 98 = 3 := rfl; omega) rfl (Nat.le_of_ble_eq_true rfl) hc
theorem d_122_771 : decode (cd 122) 771 = .ok (.lcmp, 1) := by rw [cd_122]; decide +kernel
theorem e_122_771 {d : Nat} {h : mM} {L : mLs} {st : List Value} {x y : Int64} : ev d 122 771 L (.long y :: .long x :: st) h = ev d 122 772 L (.int (lg_cmp x y) :: st) h := ev_of d_122_771 rfl
theorem d_122_772 : decode (cd 122) 772 = .ok (.ifCond .eq 310, 3) := by rw [cd_122]; decide +kernel
theorem e_122_772 {d : Nat} {h : mM} {L : mLs} {st : List Value} {x : Int32} : ev d 122 772 L (.int x :: st) h = if x = 0 then ev d 122 1082 L st h else ev d 122 775 L st h := ev_if (x = 0) inferInstance rfl d_122_772 (by decide)
theorem d_122_775 : decode (cd 122) 775 = .ok (.iconst 0, 1) := by rw [cd_122]; decide +kernel
theorem e_122_775 {d : Nat} {h : mM} {L : mLs} {st : List Value} : ev d 122 775 L st h = ev d 122 776 L (.int 0 :: st) h := ev_of d_122_775 rfl
theorem d_122_776 : decode (cd 122) 776 = .ok (.ireturn, 1) := by rw [cd_122]; decide +kernel
theorem e_122_776 {d : Nat} {h : mM} {L : mLs} {v : Int32} : ev d 122 776 L [.int v] h = if mZO v = true then some (some (.int v), h) else none := ev_rz d_122_776 (by decide +kernel)
theorem d_122_777 : decode (cd 122) 777 = .ok (.aload_n 1, 1) := by rw [cd_122]; decide +kernel
theorem e_122_777 {d : Nat} {h : mM} {o0 : Option Value} {T : mLs} {x : Nat} {st : List Value} : ev d 122 777 (o0 :: some (.ref x) :: T) st h = ev d 122 778 (o0 :: some (.ref x) :: T) (.ref x :: st) h := ev_of d_122_777 rfl
theorem d_122_778 : decode (cd 122) 778 = .ok (.aload_n 0, 1) := by rw [cd_122]; decide +kernel
theorem e_122_778 {d : Nat} {h : mM} {T : mLs} {x : Nat} {st : List Value} : ev d 122 778 ( some (.ref x) :: T) st h = ev d 122 779 ( some (.ref x) :: T) (.ref x :: st) h := ev_of d_122_778 rfl
theorem d_122_779 : decode (cd 122) 779 = .ok (.iload_n 3, 1) := by rw [cd_122]; decide +kernel
theorem e_122_779 {d : Nat} {h : mM} {o0 o1 o2 : Option Value} {T : mLs} {x : Int32} {st : List Value} : ev d 122 779 (o0 :: o1 :: o2 :: some (.int x) :: T) st h = ev d 122 780 (o0 :: o1 :: o2 :: some (.int x) :: T) (.int x :: st) h := ev_of d_122_779 rfl
theorem d_122_780 : decode (cd 122) 780 = .ok (.iconst 1, 1) := by rw [cd_122]; decide +kernel
theorem e_122_780 {d : Nat} {h : mM} {L : mLs} {st : List Value} : ev d 122 780 L st h = ev d 122 781 L (.int 1 :: st) h := ev_of d_122_780 rfl
theorem d_122_781 : decode (cd 122) 781 = .ok (.iadd, 1) := by rw [cd_122]; decide +kernel
theorem e_122_781 {d : Nat} {h : mM} {L : mLs} {st : List Value} {x y : Int32} : ev d 122 781 L (.int y :: .int x :: st) h = ev d 122 782 L (.int (x + y) :: st) h := ev_of d_122_781 rfl
theorem d_122_782 : decode (cd 122) 782 = .ok (.iaload, 1) := by rw [cd_122]; decide +kernel
theorem e_122_782 {d : Nat} {h : mM} {L : mLs} {st : List Value} {a : Nat} {i : Int32} : ev d 122 782 L (.int i :: .ref a :: st) h = if (mK h a = 11 ∨ mK h a = 19) ∧ ixOK i (mL h a) = true then ev d 122 783 L (.int (mI h a i.toNatClampNeg) :: st) h else none := ev_ia d_122_782
theorem d_122_783 : decode (cd 122) 783 = .ok (.aload_n 0, 1) := by rw [cd_122]; decide +kernel
theorem e_122_783 {d : Nat} {h : mM} {T : mLs} {x : Nat} {st : List Value} : ev d 122 783 ( some (.ref x) :: T) st h = ev d 122 784 ( some (.ref x) :: T) (.ref x :: st) h := ev_of d_122_783 rfl
theorem d_122_784 : decode (cd 122) 784 = .ok (.iload_n 3, 1) := by rw [cd_122]; decide +kernel
theorem e_122_784 {d : Nat} {h : mM} {o0 o1 o2 : Option Value} {T : mLs} {x : Int32} {st : List Value} : ev d 122 784 (o0 :: o1 :: o2 :: some (.int x) :: T) st h = ev d 122 785 (o0 :: o1 :: o2 :: some (.int x) :: T) (.int x :: st) h := ev_of d_122_784 rfl
theorem d_122_785 : decode (cd 122) 785 = .ok (.iconst 2, 1) := by rw [cd_122]; decide +kernel
theorem e_122_785 {d : Nat} {h : mM} {L : mLs} {st : List Value} : ev d 122 785 L st h = ev d 122 786 L (.int 2 :: st) h := ev_of d_122_785 rfl
theorem d_122_786 : decode (cd 122) 786 = .ok (.iadd, 1) := by rw [cd_122]; decide +kernel
theorem e_122_786 {d : Nat} {h : mM} {L : mLs} {st : List Value} {x y : Int32} : ev d 122 786 L (.int y :: .int x :: st) h = ev d 122 787 L (.int (x + y) :: st) h := ev_of d_122_786 rfl
theorem d_122_787 : decode (cd 122) 787 = .ok (.iaload, 1) := by rw [cd_122]; decide +kernel
theorem e_122_787 {d : Nat} {h : mM} {L : mLs} {st : List Value} {a : Nat} {i : Int32} : ev d 122 787 L (.int i :: .ref a :: st) h = if (mK h a = 11 ∨ mK h a = 19) ∧ ixOK i (mL h a) = true then ev d 122 788 L (.int (mI h a i.toNatClampNeg) :: st) h else none := ev_ia d_122_787
theorem d_122_788 : decode (cd 122) 788 = .ok (.invokevirtual 98, 3) := by rw [cd_122]; decide +kernel
theorem e_122_788 {d : Nat} {h : mM} {L : mLs} {st : List Value} {a : Nat} {x0 : Int32} {x1 : Int32} (hc : mCat st ≤ 8) : ev (d + 1) 122 788 L (.int x1 :: .int x0 :: .ref a :: st) h = if mK h a = 9 then cV (ev d 53 0 [some (.ref a), some (.int x0), some (.int x1), none] [] h) (fun v h1 => ev (d + 1) 122 791 L (v ++ st) h1) else none := ev_cv (mj := 53) (as := [.int x0, .int x1]) (rest := st) d_122_788 (by decide +kernel) rfl rfl (by show _ ≤ List.length _; simp only [List.length_cons]; have : na 53 = 2 := rfl; omega) rfl (Nat.le_of_ble_eq_true rfl) hc
theorem d_122_791 : decode (cd 122) 791 = .ok (.i2l, 1) := by rw [cd_122]; decide +kernel
theorem e_122_791 {d : Nat} {h : mM} {L : mLs} {st : List Value} {x : Int32} : ev d 122 791 L (.int x :: st) h = ev d 122 792 L (.long x.toInt64 :: st) h := ev_of d_122_791 rfl
theorem d_122_792 : decode (cd 122) 792 = .ok (.aload_n 2, 1) := by rw [cd_122]; decide +kernel
theorem e_122_792 {d : Nat} {h : mM} {o0 o1 : Option Value} {T : mLs} {x : Nat} {st : List Value} : ev d 122 792 (o0 :: o1 :: some (.ref x) :: T) st h = ev d 122 793 (o0 :: o1 :: some (.ref x) :: T) (.ref x :: st) h := ev_of d_122_792 rfl
theorem d_122_793 : decode (cd 122) 793 = .ok (.aload_n 0, 1) := by rw [cd_122]; decide +kernel
theorem e_122_793 {d : Nat} {h : mM} {T : mLs} {x : Nat} {st : List Value} : ev d 122 793 ( some (.ref x) :: T) st h = ev d 122 794 ( some (.ref x) :: T) (.ref x :: st) h := ev_of d_122_793 rfl
theorem d_122_794 : decode (cd 122) 794 = .ok (.iload_n 3, 1) := by rw [cd_122]; decide +kernel
theorem e_122_794 {d : Nat} {h : mM} {o0 o1 o2 : Option Value} {T : mLs} {x : Int32} {st : List Value} : ev d 122 794 (o0 :: o1 :: o2 :: some (.int x) :: T) st h = ev d 122 795 (o0 :: o1 :: o2 :: some (.int x) :: T) (.int x :: st) h := ev_of d_122_794 rfl
theorem d_122_795 : decode (cd 122) 795 = .ok (.iconst 1, 1) := by rw [cd_122]; decide +kernel
theorem e_122_795 {d : Nat} {h : mM} {L : mLs} {st : List Value} : ev d 122 795 L st h = ev d 122 796 L (.int 1 :: st) h := ev_of d_122_795 rfl
theorem d_122_796 : decode (cd 122) 796 = .ok (.iadd, 1) := by rw [cd_122]; decide +kernel
theorem e_122_796 {d : Nat} {h : mM} {L : mLs} {st : List Value} {x y : Int32} : ev d 122 796 L (.int y :: .int x :: st) h = ev d 122 797 L (.int (x + y) :: st) h := ev_of d_122_796 rfl
theorem d_122_797 : decode (cd 122) 797 = .ok (.iaload, 1) := by rw [cd_122]; decide +kernel
theorem e_122_797 {d : Nat} {h : mM} {L : mLs} {st : List Value} {a : Nat} {i : Int32} : ev d 122 797 L (.int i :: .ref a :: st) h = if (mK h a = 11 ∨ mK h a = 19) ∧ ixOK i (mL h a) = true then ev d 122 798 L (.int (mI h a i.toNatClampNeg) :: st) h else none := ev_ia d_122_797
theorem d_122_798 : decode (cd 122) 798 = .ok (.aload_n 0, 1) := by rw [cd_122]; decide +kernel
theorem e_122_798 {d : Nat} {h : mM} {T : mLs} {x : Nat} {st : List Value} : ev d 122 798 ( some (.ref x) :: T) st h = ev d 122 799 ( some (.ref x) :: T) (.ref x :: st) h := ev_of d_122_798 rfl
theorem d_122_799 : decode (cd 122) 799 = .ok (.iload_n 3, 1) := by rw [cd_122]; decide +kernel
theorem e_122_799 {d : Nat} {h : mM} {o0 o1 o2 : Option Value} {T : mLs} {x : Int32} {st : List Value} : ev d 122 799 (o0 :: o1 :: o2 :: some (.int x) :: T) st h = ev d 122 800 (o0 :: o1 :: o2 :: some (.int x) :: T) (.int x :: st) h := ev_of d_122_799 rfl
theorem d_122_800 : decode (cd 122) 800 = .ok (.iconst 2, 1) := by rw [cd_122]; decide +kernel
theorem e_122_800 {d : Nat} {h : mM} {L : mLs} {st : List Value} : ev d 122 800 L st h = ev d 122 801 L (.int 2 :: st) h := ev_of d_122_800 rfl
theorem d_122_801 : decode (cd 122) 801 = .ok (.iadd, 1) := by rw [cd_122]; decide +kernel
theorem e_122_801 {d : Nat} {h : mM} {L : mLs} {st : List Value} {x y : Int32} : ev d 122 801 L (.int y :: .int x :: st) h = ev d 122 802 L (.int (x + y) :: st) h := ev_of d_122_801 rfl
theorem d_122_802 : decode (cd 122) 802 = .ok (.iaload, 1) := by rw [cd_122]; decide +kernel
theorem e_122_802 {d : Nat} {h : mM} {L : mLs} {st : List Value} {a : Nat} {i : Int32} : ev d 122 802 L (.int i :: .ref a :: st) h = if (mK h a = 11 ∨ mK h a = 19) ∧ ixOK i (mL h a) = true then ev d 122 803 L (.int (mI h a i.toNatClampNeg) :: st) h else none := ev_ia d_122_802
theorem d_122_803 : decode (cd 122) 803 = .ok (.invokevirtual 101, 3) := by rw [cd_122]; decide +kernel
theorem e_122_803 {d : Nat} {h : mM} {L : mLs} {st : List Value} {a : Nat} {x0 : Int32} {x1 : Int32} (hc : mCat st ≤ 8) : ev (d + 1) 122 803 L (.int x1 :: .int x0 :: .ref a :: st) h = if mK h a = 10 then cV (ev d 99 0 [some (.ref a), some (.int x0), some (.int x1), none] [] h) (fun v h1 => ev (d + 1) 122 806 L (v ++ st) h1) else none := ev_cv (mj := 99) (as := [.int x0, .int x1]) (rest := st) d_122_803 (by decide +kernel) rfl rfl (by show _ ≤ List.length _; simp only [List.length_cons]; have : na 99 = 2 := rfl; omega) rfl (Nat.le_of_ble_eq_true rfl) hc
theorem d_122_806 : decode (cd 122) 806 = .ok (.lcmp, 1) := by rw [cd_122]; decide +kernel
theorem e_122_806 {d : Nat} {h : mM} {L : mLs} {st : List Value} {x y : Int64} : ev d 122 806 L (.long y :: .long x :: st) h = ev d 122 807 L (.int (lg_cmp x y) :: st) h := ev_of d_122_806 rfl
theorem d_122_807 : decode (cd 122) 807 = .ok (.ifCond .eq 275, 3) := by rw [cd_122]; decide +kernel
theorem e_122_807 {d : Nat} {h : mM} {L : mLs} {st : List Value} {x : Int32} : ev d 122 807 L (.int x :: st) h = if x = 0 then ev d 122 1082 L st h else ev d 122 810 L st h := ev_if (x = 0) inferInstance rfl d_122_807 (by decide)
theorem d_122_810 : decode (cd 122) 810 = .ok (.iconst 0, 1) := by rw [cd_122]; decide +kernel
theorem e_122_810 {d : Nat} {h : mM} {L : mLs} {st : List Value} : ev d 122 810 L st h = ev d 122 811 L (.int 0 :: st) h := ev_of d_122_810 rfl
theorem d_122_811 : decode (cd 122) 811 = .ok (.ireturn, 1) := by rw [cd_122]; decide +kernel
theorem e_122_811 {d : Nat} {h : mM} {L : mLs} {v : Int32} : ev d 122 811 L [.int v] h = if mZO v = true then some (some (.int v), h) else none := ev_rz d_122_811 (by decide +kernel)
theorem d_122_812 : decode (cd 122) 812 = .ok (.aload_n 1, 1) := by rw [cd_122]; decide +kernel
theorem e_122_812 {d : Nat} {h : mM} {o0 : Option Value} {T : mLs} {x : Nat} {st : List Value} : ev d 122 812 (o0 :: some (.ref x) :: T) st h = ev d 122 813 (o0 :: some (.ref x) :: T) (.ref x :: st) h := ev_of d_122_812 rfl
theorem d_122_813 : decode (cd 122) 813 = .ok (.aload_n 0, 1) := by rw [cd_122]; decide +kernel
theorem e_122_813 {d : Nat} {h : mM} {T : mLs} {x : Nat} {st : List Value} : ev d 122 813 ( some (.ref x) :: T) st h = ev d 122 814 ( some (.ref x) :: T) (.ref x :: st) h := ev_of d_122_813 rfl
theorem d_122_814 : decode (cd 122) 814 = .ok (.iload_n 3, 1) := by rw [cd_122]; decide +kernel
theorem e_122_814 {d : Nat} {h : mM} {o0 o1 o2 : Option Value} {T : mLs} {x : Int32} {st : List Value} : ev d 122 814 (o0 :: o1 :: o2 :: some (.int x) :: T) st h = ev d 122 815 (o0 :: o1 :: o2 :: some (.int x) :: T) (.int x :: st) h := ev_of d_122_814 rfl
theorem d_122_815 : decode (cd 122) 815 = .ok (.iconst 1, 1) := by rw [cd_122]; decide +kernel
theorem e_122_815 {d : Nat} {h : mM} {L : mLs} {st : List Value} : ev d 122 815 L st h = ev d 122 816 L (.int 1 :: st) h := ev_of d_122_815 rfl
theorem d_122_816 : decode (cd 122) 816 = .ok (.iadd, 1) := by rw [cd_122]; decide +kernel
theorem e_122_816 {d : Nat} {h : mM} {L : mLs} {st : List Value} {x y : Int32} : ev d 122 816 L (.int y :: .int x :: st) h = ev d 122 817 L (.int (x + y) :: st) h := ev_of d_122_816 rfl
theorem d_122_817 : decode (cd 122) 817 = .ok (.iaload, 1) := by rw [cd_122]; decide +kernel
theorem e_122_817 {d : Nat} {h : mM} {L : mLs} {st : List Value} {a : Nat} {i : Int32} : ev d 122 817 L (.int i :: .ref a :: st) h = if (mK h a = 11 ∨ mK h a = 19) ∧ ixOK i (mL h a) = true then ev d 122 818 L (.int (mI h a i.toNatClampNeg) :: st) h else none := ev_ia d_122_817
theorem d_122_818 : decode (cd 122) 818 = .ok (.invokevirtual 103, 3) := by rw [cd_122]; decide +kernel
theorem e_122_818 {d : Nat} {h : mM} {L : mLs} {st : List Value} {a : Nat} {x0 : Int32} (hc : mCat st ≤ 8) : ev (d + 1) 122 818 L (.int x0 :: .ref a :: st) h = if mK h a = 9 then cV (ev d 54 0 [some (.ref a), some (.int x0)] [] h) (fun v h1 => ev (d + 1) 122 821 L (v ++ st) h1) else none := ev_cv (mj := 54) (as := [.int x0]) (rest := st) d_122_818 (by decide +kernel) rfl rfl (by show _ ≤ List.length _; simp only [List.length_cons]; have : na 54 = 1 := rfl; omega) rfl (Nat.le_of_ble_eq_true rfl) hc
theorem d_122_821 : decode (cd 122) 821 = .ok (.i2l, 1) := by rw [cd_122]; decide +kernel
theorem e_122_821 {d : Nat} {h : mM} {L : mLs} {st : List Value} {x : Int32} : ev d 122 821 L (.int x :: st) h = ev d 122 822 L (.long x.toInt64 :: st) h := ev_of d_122_821 rfl
theorem d_122_822 : decode (cd 122) 822 = .ok (.aload_n 2, 1) := by rw [cd_122]; decide +kernel
theorem e_122_822 {d : Nat} {h : mM} {o0 o1 : Option Value} {T : mLs} {x : Nat} {st : List Value} : ev d 122 822 (o0 :: o1 :: some (.ref x) :: T) st h = ev d 122 823 (o0 :: o1 :: some (.ref x) :: T) (.ref x :: st) h := ev_of d_122_822 rfl
theorem d_122_823 : decode (cd 122) 823 = .ok (.aload_n 0, 1) := by rw [cd_122]; decide +kernel
theorem e_122_823 {d : Nat} {h : mM} {T : mLs} {x : Nat} {st : List Value} : ev d 122 823 ( some (.ref x) :: T) st h = ev d 122 824 ( some (.ref x) :: T) (.ref x :: st) h := ev_of d_122_823 rfl
theorem d_122_824 : decode (cd 122) 824 = .ok (.iload_n 3, 1) := by rw [cd_122]; decide +kernel
theorem e_122_824 {d : Nat} {h : mM} {o0 o1 o2 : Option Value} {T : mLs} {x : Int32} {st : List Value} : ev d 122 824 (o0 :: o1 :: o2 :: some (.int x) :: T) st h = ev d 122 825 (o0 :: o1 :: o2 :: some (.int x) :: T) (.int x :: st) h := ev_of d_122_824 rfl
theorem d_122_825 : decode (cd 122) 825 = .ok (.iconst 1, 1) := by rw [cd_122]; decide +kernel
theorem e_122_825 {d : Nat} {h : mM} {L : mLs} {st : List Value} : ev d 122 825 L st h = ev d 122 826 L (.int 1 :: st) h := ev_of d_122_825 rfl
theorem d_122_826 : decode (cd 122) 826 = .ok (.iadd, 1) := by rw [cd_122]; decide +kernel
theorem e_122_826 {d : Nat} {h : mM} {L : mLs} {st : List Value} {x y : Int32} : ev d 122 826 L (.int y :: .int x :: st) h = ev d 122 827 L (.int (x + y) :: st) h := ev_of d_122_826 rfl
theorem d_122_827 : decode (cd 122) 827 = .ok (.iaload, 1) := by rw [cd_122]; decide +kernel
theorem e_122_827 {d : Nat} {h : mM} {L : mLs} {st : List Value} {a : Nat} {i : Int32} : ev d 122 827 L (.int i :: .ref a :: st) h = if (mK h a = 11 ∨ mK h a = 19) ∧ ixOK i (mL h a) = true then ev d 122 828 L (.int (mI h a i.toNatClampNeg) :: st) h else none := ev_ia d_122_827
theorem d_122_828 : decode (cd 122) 828 = .ok (.invokevirtual 106, 3) := by rw [cd_122]; decide +kernel
theorem e_122_828 {d : Nat} {h : mM} {L : mLs} {st : List Value} {a : Nat} {x0 : Int32} (hc : mCat st ≤ 8) : ev (d + 1) 122 828 L (.int x0 :: .ref a :: st) h = if mK h a = 10 then cV (ev d 100 0 [some (.ref a), some (.int x0)] [] h) (fun v h1 => ev (d + 1) 122 831 L (v ++ st) h1) else none := ev_cv (mj := 100) (as := [.int x0]) (rest := st) d_122_828 (by decide +kernel) rfl rfl (by show _ ≤ List.length _; simp only [List.length_cons]; have : na 100 = 1 := rfl; omega) rfl (Nat.le_of_ble_eq_true rfl) hc
theorem d_122_831 : decode (cd 122) 831 = .ok (.lcmp, 1) := by rw [cd_122]; decide +kernel
theorem e_122_831 {d : Nat} {h : mM} {L : mLs} {st : List Value} {x y : Int64} : ev d 122 831 L (.long y :: .long x :: st) h = ev d 122 832 L (.int (lg_cmp x y) :: st) h := ev_of d_122_831 rfl
theorem d_122_832 : decode (cd 122) 832 = .ok (.ifCond .eq 250, 3) := by rw [cd_122]; decide +kernel
theorem e_122_832 {d : Nat} {h : mM} {L : mLs} {st : List Value} {x : Int32} : ev d 122 832 L (.int x :: st) h = if x = 0 then ev d 122 1082 L st h else ev d 122 835 L st h := ev_if (x = 0) inferInstance rfl d_122_832 (by decide)
theorem d_122_835 : decode (cd 122) 835 = .ok (.iconst 0, 1) := by rw [cd_122]; decide +kernel
theorem e_122_835 {d : Nat} {h : mM} {L : mLs} {st : List Value} : ev d 122 835 L st h = ev d 122 836 L (.int 0 :: st) h := ev_of d_122_835 rfl
theorem d_122_836 : decode (cd 122) 836 = .ok (.ireturn, 1) := by rw [cd_122]; decide +kernel
theorem e_122_836 {d : Nat} {h : mM} {L : mLs} {v : Int32} : ev d 122 836 L [.int v] h = if mZO v = true then some (some (.int v), h) else none := ev_rz d_122_836 (by decide +kernel)
theorem d_122_837 : decode (cd 122) 837 = .ok (.aload_n 1, 1) := by rw [cd_122]; decide +kernel
theorem e_122_837 {d : Nat} {h : mM} {o0 : Option Value} {T : mLs} {x : Nat} {st : List Value} : ev d 122 837 (o0 :: some (.ref x) :: T) st h = ev d 122 838 (o0 :: some (.ref x) :: T) (.ref x :: st) h := ev_of d_122_837 rfl
theorem d_122_838 : decode (cd 122) 838 = .ok (.aload_n 0, 1) := by rw [cd_122]; decide +kernel
theorem e_122_838 {d : Nat} {h : mM} {T : mLs} {x : Nat} {st : List Value} : ev d 122 838 ( some (.ref x) :: T) st h = ev d 122 839 ( some (.ref x) :: T) (.ref x :: st) h := ev_of d_122_838 rfl
theorem d_122_839 : decode (cd 122) 839 = .ok (.iload_n 3, 1) := by rw [cd_122]; decide +kernel
theorem e_122_839 {d : Nat} {h : mM} {o0 o1 o2 : Option Value} {T : mLs} {x : Int32} {st : List Value} : ev d 122 839 (o0 :: o1 :: o2 :: some (.int x) :: T) st h = ev d 122 840 (o0 :: o1 :: o2 :: some (.int x) :: T) (.int x :: st) h := ev_of d_122_839 rfl
theorem d_122_840 : decode (cd 122) 840 = .ok (.iconst 1, 1) := by rw [cd_122]; decide +kernel
theorem e_122_840 {d : Nat} {h : mM} {L : mLs} {st : List Value} : ev d 122 840 L st h = ev d 122 841 L (.int 1 :: st) h := ev_of d_122_840 rfl
theorem d_122_841 : decode (cd 122) 841 = .ok (.iadd, 1) := by rw [cd_122]; decide +kernel
theorem e_122_841 {d : Nat} {h : mM} {L : mLs} {st : List Value} {x y : Int32} : ev d 122 841 L (.int y :: .int x :: st) h = ev d 122 842 L (.int (x + y) :: st) h := ev_of d_122_841 rfl
theorem d_122_842 : decode (cd 122) 842 = .ok (.iaload, 1) := by rw [cd_122]; decide +kernel
theorem e_122_842 {d : Nat} {h : mM} {L : mLs} {st : List Value} {a : Nat} {i : Int32} : ev d 122 842 L (.int i :: .ref a :: st) h = if (mK h a = 11 ∨ mK h a = 19) ∧ ixOK i (mL h a) = true then ev d 122 843 L (.int (mI h a i.toNatClampNeg) :: st) h else none := ev_ia d_122_842
theorem d_122_843 : decode (cd 122) 843 = .ok (.invokevirtual 108, 3) := by rw [cd_122]; decide +kernel
theorem e_122_843 {d : Nat} {h : mM} {L : mLs} {st : List Value} {a : Nat} {x0 : Int32} (hc : mCat st ≤ 8) : ev (d + 1) 122 843 L (.int x0 :: .ref a :: st) h = if mK h a = 9 then cV (ev d 55 0 [some (.ref a), some (.int x0), none, none] [] h) (fun v h1 => ev (d + 1) 122 846 L (v ++ st) h1) else none := ev_cv (mj := 55) (as := [.int x0]) (rest := st) d_122_843 (by decide +kernel) rfl rfl (by show _ ≤ List.length _; simp only [List.length_cons]; have : na 55 = 1 := rfl; omega) rfl (Nat.le_of_ble_eq_true rfl) hc
theorem d_122_846 : decode (cd 122) 846 = .ok (.i2l, 1) := by rw [cd_122]; decide +kernel
theorem e_122_846 {d : Nat} {h : mM} {L : mLs} {st : List Value} {x : Int32} : ev d 122 846 L (.int x :: st) h = ev d 122 847 L (.long x.toInt64 :: st) h := ev_of d_122_846 rfl
theorem d_122_847 : decode (cd 122) 847 = .ok (.aload_n 2, 1) := by rw [cd_122]; decide +kernel
theorem e_122_847 {d : Nat} {h : mM} {o0 o1 : Option Value} {T : mLs} {x : Nat} {st : List Value} : ev d 122 847 (o0 :: o1 :: some (.ref x) :: T) st h = ev d 122 848 (o0 :: o1 :: some (.ref x) :: T) (.ref x :: st) h := ev_of d_122_847 rfl
theorem d_122_848 : decode (cd 122) 848 = .ok (.aload_n 0, 1) := by rw [cd_122]; decide +kernel
theorem e_122_848 {d : Nat} {h : mM} {T : mLs} {x : Nat} {st : List Value} : ev d 122 848 ( some (.ref x) :: T) st h = ev d 122 849 ( some (.ref x) :: T) (.ref x :: st) h := ev_of d_122_848 rfl
theorem d_122_849 : decode (cd 122) 849 = .ok (.iload_n 3, 1) := by rw [cd_122]; decide +kernel
theorem e_122_849 {d : Nat} {h : mM} {o0 o1 o2 : Option Value} {T : mLs} {x : Int32} {st : List Value} : ev d 122 849 (o0 :: o1 :: o2 :: some (.int x) :: T) st h = ev d 122 850 (o0 :: o1 :: o2 :: some (.int x) :: T) (.int x :: st) h := ev_of d_122_849 rfl
theorem d_122_850 : decode (cd 122) 850 = .ok (.iconst 1, 1) := by rw [cd_122]; decide +kernel
theorem e_122_850 {d : Nat} {h : mM} {L : mLs} {st : List Value} : ev d 122 850 L st h = ev d 122 851 L (.int 1 :: st) h := ev_of d_122_850 rfl
theorem d_122_851 : decode (cd 122) 851 = .ok (.iadd, 1) := by rw [cd_122]; decide +kernel
theorem e_122_851 {d : Nat} {h : mM} {L : mLs} {st : List Value} {x y : Int32} : ev d 122 851 L (.int y :: .int x :: st) h = ev d 122 852 L (.int (x + y) :: st) h := ev_of d_122_851 rfl
theorem d_122_852 : decode (cd 122) 852 = .ok (.iaload, 1) := by rw [cd_122]; decide +kernel
theorem e_122_852 {d : Nat} {h : mM} {L : mLs} {st : List Value} {a : Nat} {i : Int32} : ev d 122 852 L (.int i :: .ref a :: st) h = if (mK h a = 11 ∨ mK h a = 19) ∧ ixOK i (mL h a) = true then ev d 122 853 L (.int (mI h a i.toNatClampNeg) :: st) h else none := ev_ia d_122_852
theorem d_122_853 : decode (cd 122) 853 = .ok (.invokevirtual 111, 3) := by rw [cd_122]; decide +kernel
theorem e_122_853 {d : Nat} {h : mM} {L : mLs} {st : List Value} {a : Nat} {x0 : Int32} (hc : mCat st ≤ 8) : ev (d + 1) 122 853 L (.int x0 :: .ref a :: st) h = if mK h a = 10 then cV (ev d 112 0 [some (.ref a), some (.int x0), none, none, none, none] [] h) (fun v h1 => ev (d + 1) 122 856 L (v ++ st) h1) else none := ev_cv (mj := 112) (as := [.int x0]) (rest := st) d_122_853 (by decide +kernel) rfl rfl (by show _ ≤ List.length _; simp only [List.length_cons]; have : na 112 = 1 := rfl; omega) rfl (Nat.le_of_ble_eq_true rfl) hc
theorem d_122_856 : decode (cd 122) 856 = .ok (.lcmp, 1) := by rw [cd_122]; decide +kernel
theorem e_122_856 {d : Nat} {h : mM} {L : mLs} {st : List Value} {x y : Int64} : ev d 122 856 L (.long y :: .long x :: st) h = ev d 122 857 L (.int (lg_cmp x y) :: st) h := ev_of d_122_856 rfl
theorem d_122_857 : decode (cd 122) 857 = .ok (.ifCond .eq 225, 3) := by rw [cd_122]; decide +kernel
theorem e_122_857 {d : Nat} {h : mM} {L : mLs} {st : List Value} {x : Int32} : ev d 122 857 L (.int x :: st) h = if x = 0 then ev d 122 1082 L st h else ev d 122 860 L st h := ev_if (x = 0) inferInstance rfl d_122_857 (by decide)
theorem d_122_860 : decode (cd 122) 860 = .ok (.iconst 0, 1) := by rw [cd_122]; decide +kernel
theorem e_122_860 {d : Nat} {h : mM} {L : mLs} {st : List Value} : ev d 122 860 L st h = ev d 122 861 L (.int 0 :: st) h := ev_of d_122_860 rfl
theorem d_122_861 : decode (cd 122) 861 = .ok (.ireturn, 1) := by rw [cd_122]; decide +kernel
theorem e_122_861 {d : Nat} {h : mM} {L : mLs} {v : Int32} : ev d 122 861 L [.int v] h = if mZO v = true then some (some (.int v), h) else none := ev_rz d_122_861 (by decide +kernel)
theorem d_122_862 : decode (cd 122) 862 = .ok (.aload_n 1, 1) := by rw [cd_122]; decide +kernel
theorem e_122_862 {d : Nat} {h : mM} {o0 : Option Value} {T : mLs} {x : Nat} {st : List Value} : ev d 122 862 (o0 :: some (.ref x) :: T) st h = ev d 122 863 (o0 :: some (.ref x) :: T) (.ref x :: st) h := ev_of d_122_862 rfl
theorem d_122_863 : decode (cd 122) 863 = .ok (.invokevirtual 113, 3) := by rw [cd_122]; decide +kernel
theorem e_122_863 {d : Nat} {h : mM} {L : mLs} {st : List Value} {a : Nat} (hc : mCat st ≤ 8) : ev (d + 1) 122 863 L (.ref a :: st) h = if mK h a = 9 then cV (ev d 56 0 [some (.ref a), none, none] [] h) (fun v h1 => ev (d + 1) 122 866 L (v ++ st) h1) else none := ev_cv (mj := 56) (as := []) (rest := st) d_122_863 (by decide +kernel) rfl rfl (by show _ ≤ List.length _; simp only [List.length_cons]; have : na 56 = 0 := rfl; omega) rfl (Nat.le_of_ble_eq_true rfl) hc
theorem d_122_866 : decode (cd 122) 866 = .ok (.i2l, 1) := by rw [cd_122]; decide +kernel
theorem e_122_866 {d : Nat} {h : mM} {L : mLs} {st : List Value} {x : Int32} : ev d 122 866 L (.int x :: st) h = ev d 122 867 L (.long x.toInt64 :: st) h := ev_of d_122_866 rfl
theorem d_122_867 : decode (cd 122) 867 = .ok (.aload_n 2, 1) := by rw [cd_122]; decide +kernel
theorem e_122_867 {d : Nat} {h : mM} {o0 o1 : Option Value} {T : mLs} {x : Nat} {st : List Value} : ev d 122 867 (o0 :: o1 :: some (.ref x) :: T) st h = ev d 122 868 (o0 :: o1 :: some (.ref x) :: T) (.ref x :: st) h := ev_of d_122_867 rfl
theorem d_122_868 : decode (cd 122) 868 = .ok (.invokevirtual 117, 3) := by rw [cd_122]; decide +kernel
theorem e_122_868 {d : Nat} {h : mM} {L : mLs} {st : List Value} {a : Nat} (hc : mCat st ≤ 8) : ev (d + 1) 122 868 L (.ref a :: st) h = if mK h a = 10 then cV (ev d 113 0 [some (.ref a)] [] h) (fun v h1 => ev (d + 1) 122 871 L (v ++ st) h1) else none := ev_cv (mj := 113) (as := []) (rest := st) d_122_868 (by decide +kernel) rfl rfl (by show _ ≤ List.length _; simp only [List.length_cons]; have : na 113 = 0 := rfl; omega) rfl (Nat.le_of_ble_eq_true rfl) hc
theorem d_122_871 : decode (cd 122) 871 = .ok (.lcmp, 1) := by rw [cd_122]; decide +kernel
theorem e_122_871 {d : Nat} {h : mM} {L : mLs} {st : List Value} {x y : Int64} : ev d 122 871 L (.long y :: .long x :: st) h = ev d 122 872 L (.int (lg_cmp x y) :: st) h := ev_of d_122_871 rfl
theorem d_122_872 : decode (cd 122) 872 = .ok (.ifCond .eq 210, 3) := by rw [cd_122]; decide +kernel
theorem e_122_872 {d : Nat} {h : mM} {L : mLs} {st : List Value} {x : Int32} : ev d 122 872 L (.int x :: st) h = if x = 0 then ev d 122 1082 L st h else ev d 122 875 L st h := ev_if (x = 0) inferInstance rfl d_122_872 (by decide)
theorem d_122_875 : decode (cd 122) 875 = .ok (.iconst 0, 1) := by rw [cd_122]; decide +kernel
theorem e_122_875 {d : Nat} {h : mM} {L : mLs} {st : List Value} : ev d 122 875 L st h = ev d 122 876 L (.int 0 :: st) h := ev_of d_122_875 rfl
theorem d_122_876 : decode (cd 122) 876 = .ok (.ireturn, 1) := by rw [cd_122]; decide +kernel
theorem e_122_876 {d : Nat} {h : mM} {L : mLs} {v : Int32} : ev d 122 876 L [.int v] h = if mZO v = true then some (some (.int v), h) else none := ev_rz d_122_876 (by decide +kernel)
theorem d_122_877 : decode (cd 122) 877 = .ok (.aload_n 1, 1) := by rw [cd_122]; decide +kernel
theorem e_122_877 {d : Nat} {h : mM} {o0 : Option Value} {T : mLs} {x : Nat} {st : List Value} : ev d 122 877 (o0 :: some (.ref x) :: T) st h = ev d 122 878 (o0 :: some (.ref x) :: T) (.ref x :: st) h := ev_of d_122_877 rfl
theorem d_122_878 : decode (cd 122) 878 = .ok (.aload_n 0, 1) := by rw [cd_122]; decide +kernel
theorem e_122_878 {d : Nat} {h : mM} {T : mLs} {x : Nat} {st : List Value} : ev d 122 878 ( some (.ref x) :: T) st h = ev d 122 879 ( some (.ref x) :: T) (.ref x :: st) h := ev_of d_122_878 rfl
theorem d_122_879 : decode (cd 122) 879 = .ok (.iload_n 3, 1) := by rw [cd_122]; decide +kernel
theorem e_122_879 {d : Nat} {h : mM} {o0 o1 o2 : Option Value} {T : mLs} {x : Int32} {st : List Value} : ev d 122 879 (o0 :: o1 :: o2 :: some (.int x) :: T) st h = ev d 122 880 (o0 :: o1 :: o2 :: some (.int x) :: T) (.int x :: st) h := ev_of d_122_879 rfl
theorem d_122_880 : decode (cd 122) 880 = .ok (.iconst 1, 1) := by rw [cd_122]; decide +kernel
theorem e_122_880 {d : Nat} {h : mM} {L : mLs} {st : List Value} : ev d 122 880 L st h = ev d 122 881 L (.int 1 :: st) h := ev_of d_122_880 rfl
theorem d_122_881 : decode (cd 122) 881 = .ok (.iadd, 1) := by rw [cd_122]; decide +kernel
theorem e_122_881 {d : Nat} {h : mM} {L : mLs} {st : List Value} {x y : Int32} : ev d 122 881 L (.int y :: .int x :: st) h = ev d 122 882 L (.int (x + y) :: st) h := ev_of d_122_881 rfl
theorem d_122_882 : decode (cd 122) 882 = .ok (.iaload, 1) := by rw [cd_122]; decide +kernel
theorem e_122_882 {d : Nat} {h : mM} {L : mLs} {st : List Value} {a : Nat} {i : Int32} : ev d 122 882 L (.int i :: .ref a :: st) h = if (mK h a = 11 ∨ mK h a = 19) ∧ ixOK i (mL h a) = true then ev d 122 883 L (.int (mI h a i.toNatClampNeg) :: st) h else none := ev_ia d_122_882
theorem d_122_883 : decode (cd 122) 883 = .ok (.aload_n 0, 1) := by rw [cd_122]; decide +kernel
theorem e_122_883 {d : Nat} {h : mM} {T : mLs} {x : Nat} {st : List Value} : ev d 122 883 ( some (.ref x) :: T) st h = ev d 122 884 ( some (.ref x) :: T) (.ref x :: st) h := ev_of d_122_883 rfl
theorem d_122_884 : decode (cd 122) 884 = .ok (.iload_n 3, 1) := by rw [cd_122]; decide +kernel
theorem e_122_884 {d : Nat} {h : mM} {o0 o1 o2 : Option Value} {T : mLs} {x : Int32} {st : List Value} : ev d 122 884 (o0 :: o1 :: o2 :: some (.int x) :: T) st h = ev d 122 885 (o0 :: o1 :: o2 :: some (.int x) :: T) (.int x :: st) h := ev_of d_122_884 rfl
theorem d_122_885 : decode (cd 122) 885 = .ok (.iconst 2, 1) := by rw [cd_122]; decide +kernel
theorem e_122_885 {d : Nat} {h : mM} {L : mLs} {st : List Value} : ev d 122 885 L st h = ev d 122 886 L (.int 2 :: st) h := ev_of d_122_885 rfl
theorem d_122_886 : decode (cd 122) 886 = .ok (.iadd, 1) := by rw [cd_122]; decide +kernel
theorem e_122_886 {d : Nat} {h : mM} {L : mLs} {st : List Value} {x y : Int32} : ev d 122 886 L (.int y :: .int x :: st) h = ev d 122 887 L (.int (x + y) :: st) h := ev_of d_122_886 rfl
theorem d_122_887 : decode (cd 122) 887 = .ok (.iaload, 1) := by rw [cd_122]; decide +kernel
theorem e_122_887 {d : Nat} {h : mM} {L : mLs} {st : List Value} {a : Nat} {i : Int32} : ev d 122 887 L (.int i :: .ref a :: st) h = if (mK h a = 11 ∨ mK h a = 19) ∧ ixOK i (mL h a) = true then ev d 122 888 L (.int (mI h a i.toNatClampNeg) :: st) h else none := ev_ia d_122_887
theorem d_122_888 : decode (cd 122) 888 = .ok (.aload_n 0, 1) := by rw [cd_122]; decide +kernel
theorem e_122_888 {d : Nat} {h : mM} {T : mLs} {x : Nat} {st : List Value} : ev d 122 888 ( some (.ref x) :: T) st h = ev d 122 889 ( some (.ref x) :: T) (.ref x :: st) h := ev_of d_122_888 rfl
theorem d_122_889 : decode (cd 122) 889 = .ok (.iload_n 3, 1) := by rw [cd_122]; decide +kernel
theorem e_122_889 {d : Nat} {h : mM} {o0 o1 o2 : Option Value} {T : mLs} {x : Int32} {st : List Value} : ev d 122 889 (o0 :: o1 :: o2 :: some (.int x) :: T) st h = ev d 122 890 (o0 :: o1 :: o2 :: some (.int x) :: T) (.int x :: st) h := ev_of d_122_889 rfl
theorem d_122_890 : decode (cd 122) 890 = .ok (.iconst 3, 1) := by rw [cd_122]; decide +kernel
theorem e_122_890 {d : Nat} {h : mM} {L : mLs} {st : List Value} : ev d 122 890 L st h = ev d 122 891 L (.int 3 :: st) h := ev_of d_122_890 rfl
theorem d_122_891 : decode (cd 122) 891 = .ok (.iadd, 1) := by rw [cd_122]; decide +kernel
theorem e_122_891 {d : Nat} {h : mM} {L : mLs} {st : List Value} {x y : Int32} : ev d 122 891 L (.int y :: .int x :: st) h = ev d 122 892 L (.int (x + y) :: st) h := ev_of d_122_891 rfl
theorem d_122_892 : decode (cd 122) 892 = .ok (.iaload, 1) := by rw [cd_122]; decide +kernel
theorem e_122_892 {d : Nat} {h : mM} {L : mLs} {st : List Value} {a : Nat} {i : Int32} : ev d 122 892 L (.int i :: .ref a :: st) h = if (mK h a = 11 ∨ mK h a = 19) ∧ ixOK i (mL h a) = true then ev d 122 893 L (.int (mI h a i.toNatClampNeg) :: st) h else none := ev_ia d_122_892
theorem d_122_893 : decode (cd 122) 893 = .ok (.invokevirtual 120, 3) := by rw [cd_122]; decide +kernel
theorem e_122_893 {d : Nat} {h : mM} {L : mLs} {st : List Value} {a : Nat} {x0 : Int32} {x1 : Int32} {x2 : Int32} (hc : mCat st ≤ 8) : ev (d + 1) 122 893 L (.int x2 :: .int x1 :: .int x0 :: .ref a :: st) h = if mK h a = 9 then cV (ev d 57 0 [some (.ref a), some (.int x0), some (.int x1), some (.int x2)] [] h) (fun v h1 => ev (d + 1) 122 896 L (v ++ st) h1) else none := ev_cv (mj := 57) (as := [.int x0, .int x1, .int x2]) (rest := st) d_122_893 (by decide +kernel) rfl rfl (by show _ ≤ List.length _; simp only [List.length_cons]; have : na 57 = 3 := rfl; omega) rfl (Nat.le_of_ble_eq_true rfl) hc
theorem d_122_896 : decode (cd 122) 896 = .ok (.i2l, 1) := by rw [cd_122]; decide +kernel
theorem e_122_896 {d : Nat} {h : mM} {L : mLs} {st : List Value} {x : Int32} : ev d 122 896 L (.int x :: st) h = ev d 122 897 L (.long x.toInt64 :: st) h := ev_of d_122_896 rfl
theorem d_122_897 : decode (cd 122) 897 = .ok (.aload_n 2, 1) := by rw [cd_122]; decide +kernel
theorem e_122_897 {d : Nat} {h : mM} {o0 o1 : Option Value} {T : mLs} {x : Nat} {st : List Value} : ev d 122 897 (o0 :: o1 :: some (.ref x) :: T) st h = ev d 122 898 (o0 :: o1 :: some (.ref x) :: T) (.ref x :: st) h := ev_of d_122_897 rfl
theorem d_122_898 : decode (cd 122) 898 = .ok (.aload_n 0, 1) := by rw [cd_122]; decide +kernel
theorem e_122_898 {d : Nat} {h : mM} {T : mLs} {x : Nat} {st : List Value} : ev d 122 898 ( some (.ref x) :: T) st h = ev d 122 899 ( some (.ref x) :: T) (.ref x :: st) h := ev_of d_122_898 rfl
theorem d_122_899 : decode (cd 122) 899 = .ok (.iload_n 3, 1) := by rw [cd_122]; decide +kernel
theorem e_122_899 {d : Nat} {h : mM} {o0 o1 o2 : Option Value} {T : mLs} {x : Int32} {st : List Value} : ev d 122 899 (o0 :: o1 :: o2 :: some (.int x) :: T) st h = ev d 122 900 (o0 :: o1 :: o2 :: some (.int x) :: T) (.int x :: st) h := ev_of d_122_899 rfl
theorem d_122_900 : decode (cd 122) 900 = .ok (.iconst 1, 1) := by rw [cd_122]; decide +kernel
theorem e_122_900 {d : Nat} {h : mM} {L : mLs} {st : List Value} : ev d 122 900 L st h = ev d 122 901 L (.int 1 :: st) h := ev_of d_122_900 rfl
theorem d_122_901 : decode (cd 122) 901 = .ok (.iadd, 1) := by rw [cd_122]; decide +kernel
theorem e_122_901 {d : Nat} {h : mM} {L : mLs} {st : List Value} {x y : Int32} : ev d 122 901 L (.int y :: .int x :: st) h = ev d 122 902 L (.int (x + y) :: st) h := ev_of d_122_901 rfl
theorem d_122_902 : decode (cd 122) 902 = .ok (.iaload, 1) := by rw [cd_122]; decide +kernel
theorem e_122_902 {d : Nat} {h : mM} {L : mLs} {st : List Value} {a : Nat} {i : Int32} : ev d 122 902 L (.int i :: .ref a :: st) h = if (mK h a = 11 ∨ mK h a = 19) ∧ ixOK i (mL h a) = true then ev d 122 903 L (.int (mI h a i.toNatClampNeg) :: st) h else none := ev_ia d_122_902
theorem d_122_903 : decode (cd 122) 903 = .ok (.aload_n 0, 1) := by rw [cd_122]; decide +kernel
theorem e_122_903 {d : Nat} {h : mM} {T : mLs} {x : Nat} {st : List Value} : ev d 122 903 ( some (.ref x) :: T) st h = ev d 122 904 ( some (.ref x) :: T) (.ref x :: st) h := ev_of d_122_903 rfl
theorem d_122_904 : decode (cd 122) 904 = .ok (.iload_n 3, 1) := by rw [cd_122]; decide +kernel
theorem e_122_904 {d : Nat} {h : mM} {o0 o1 o2 : Option Value} {T : mLs} {x : Int32} {st : List Value} : ev d 122 904 (o0 :: o1 :: o2 :: some (.int x) :: T) st h = ev d 122 905 (o0 :: o1 :: o2 :: some (.int x) :: T) (.int x :: st) h := ev_of d_122_904 rfl
theorem d_122_905 : decode (cd 122) 905 = .ok (.iconst 2, 1) := by rw [cd_122]; decide +kernel
theorem e_122_905 {d : Nat} {h : mM} {L : mLs} {st : List Value} : ev d 122 905 L st h = ev d 122 906 L (.int 2 :: st) h := ev_of d_122_905 rfl
theorem d_122_906 : decode (cd 122) 906 = .ok (.iadd, 1) := by rw [cd_122]; decide +kernel
theorem e_122_906 {d : Nat} {h : mM} {L : mLs} {st : List Value} {x y : Int32} : ev d 122 906 L (.int y :: .int x :: st) h = ev d 122 907 L (.int (x + y) :: st) h := ev_of d_122_906 rfl
theorem d_122_907 : decode (cd 122) 907 = .ok (.iaload, 1) := by rw [cd_122]; decide +kernel
theorem e_122_907 {d : Nat} {h : mM} {L : mLs} {st : List Value} {a : Nat} {i : Int32} : ev d 122 907 L (.int i :: .ref a :: st) h = if (mK h a = 11 ∨ mK h a = 19) ∧ ixOK i (mL h a) = true then ev d 122 908 L (.int (mI h a i.toNatClampNeg) :: st) h else none := ev_ia d_122_907
theorem d_122_908 : decode (cd 122) 908 = .ok (.aload_n 0, 1) := by rw [cd_122]; decide +kernel
theorem e_122_908 {d : Nat} {h : mM} {T : mLs} {x : Nat} {st : List Value} : ev d 122 908 ( some (.ref x) :: T) st h = ev d 122 909 ( some (.ref x) :: T) (.ref x :: st) h := ev_of d_122_908 rfl
theorem d_122_909 : decode (cd 122) 909 = .ok (.iload_n 3, 1) := by rw [cd_122]; decide +kernel
theorem e_122_909 {d : Nat} {h : mM} {o0 o1 o2 : Option Value} {T : mLs} {x : Int32} {st : List Value} : ev d 122 909 (o0 :: o1 :: o2 :: some (.int x) :: T) st h = ev d 122 910 (o0 :: o1 :: o2 :: some (.int x) :: T) (.int x :: st) h := ev_of d_122_909 rfl
theorem d_122_910 : decode (cd 122) 910 = .ok (.iconst 3, 1) := by rw [cd_122]; decide +kernel
theorem e_122_910 {d : Nat} {h : mM} {L : mLs} {st : List Value} : ev d 122 910 L st h = ev d 122 911 L (.int 3 :: st) h := ev_of d_122_910 rfl
theorem d_122_911 : decode (cd 122) 911 = .ok (.iadd, 1) := by rw [cd_122]; decide +kernel
theorem e_122_911 {d : Nat} {h : mM} {L : mLs} {st : List Value} {x y : Int32} : ev d 122 911 L (.int y :: .int x :: st) h = ev d 122 912 L (.int (x + y) :: st) h := ev_of d_122_911 rfl
theorem d_122_912 : decode (cd 122) 912 = .ok (.iaload, 1) := by rw [cd_122]; decide +kernel
theorem e_122_912 {d : Nat} {h : mM} {L : mLs} {st : List Value} {a : Nat} {i : Int32} : ev d 122 912 L (.int i :: .ref a :: st) h = if (mK h a = 11 ∨ mK h a = 19) ∧ ixOK i (mL h a) = true then ev d 122 913 L (.int (mI h a i.toNatClampNeg) :: st) h else none := ev_ia d_122_912
theorem d_122_913 : decode (cd 122) 913 = .ok (.invokevirtual 123, 3) := by rw [cd_122]; decide +kernel
theorem e_122_913 {d : Nat} {h : mM} {L : mLs} {st : List Value} {a : Nat} {x0 : Int32} {x1 : Int32} {x2 : Int32} (hc : mCat st ≤ 8) : ev (d + 1) 122 913 L (.int x2 :: .int x1 :: .int x0 :: .ref a :: st) h = if mK h a = 10 then cV (ev d 114 0 [some (.ref a), some (.int x0), some (.int x1), some (.int x2), none, none, none, none, none, none, none, none, none, none] [] h) (fun v h1 => ev (d + 1) 122 916 L (v ++ st) h1) else none := ev_cv (mj := 114) (as := [.int x0, .int x1, .int x2]) (rest := st) d_122_913 (by decide +kernel) rfl rfl (by show _ ≤ List.length _; simp only [List.length_cons]; have : na 114 = 3 := rfl; omega) rfl (Nat.le_of_ble_eq_true rfl) hc
theorem d_122_916 : decode (cd 122) 916 = .ok (.lcmp, 1) := by rw [cd_122]; decide +kernel
theorem e_122_916 {d : Nat} {h : mM} {L : mLs} {st : List Value} {x y : Int64} : ev d 122 916 L (.long y :: .long x :: st) h = ev d 122 917 L (.int (lg_cmp x y) :: st) h := ev_of d_122_916 rfl
theorem d_122_917 : decode (cd 122) 917 = .ok (.ifCond .eq 165, 3) := by rw [cd_122]; decide +kernel
theorem e_122_917 {d : Nat} {h : mM} {L : mLs} {st : List Value} {x : Int32} : ev d 122 917 L (.int x :: st) h = if x = 0 then ev d 122 1082 L st h else ev d 122 920 L st h := ev_if (x = 0) inferInstance rfl d_122_917 (by decide)
theorem d_122_920 : decode (cd 122) 920 = .ok (.iconst 0, 1) := by rw [cd_122]; decide +kernel
theorem e_122_920 {d : Nat} {h : mM} {L : mLs} {st : List Value} : ev d 122 920 L st h = ev d 122 921 L (.int 0 :: st) h := ev_of d_122_920 rfl
theorem d_122_921 : decode (cd 122) 921 = .ok (.ireturn, 1) := by rw [cd_122]; decide +kernel
theorem e_122_921 {d : Nat} {h : mM} {L : mLs} {v : Int32} : ev d 122 921 L [.int v] h = if mZO v = true then some (some (.int v), h) else none := ev_rz d_122_921 (by decide +kernel)
theorem d_122_922 : decode (cd 122) 922 = .ok (.aload_n 1, 1) := by rw [cd_122]; decide +kernel
theorem e_122_922 {d : Nat} {h : mM} {o0 : Option Value} {T : mLs} {x : Nat} {st : List Value} : ev d 122 922 (o0 :: some (.ref x) :: T) st h = ev d 122 923 (o0 :: some (.ref x) :: T) (.ref x :: st) h := ev_of d_122_922 rfl
theorem d_122_923 : decode (cd 122) 923 = .ok (.aload_n 0, 1) := by rw [cd_122]; decide +kernel
theorem e_122_923 {d : Nat} {h : mM} {T : mLs} {x : Nat} {st : List Value} : ev d 122 923 ( some (.ref x) :: T) st h = ev d 122 924 ( some (.ref x) :: T) (.ref x :: st) h := ev_of d_122_923 rfl
theorem d_122_924 : decode (cd 122) 924 = .ok (.iload_n 3, 1) := by rw [cd_122]; decide +kernel
theorem e_122_924 {d : Nat} {h : mM} {o0 o1 o2 : Option Value} {T : mLs} {x : Int32} {st : List Value} : ev d 122 924 (o0 :: o1 :: o2 :: some (.int x) :: T) st h = ev d 122 925 (o0 :: o1 :: o2 :: some (.int x) :: T) (.int x :: st) h := ev_of d_122_924 rfl
theorem d_122_925 : decode (cd 122) 925 = .ok (.iconst 1, 1) := by rw [cd_122]; decide +kernel
theorem e_122_925 {d : Nat} {h : mM} {L : mLs} {st : List Value} : ev d 122 925 L st h = ev d 122 926 L (.int 1 :: st) h := ev_of d_122_925 rfl
theorem d_122_926 : decode (cd 122) 926 = .ok (.iadd, 1) := by rw [cd_122]; decide +kernel
theorem e_122_926 {d : Nat} {h : mM} {L : mLs} {st : List Value} {x y : Int32} : ev d 122 926 L (.int y :: .int x :: st) h = ev d 122 927 L (.int (x + y) :: st) h := ev_of d_122_926 rfl
theorem d_122_927 : decode (cd 122) 927 = .ok (.iaload, 1) := by rw [cd_122]; decide +kernel
theorem e_122_927 {d : Nat} {h : mM} {L : mLs} {st : List Value} {a : Nat} {i : Int32} : ev d 122 927 L (.int i :: .ref a :: st) h = if (mK h a = 11 ∨ mK h a = 19) ∧ ixOK i (mL h a) = true then ev d 122 928 L (.int (mI h a i.toNatClampNeg) :: st) h else none := ev_ia d_122_927
theorem d_122_928 : decode (cd 122) 928 = .ok (.aload_n 0, 1) := by rw [cd_122]; decide +kernel
theorem e_122_928 {d : Nat} {h : mM} {T : mLs} {x : Nat} {st : List Value} : ev d 122 928 ( some (.ref x) :: T) st h = ev d 122 929 ( some (.ref x) :: T) (.ref x :: st) h := ev_of d_122_928 rfl
theorem d_122_929 : decode (cd 122) 929 = .ok (.iload_n 3, 1) := by rw [cd_122]; decide +kernel
theorem e_122_929 {d : Nat} {h : mM} {o0 o1 o2 : Option Value} {T : mLs} {x : Int32} {st : List Value} : ev d 122 929 (o0 :: o1 :: o2 :: some (.int x) :: T) st h = ev d 122 930 (o0 :: o1 :: o2 :: some (.int x) :: T) (.int x :: st) h := ev_of d_122_929 rfl
theorem d_122_930 : decode (cd 122) 930 = .ok (.iconst 2, 1) := by rw [cd_122]; decide +kernel
theorem e_122_930 {d : Nat} {h : mM} {L : mLs} {st : List Value} : ev d 122 930 L st h = ev d 122 931 L (.int 2 :: st) h := ev_of d_122_930 rfl
theorem d_122_931 : decode (cd 122) 931 = .ok (.iadd, 1) := by rw [cd_122]; decide +kernel
theorem e_122_931 {d : Nat} {h : mM} {L : mLs} {st : List Value} {x y : Int32} : ev d 122 931 L (.int y :: .int x :: st) h = ev d 122 932 L (.int (x + y) :: st) h := ev_of d_122_931 rfl
theorem d_122_932 : decode (cd 122) 932 = .ok (.iaload, 1) := by rw [cd_122]; decide +kernel
theorem e_122_932 {d : Nat} {h : mM} {L : mLs} {st : List Value} {a : Nat} {i : Int32} : ev d 122 932 L (.int i :: .ref a :: st) h = if (mK h a = 11 ∨ mK h a = 19) ∧ ixOK i (mL h a) = true then ev d 122 933 L (.int (mI h a i.toNatClampNeg) :: st) h else none := ev_ia d_122_932
theorem d_122_933 : decode (cd 122) 933 = .ok (.invokevirtual 125, 3) := by rw [cd_122]; decide +kernel
theorem e_122_933 {d : Nat} {h : mM} {L : mLs} {st : List Value} {a : Nat} {x0 : Int32} {x1 : Int32} (hc : mCat st ≤ 8) : ev (d + 1) 122 933 L (.int x1 :: .int x0 :: .ref a :: st) h = if mK h a = 9 then cV (ev d 58 0 [some (.ref a), some (.int x0), some (.int x1), none] [] h) (fun v h1 => ev (d + 1) 122 936 L (v ++ st) h1) else none := ev_cv (mj := 58) (as := [.int x0, .int x1]) (rest := st) d_122_933 (by decide +kernel) rfl rfl (by show _ ≤ List.length _; simp only [List.length_cons]; have : na 58 = 2 := rfl; omega) rfl (Nat.le_of_ble_eq_true rfl) hc
theorem d_122_936 : decode (cd 122) 936 = .ok (.i2l, 1) := by rw [cd_122]; decide +kernel
theorem e_122_936 {d : Nat} {h : mM} {L : mLs} {st : List Value} {x : Int32} : ev d 122 936 L (.int x :: st) h = ev d 122 937 L (.long x.toInt64 :: st) h := ev_of d_122_936 rfl
theorem d_122_937 : decode (cd 122) 937 = .ok (.aload_n 2, 1) := by rw [cd_122]; decide +kernel
theorem e_122_937 {d : Nat} {h : mM} {o0 o1 : Option Value} {T : mLs} {x : Nat} {st : List Value} : ev d 122 937 (o0 :: o1 :: some (.ref x) :: T) st h = ev d 122 938 (o0 :: o1 :: some (.ref x) :: T) (.ref x :: st) h := ev_of d_122_937 rfl
theorem d_122_938 : decode (cd 122) 938 = .ok (.aload_n 0, 1) := by rw [cd_122]; decide +kernel
theorem e_122_938 {d : Nat} {h : mM} {T : mLs} {x : Nat} {st : List Value} : ev d 122 938 ( some (.ref x) :: T) st h = ev d 122 939 ( some (.ref x) :: T) (.ref x :: st) h := ev_of d_122_938 rfl
theorem d_122_939 : decode (cd 122) 939 = .ok (.iload_n 3, 1) := by rw [cd_122]; decide +kernel
theorem e_122_939 {d : Nat} {h : mM} {o0 o1 o2 : Option Value} {T : mLs} {x : Int32} {st : List Value} : ev d 122 939 (o0 :: o1 :: o2 :: some (.int x) :: T) st h = ev d 122 940 (o0 :: o1 :: o2 :: some (.int x) :: T) (.int x :: st) h := ev_of d_122_939 rfl
theorem d_122_940 : decode (cd 122) 940 = .ok (.iconst 1, 1) := by rw [cd_122]; decide +kernel
theorem e_122_940 {d : Nat} {h : mM} {L : mLs} {st : List Value} : ev d 122 940 L st h = ev d 122 941 L (.int 1 :: st) h := ev_of d_122_940 rfl
theorem d_122_941 : decode (cd 122) 941 = .ok (.iadd, 1) := by rw [cd_122]; decide +kernel
theorem e_122_941 {d : Nat} {h : mM} {L : mLs} {st : List Value} {x y : Int32} : ev d 122 941 L (.int y :: .int x :: st) h = ev d 122 942 L (.int (x + y) :: st) h := ev_of d_122_941 rfl
theorem d_122_942 : decode (cd 122) 942 = .ok (.iaload, 1) := by rw [cd_122]; decide +kernel
theorem e_122_942 {d : Nat} {h : mM} {L : mLs} {st : List Value} {a : Nat} {i : Int32} : ev d 122 942 L (.int i :: .ref a :: st) h = if (mK h a = 11 ∨ mK h a = 19) ∧ ixOK i (mL h a) = true then ev d 122 943 L (.int (mI h a i.toNatClampNeg) :: st) h else none := ev_ia d_122_942
theorem d_122_943 : decode (cd 122) 943 = .ok (.aload_n 0, 1) := by rw [cd_122]; decide +kernel
theorem e_122_943 {d : Nat} {h : mM} {T : mLs} {x : Nat} {st : List Value} : ev d 122 943 ( some (.ref x) :: T) st h = ev d 122 944 ( some (.ref x) :: T) (.ref x :: st) h := ev_of d_122_943 rfl
theorem d_122_944 : decode (cd 122) 944 = .ok (.iload_n 3, 1) := by rw [cd_122]; decide +kernel
theorem e_122_944 {d : Nat} {h : mM} {o0 o1 o2 : Option Value} {T : mLs} {x : Int32} {st : List Value} : ev d 122 944 (o0 :: o1 :: o2 :: some (.int x) :: T) st h = ev d 122 945 (o0 :: o1 :: o2 :: some (.int x) :: T) (.int x :: st) h := ev_of d_122_944 rfl
theorem d_122_945 : decode (cd 122) 945 = .ok (.iconst 2, 1) := by rw [cd_122]; decide +kernel
theorem e_122_945 {d : Nat} {h : mM} {L : mLs} {st : List Value} : ev d 122 945 L st h = ev d 122 946 L (.int 2 :: st) h := ev_of d_122_945 rfl
theorem d_122_946 : decode (cd 122) 946 = .ok (.iadd, 1) := by rw [cd_122]; decide +kernel
theorem e_122_946 {d : Nat} {h : mM} {L : mLs} {st : List Value} {x y : Int32} : ev d 122 946 L (.int y :: .int x :: st) h = ev d 122 947 L (.int (x + y) :: st) h := ev_of d_122_946 rfl
theorem d_122_947 : decode (cd 122) 947 = .ok (.iaload, 1) := by rw [cd_122]; decide +kernel
theorem e_122_947 {d : Nat} {h : mM} {L : mLs} {st : List Value} {a : Nat} {i : Int32} : ev d 122 947 L (.int i :: .ref a :: st) h = if (mK h a = 11 ∨ mK h a = 19) ∧ ixOK i (mL h a) = true then ev d 122 948 L (.int (mI h a i.toNatClampNeg) :: st) h else none := ev_ia d_122_947
theorem d_122_948 : decode (cd 122) 948 = .ok (.invokevirtual 128, 3) := by rw [cd_122]; decide +kernel
theorem e_122_948 {d : Nat} {h : mM} {L : mLs} {st : List Value} {a : Nat} {x0 : Int32} {x1 : Int32} (hc : mCat st ≤ 8) : ev (d + 1) 122 948 L (.int x1 :: .int x0 :: .ref a :: st) h = if mK h a = 10 then cV (ev d 115 0 [some (.ref a), some (.int x0), some (.int x1), none] [] h) (fun v h1 => ev (d + 1) 122 951 L (v ++ st) h1) else none := ev_cv (mj := 115) (as := [.int x0, .int x1]) (rest := st) d_122_948 (by decide +kernel) rfl rfl (by show _ ≤ List.length _; simp only [List.length_cons]; have : na 115 = 2 := rfl; omega) rfl (Nat.le_of_ble_eq_true rfl) hc
theorem d_122_951 : decode (cd 122) 951 = .ok (.lcmp, 1) := by rw [cd_122]; decide +kernel
theorem e_122_951 {d : Nat} {h : mM} {L : mLs} {st : List Value} {x y : Int64} : ev d 122 951 L (.long y :: .long x :: st) h = ev d 122 952 L (.int (lg_cmp x y) :: st) h := ev_of d_122_951 rfl
theorem d_122_952 : decode (cd 122) 952 = .ok (.ifCond .eq 130, 3) := by rw [cd_122]; decide +kernel
theorem e_122_952 {d : Nat} {h : mM} {L : mLs} {st : List Value} {x : Int32} : ev d 122 952 L (.int x :: st) h = if x = 0 then ev d 122 1082 L st h else ev d 122 955 L st h := ev_if (x = 0) inferInstance rfl d_122_952 (by decide)
theorem d_122_955 : decode (cd 122) 955 = .ok (.iconst 0, 1) := by rw [cd_122]; decide +kernel
theorem e_122_955 {d : Nat} {h : mM} {L : mLs} {st : List Value} : ev d 122 955 L st h = ev d 122 956 L (.int 0 :: st) h := ev_of d_122_955 rfl
theorem d_122_956 : decode (cd 122) 956 = .ok (.ireturn, 1) := by rw [cd_122]; decide +kernel
theorem e_122_956 {d : Nat} {h : mM} {L : mLs} {v : Int32} : ev d 122 956 L [.int v] h = if mZO v = true then some (some (.int v), h) else none := ev_rz d_122_956 (by decide +kernel)
theorem d_122_957 : decode (cd 122) 957 = .ok (.aload_n 1, 1) := by rw [cd_122]; decide +kernel
theorem e_122_957 {d : Nat} {h : mM} {o0 : Option Value} {T : mLs} {x : Nat} {st : List Value} : ev d 122 957 (o0 :: some (.ref x) :: T) st h = ev d 122 958 (o0 :: some (.ref x) :: T) (.ref x :: st) h := ev_of d_122_957 rfl
theorem d_122_958 : decode (cd 122) 958 = .ok (.aload_n 0, 1) := by rw [cd_122]; decide +kernel
theorem e_122_958 {d : Nat} {h : mM} {T : mLs} {x : Nat} {st : List Value} : ev d 122 958 ( some (.ref x) :: T) st h = ev d 122 959 ( some (.ref x) :: T) (.ref x :: st) h := ev_of d_122_958 rfl
theorem d_122_959 : decode (cd 122) 959 = .ok (.iload_n 3, 1) := by rw [cd_122]; decide +kernel
theorem e_122_959 {d : Nat} {h : mM} {o0 o1 o2 : Option Value} {T : mLs} {x : Int32} {st : List Value} : ev d 122 959 (o0 :: o1 :: o2 :: some (.int x) :: T) st h = ev d 122 960 (o0 :: o1 :: o2 :: some (.int x) :: T) (.int x :: st) h := ev_of d_122_959 rfl
theorem d_122_960 : decode (cd 122) 960 = .ok (.iconst 1, 1) := by rw [cd_122]; decide +kernel
theorem e_122_960 {d : Nat} {h : mM} {L : mLs} {st : List Value} : ev d 122 960 L st h = ev d 122 961 L (.int 1 :: st) h := ev_of d_122_960 rfl
theorem d_122_961 : decode (cd 122) 961 = .ok (.iadd, 1) := by rw [cd_122]; decide +kernel
theorem e_122_961 {d : Nat} {h : mM} {L : mLs} {st : List Value} {x y : Int32} : ev d 122 961 L (.int y :: .int x :: st) h = ev d 122 962 L (.int (x + y) :: st) h := ev_of d_122_961 rfl
theorem d_122_962 : decode (cd 122) 962 = .ok (.iaload, 1) := by rw [cd_122]; decide +kernel
theorem e_122_962 {d : Nat} {h : mM} {L : mLs} {st : List Value} {a : Nat} {i : Int32} : ev d 122 962 L (.int i :: .ref a :: st) h = if (mK h a = 11 ∨ mK h a = 19) ∧ ixOK i (mL h a) = true then ev d 122 963 L (.int (mI h a i.toNatClampNeg) :: st) h else none := ev_ia d_122_962
theorem d_122_963 : decode (cd 122) 963 = .ok (.invokevirtual 130, 3) := by rw [cd_122]; decide +kernel
theorem e_122_963 {d : Nat} {h : mM} {L : mLs} {st : List Value} {a : Nat} {x0 : Int32} (hc : mCat st ≤ 8) : ev (d + 1) 122 963 L (.int x0 :: .ref a :: st) h = if mK h a = 9 then cV (ev d 59 0 [some (.ref a), some (.int x0)] [] h) (fun v h1 => ev (d + 1) 122 966 L (v ++ st) h1) else none := ev_cv (mj := 59) (as := [.int x0]) (rest := st) d_122_963 (by decide +kernel) rfl rfl (by show _ ≤ List.length _; simp only [List.length_cons]; have : na 59 = 1 := rfl; omega) rfl (Nat.le_of_ble_eq_true rfl) hc
theorem d_122_966 : decode (cd 122) 966 = .ok (.i2l, 1) := by rw [cd_122]; decide +kernel
theorem e_122_966 {d : Nat} {h : mM} {L : mLs} {st : List Value} {x : Int32} : ev d 122 966 L (.int x :: st) h = ev d 122 967 L (.long x.toInt64 :: st) h := ev_of d_122_966 rfl
theorem d_122_967 : decode (cd 122) 967 = .ok (.aload_n 2, 1) := by rw [cd_122]; decide +kernel
theorem e_122_967 {d : Nat} {h : mM} {o0 o1 : Option Value} {T : mLs} {x : Nat} {st : List Value} : ev d 122 967 (o0 :: o1 :: some (.ref x) :: T) st h = ev d 122 968 (o0 :: o1 :: some (.ref x) :: T) (.ref x :: st) h := ev_of d_122_967 rfl
theorem d_122_968 : decode (cd 122) 968 = .ok (.aload_n 0, 1) := by rw [cd_122]; decide +kernel
theorem e_122_968 {d : Nat} {h : mM} {T : mLs} {x : Nat} {st : List Value} : ev d 122 968 ( some (.ref x) :: T) st h = ev d 122 969 ( some (.ref x) :: T) (.ref x :: st) h := ev_of d_122_968 rfl
theorem d_122_969 : decode (cd 122) 969 = .ok (.iload_n 3, 1) := by rw [cd_122]; decide +kernel
theorem e_122_969 {d : Nat} {h : mM} {o0 o1 o2 : Option Value} {T : mLs} {x : Int32} {st : List Value} : ev d 122 969 (o0 :: o1 :: o2 :: some (.int x) :: T) st h = ev d 122 970 (o0 :: o1 :: o2 :: some (.int x) :: T) (.int x :: st) h := ev_of d_122_969 rfl
theorem d_122_970 : decode (cd 122) 970 = .ok (.iconst 1, 1) := by rw [cd_122]; decide +kernel
theorem e_122_970 {d : Nat} {h : mM} {L : mLs} {st : List Value} : ev d 122 970 L st h = ev d 122 971 L (.int 1 :: st) h := ev_of d_122_970 rfl
theorem d_122_971 : decode (cd 122) 971 = .ok (.iadd, 1) := by rw [cd_122]; decide +kernel
theorem e_122_971 {d : Nat} {h : mM} {L : mLs} {st : List Value} {x y : Int32} : ev d 122 971 L (.int y :: .int x :: st) h = ev d 122 972 L (.int (x + y) :: st) h := ev_of d_122_971 rfl
theorem d_122_972 : decode (cd 122) 972 = .ok (.iaload, 1) := by rw [cd_122]; decide +kernel
theorem e_122_972 {d : Nat} {h : mM} {L : mLs} {st : List Value} {a : Nat} {i : Int32} : ev d 122 972 L (.int i :: .ref a :: st) h = if (mK h a = 11 ∨ mK h a = 19) ∧ ixOK i (mL h a) = true then ev d 122 973 L (.int (mI h a i.toNatClampNeg) :: st) h else none := ev_ia d_122_972
theorem d_122_973 : decode (cd 122) 973 = .ok (.invokevirtual 133, 3) := by rw [cd_122]; decide +kernel
theorem e_122_973 {d : Nat} {h : mM} {L : mLs} {st : List Value} {a : Nat} {x0 : Int32} (hc : mCat st ≤ 8) : ev (d + 1) 122 973 L (.int x0 :: .ref a :: st) h = if mK h a = 10 then cV (ev d 116 0 [some (.ref a), some (.int x0), none, none, none] [] h) (fun v h1 => ev (d + 1) 122 976 L (v ++ st) h1) else none := ev_cv (mj := 116) (as := [.int x0]) (rest := st) d_122_973 (by decide +kernel) rfl rfl (by show _ ≤ List.length _; simp only [List.length_cons]; have : na 116 = 1 := rfl; omega) rfl (Nat.le_of_ble_eq_true rfl) hc
theorem d_122_976 : decode (cd 122) 976 = .ok (.lcmp, 1) := by rw [cd_122]; decide +kernel
theorem e_122_976 {d : Nat} {h : mM} {L : mLs} {st : List Value} {x y : Int64} : ev d 122 976 L (.long y :: .long x :: st) h = ev d 122 977 L (.int (lg_cmp x y) :: st) h := ev_of d_122_976 rfl
theorem d_122_977 : decode (cd 122) 977 = .ok (.ifCond .eq 105, 3) := by rw [cd_122]; decide +kernel
theorem e_122_977 {d : Nat} {h : mM} {L : mLs} {st : List Value} {x : Int32} : ev d 122 977 L (.int x :: st) h = if x = 0 then ev d 122 1082 L st h else ev d 122 980 L st h := ev_if (x = 0) inferInstance rfl d_122_977 (by decide)
theorem d_122_980 : decode (cd 122) 980 = .ok (.iconst 0, 1) := by rw [cd_122]; decide +kernel
theorem e_122_980 {d : Nat} {h : mM} {L : mLs} {st : List Value} : ev d 122 980 L st h = ev d 122 981 L (.int 0 :: st) h := ev_of d_122_980 rfl
theorem d_122_981 : decode (cd 122) 981 = .ok (.ireturn, 1) := by rw [cd_122]; decide +kernel
theorem e_122_981 {d : Nat} {h : mM} {L : mLs} {v : Int32} : ev d 122 981 L [.int v] h = if mZO v = true then some (some (.int v), h) else none := ev_rz d_122_981 (by decide +kernel)
theorem d_122_982 : decode (cd 122) 982 = .ok (.aload_n 1, 1) := by rw [cd_122]; decide +kernel
theorem e_122_982 {d : Nat} {h : mM} {o0 : Option Value} {T : mLs} {x : Nat} {st : List Value} : ev d 122 982 (o0 :: some (.ref x) :: T) st h = ev d 122 983 (o0 :: some (.ref x) :: T) (.ref x :: st) h := ev_of d_122_982 rfl
theorem d_122_983 : decode (cd 122) 983 = .ok (.aload_n 0, 1) := by rw [cd_122]; decide +kernel
theorem e_122_983 {d : Nat} {h : mM} {T : mLs} {x : Nat} {st : List Value} : ev d 122 983 ( some (.ref x) :: T) st h = ev d 122 984 ( some (.ref x) :: T) (.ref x :: st) h := ev_of d_122_983 rfl
theorem d_122_984 : decode (cd 122) 984 = .ok (.iload_n 3, 1) := by rw [cd_122]; decide +kernel
theorem e_122_984 {d : Nat} {h : mM} {o0 o1 o2 : Option Value} {T : mLs} {x : Int32} {st : List Value} : ev d 122 984 (o0 :: o1 :: o2 :: some (.int x) :: T) st h = ev d 122 985 (o0 :: o1 :: o2 :: some (.int x) :: T) (.int x :: st) h := ev_of d_122_984 rfl
theorem d_122_985 : decode (cd 122) 985 = .ok (.iconst 1, 1) := by rw [cd_122]; decide +kernel
theorem e_122_985 {d : Nat} {h : mM} {L : mLs} {st : List Value} : ev d 122 985 L st h = ev d 122 986 L (.int 1 :: st) h := ev_of d_122_985 rfl
theorem d_122_986 : decode (cd 122) 986 = .ok (.iadd, 1) := by rw [cd_122]; decide +kernel
theorem e_122_986 {d : Nat} {h : mM} {L : mLs} {st : List Value} {x y : Int32} : ev d 122 986 L (.int y :: .int x :: st) h = ev d 122 987 L (.int (x + y) :: st) h := ev_of d_122_986 rfl
theorem d_122_987 : decode (cd 122) 987 = .ok (.iaload, 1) := by rw [cd_122]; decide +kernel
theorem e_122_987 {d : Nat} {h : mM} {L : mLs} {st : List Value} {a : Nat} {i : Int32} : ev d 122 987 L (.int i :: .ref a :: st) h = if (mK h a = 11 ∨ mK h a = 19) ∧ ixOK i (mL h a) = true then ev d 122 988 L (.int (mI h a i.toNatClampNeg) :: st) h else none := ev_ia d_122_987
theorem d_122_988 : decode (cd 122) 988 = .ok (.invokevirtual 135, 3) := by rw [cd_122]; decide +kernel
theorem e_122_988 {d : Nat} {h : mM} {L : mLs} {st : List Value} {a : Nat} {x0 : Int32} (hc : mCat st ≤ 8) : ev (d + 1) 122 988 L (.int x0 :: .ref a :: st) h = if mK h a = 9 then cV (ev d 60 0 [some (.ref a), some (.int x0)] [] h) (fun v h1 => ev (d + 1) 122 991 L (v ++ st) h1) else none := ev_cv (mj := 60) (as := [.int x0]) (rest := st) d_122_988 (by decide +kernel) rfl rfl (by show _ ≤ List.length _; simp only [List.length_cons]; have : na 60 = 1 := rfl; omega) rfl (Nat.le_of_ble_eq_true rfl) hc
theorem d_122_991 : decode (cd 122) 991 = .ok (.i2l, 1) := by rw [cd_122]; decide +kernel
theorem e_122_991 {d : Nat} {h : mM} {L : mLs} {st : List Value} {x : Int32} : ev d 122 991 L (.int x :: st) h = ev d 122 992 L (.long x.toInt64 :: st) h := ev_of d_122_991 rfl
theorem d_122_992 : decode (cd 122) 992 = .ok (.aload_n 2, 1) := by rw [cd_122]; decide +kernel
theorem e_122_992 {d : Nat} {h : mM} {o0 o1 : Option Value} {T : mLs} {x : Nat} {st : List Value} : ev d 122 992 (o0 :: o1 :: some (.ref x) :: T) st h = ev d 122 993 (o0 :: o1 :: some (.ref x) :: T) (.ref x :: st) h := ev_of d_122_992 rfl
theorem d_122_993 : decode (cd 122) 993 = .ok (.aload_n 0, 1) := by rw [cd_122]; decide +kernel
theorem e_122_993 {d : Nat} {h : mM} {T : mLs} {x : Nat} {st : List Value} : ev d 122 993 ( some (.ref x) :: T) st h = ev d 122 994 ( some (.ref x) :: T) (.ref x :: st) h := ev_of d_122_993 rfl
theorem d_122_994 : decode (cd 122) 994 = .ok (.iload_n 3, 1) := by rw [cd_122]; decide +kernel
theorem e_122_994 {d : Nat} {h : mM} {o0 o1 o2 : Option Value} {T : mLs} {x : Int32} {st : List Value} : ev d 122 994 (o0 :: o1 :: o2 :: some (.int x) :: T) st h = ev d 122 995 (o0 :: o1 :: o2 :: some (.int x) :: T) (.int x :: st) h := ev_of d_122_994 rfl
theorem d_122_995 : decode (cd 122) 995 = .ok (.iconst 1, 1) := by rw [cd_122]; decide +kernel
theorem e_122_995 {d : Nat} {h : mM} {L : mLs} {st : List Value} : ev d 122 995 L st h = ev d 122 996 L (.int 1 :: st) h := ev_of d_122_995 rfl
theorem d_122_996 : decode (cd 122) 996 = .ok (.iadd, 1) := by rw [cd_122]; decide +kernel
theorem e_122_996 {d : Nat} {h : mM} {L : mLs} {st : List Value} {x y : Int32} : ev d 122 996 L (.int y :: .int x :: st) h = ev d 122 997 L (.int (x + y) :: st) h := ev_of d_122_996 rfl
theorem d_122_997 : decode (cd 122) 997 = .ok (.iaload, 1) := by rw [cd_122]; decide +kernel
theorem e_122_997 {d : Nat} {h : mM} {L : mLs} {st : List Value} {a : Nat} {i : Int32} : ev d 122 997 L (.int i :: .ref a :: st) h = if (mK h a = 11 ∨ mK h a = 19) ∧ ixOK i (mL h a) = true then ev d 122 998 L (.int (mI h a i.toNatClampNeg) :: st) h else none := ev_ia d_122_997
theorem d_122_998 : decode (cd 122) 998 = .ok (.invokevirtual 138, 3) := by rw [cd_122]; decide +kernel
theorem e_122_998 {d : Nat} {h : mM} {L : mLs} {st : List Value} {a : Nat} {x0 : Int32} (hc : mCat st ≤ 8) : ev (d + 1) 122 998 L (.int x0 :: .ref a :: st) h = if mK h a = 10 then cV (ev d 117 0 [some (.ref a), some (.int x0)] [] h) (fun v h1 => ev (d + 1) 122 1001 L (v ++ st) h1) else none := ev_cv (mj := 117) (as := [.int x0]) (rest := st) d_122_998 (by decide +kernel) rfl rfl (by show _ ≤ List.length _; simp only [List.length_cons]; have : na 117 = 1 := rfl; omega) rfl (Nat.le_of_ble_eq_true rfl) hc
theorem d_122_1001 : decode (cd 122) 1001 = .ok (.lcmp, 1) := by rw [cd_122]; decide +kernel
theorem e_122_1001 {d : Nat} {h : mM} {L : mLs} {st : List Value} {x y : Int64} : ev d 122 1001 L (.long y :: .long x :: st) h = ev d 122 1002 L (.int (lg_cmp x y) :: st) h := ev_of d_122_1001 rfl
theorem d_122_1002 : decode (cd 122) 1002 = .ok (.ifCond .eq 80, 3) := by rw [cd_122]; decide +kernel
theorem e_122_1002 {d : Nat} {h : mM} {L : mLs} {st : List Value} {x : Int32} : ev d 122 1002 L (.int x :: st) h = if x = 0 then ev d 122 1082 L st h else ev d 122 1005 L st h := ev_if (x = 0) inferInstance rfl d_122_1002 (by decide)
theorem d_122_1005 : decode (cd 122) 1005 = .ok (.iconst 0, 1) := by rw [cd_122]; decide +kernel
theorem e_122_1005 {d : Nat} {h : mM} {L : mLs} {st : List Value} : ev d 122 1005 L st h = ev d 122 1006 L (.int 0 :: st) h := ev_of d_122_1005 rfl
theorem d_122_1006 : decode (cd 122) 1006 = .ok (.ireturn, 1) := by rw [cd_122]; decide +kernel
theorem e_122_1006 {d : Nat} {h : mM} {L : mLs} {v : Int32} : ev d 122 1006 L [.int v] h = if mZO v = true then some (some (.int v), h) else none := ev_rz d_122_1006 (by decide +kernel)
theorem d_122_1007 : decode (cd 122) 1007 = .ok (.aload_n 1, 1) := by rw [cd_122]; decide +kernel
theorem e_122_1007 {d : Nat} {h : mM} {o0 : Option Value} {T : mLs} {x : Nat} {st : List Value} : ev d 122 1007 (o0 :: some (.ref x) :: T) st h = ev d 122 1008 (o0 :: some (.ref x) :: T) (.ref x :: st) h := ev_of d_122_1007 rfl
theorem d_122_1008 : decode (cd 122) 1008 = .ok (.aload_n 0, 1) := by rw [cd_122]; decide +kernel
theorem e_122_1008 {d : Nat} {h : mM} {T : mLs} {x : Nat} {st : List Value} : ev d 122 1008 ( some (.ref x) :: T) st h = ev d 122 1009 ( some (.ref x) :: T) (.ref x :: st) h := ev_of d_122_1008 rfl
theorem d_122_1009 : decode (cd 122) 1009 = .ok (.iload_n 3, 1) := by rw [cd_122]; decide +kernel
theorem e_122_1009 {d : Nat} {h : mM} {o0 o1 o2 : Option Value} {T : mLs} {x : Int32} {st : List Value} : ev d 122 1009 (o0 :: o1 :: o2 :: some (.int x) :: T) st h = ev d 122 1010 (o0 :: o1 :: o2 :: some (.int x) :: T) (.int x :: st) h := ev_of d_122_1009 rfl
theorem d_122_1010 : decode (cd 122) 1010 = .ok (.iconst 1, 1) := by rw [cd_122]; decide +kernel
theorem e_122_1010 {d : Nat} {h : mM} {L : mLs} {st : List Value} : ev d 122 1010 L st h = ev d 122 1011 L (.int 1 :: st) h := ev_of d_122_1010 rfl
theorem d_122_1011 : decode (cd 122) 1011 = .ok (.iadd, 1) := by rw [cd_122]; decide +kernel
theorem e_122_1011 {d : Nat} {h : mM} {L : mLs} {st : List Value} {x y : Int32} : ev d 122 1011 L (.int y :: .int x :: st) h = ev d 122 1012 L (.int (x + y) :: st) h := ev_of d_122_1011 rfl
theorem d_122_1012 : decode (cd 122) 1012 = .ok (.iaload, 1) := by rw [cd_122]; decide +kernel
theorem e_122_1012 {d : Nat} {h : mM} {L : mLs} {st : List Value} {a : Nat} {i : Int32} : ev d 122 1012 L (.int i :: .ref a :: st) h = if (mK h a = 11 ∨ mK h a = 19) ∧ ixOK i (mL h a) = true then ev d 122 1013 L (.int (mI h a i.toNatClampNeg) :: st) h else none := ev_ia d_122_1012
theorem d_122_1013 : decode (cd 122) 1013 = .ok (.invokevirtual 140, 3) := by rw [cd_122]; decide +kernel
theorem e_122_1013 {d : Nat} {h : mM} {L : mLs} {st : List Value} {a : Nat} {x0 : Int32} (hc : mCat st ≤ 8) : ev (d + 1) 122 1013 L (.int x0 :: .ref a :: st) h = if mK h a = 9 then cV (ev d 61 0 [some (.ref a), some (.int x0), none, none] [] h) (fun v h1 => ev (d + 1) 122 1016 L (v ++ st) h1) else none := ev_cv (mj := 61) (as := [.int x0]) (rest := st) d_122_1013 (by decide +kernel) rfl rfl (by show _ ≤ List.length _; simp only [List.length_cons]; have : na 61 = 1 := rfl; omega) rfl (Nat.le_of_ble_eq_true rfl) hc
theorem d_122_1016 : decode (cd 122) 1016 = .ok (.i2l, 1) := by rw [cd_122]; decide +kernel
theorem e_122_1016 {d : Nat} {h : mM} {L : mLs} {st : List Value} {x : Int32} : ev d 122 1016 L (.int x :: st) h = ev d 122 1017 L (.long x.toInt64 :: st) h := ev_of d_122_1016 rfl
theorem d_122_1017 : decode (cd 122) 1017 = .ok (.aload_n 2, 1) := by rw [cd_122]; decide +kernel
theorem e_122_1017 {d : Nat} {h : mM} {o0 o1 : Option Value} {T : mLs} {x : Nat} {st : List Value} : ev d 122 1017 (o0 :: o1 :: some (.ref x) :: T) st h = ev d 122 1018 (o0 :: o1 :: some (.ref x) :: T) (.ref x :: st) h := ev_of d_122_1017 rfl
theorem d_122_1018 : decode (cd 122) 1018 = .ok (.aload_n 0, 1) := by rw [cd_122]; decide +kernel
theorem e_122_1018 {d : Nat} {h : mM} {T : mLs} {x : Nat} {st : List Value} : ev d 122 1018 ( some (.ref x) :: T) st h = ev d 122 1019 ( some (.ref x) :: T) (.ref x :: st) h := ev_of d_122_1018 rfl
theorem d_122_1019 : decode (cd 122) 1019 = .ok (.iload_n 3, 1) := by rw [cd_122]; decide +kernel
theorem e_122_1019 {d : Nat} {h : mM} {o0 o1 o2 : Option Value} {T : mLs} {x : Int32} {st : List Value} : ev d 122 1019 (o0 :: o1 :: o2 :: some (.int x) :: T) st h = ev d 122 1020 (o0 :: o1 :: o2 :: some (.int x) :: T) (.int x :: st) h := ev_of d_122_1019 rfl
theorem d_122_1020 : decode (cd 122) 1020 = .ok (.iconst 1, 1) := by rw [cd_122]; decide +kernel
theorem e_122_1020 {d : Nat} {h : mM} {L : mLs} {st : List Value} : ev d 122 1020 L st h = ev d 122 1021 L (.int 1 :: st) h := ev_of d_122_1020 rfl
theorem d_122_1021 : decode (cd 122) 1021 = .ok (.iadd, 1) := by rw [cd_122]; decide +kernel
theorem e_122_1021 {d : Nat} {h : mM} {L : mLs} {st : List Value} {x y : Int32} : ev d 122 1021 L (.int y :: .int x :: st) h = ev d 122 1022 L (.int (x + y) :: st) h := ev_of d_122_1021 rfl
theorem d_122_1022 : decode (cd 122) 1022 = .ok (.iaload, 1) := by rw [cd_122]; decide +kernel
theorem e_122_1022 {d : Nat} {h : mM} {L : mLs} {st : List Value} {a : Nat} {i : Int32} : ev d 122 1022 L (.int i :: .ref a :: st) h = if (mK h a = 11 ∨ mK h a = 19) ∧ ixOK i (mL h a) = true then ev d 122 1023 L (.int (mI h a i.toNatClampNeg) :: st) h else none := ev_ia d_122_1022
theorem d_122_1023 : decode (cd 122) 1023 = .ok (.invokevirtual 143, 3) := by rw [cd_122]; decide +kernel
theorem e_122_1023 {d : Nat} {h : mM} {L : mLs} {st : List Value} {a : Nat} {x0 : Int32} (hc : mCat st ≤ 8) : ev (d + 1) 122 1023 L (.int x0 :: .ref a :: st) h = if mK h a = 10 then cV (ev d 118 0 [some (.ref a), some (.int x0), none, none] [] h) (fun v h1 => ev (d + 1) 122 1026 L (v ++ st) h1) else none := ev_cv (mj := 118) (as := [.int x0]) (rest := st) d_122_1023 (by decide +kernel) rfl rfl (by show _ ≤ List.length _; simp only [List.length_cons]; have : na 118 = 1 := rfl; omega) rfl (Nat.le_of_ble_eq_true rfl) hc
theorem d_122_1026 : decode (cd 122) 1026 = .ok (.lcmp, 1) := by rw [cd_122]; decide +kernel
theorem e_122_1026 {d : Nat} {h : mM} {L : mLs} {st : List Value} {x y : Int64} : ev d 122 1026 L (.long y :: .long x :: st) h = ev d 122 1027 L (.int (lg_cmp x y) :: st) h := ev_of d_122_1026 rfl
theorem d_122_1027 : decode (cd 122) 1027 = .ok (.ifCond .eq 55, 3) := by rw [cd_122]; decide +kernel
theorem e_122_1027 {d : Nat} {h : mM} {L : mLs} {st : List Value} {x : Int32} : ev d 122 1027 L (.int x :: st) h = if x = 0 then ev d 122 1082 L st h else ev d 122 1030 L st h := ev_if (x = 0) inferInstance rfl d_122_1027 (by decide)
theorem d_122_1030 : decode (cd 122) 1030 = .ok (.iconst 0, 1) := by rw [cd_122]; decide +kernel
theorem e_122_1030 {d : Nat} {h : mM} {L : mLs} {st : List Value} : ev d 122 1030 L st h = ev d 122 1031 L (.int 0 :: st) h := ev_of d_122_1030 rfl
theorem d_122_1031 : decode (cd 122) 1031 = .ok (.ireturn, 1) := by rw [cd_122]; decide +kernel
theorem e_122_1031 {d : Nat} {h : mM} {L : mLs} {v : Int32} : ev d 122 1031 L [.int v] h = if mZO v = true then some (some (.int v), h) else none := ev_rz d_122_1031 (by decide +kernel)
theorem d_122_1032 : decode (cd 122) 1032 = .ok (.aload_n 1, 1) := by rw [cd_122]; decide +kernel
theorem e_122_1032 {d : Nat} {h : mM} {o0 : Option Value} {T : mLs} {x : Nat} {st : List Value} : ev d 122 1032 (o0 :: some (.ref x) :: T) st h = ev d 122 1033 (o0 :: some (.ref x) :: T) (.ref x :: st) h := ev_of d_122_1032 rfl
theorem d_122_1033 : decode (cd 122) 1033 = .ok (.aload_n 0, 1) := by rw [cd_122]; decide +kernel
theorem e_122_1033 {d : Nat} {h : mM} {T : mLs} {x : Nat} {st : List Value} : ev d 122 1033 ( some (.ref x) :: T) st h = ev d 122 1034 ( some (.ref x) :: T) (.ref x :: st) h := ev_of d_122_1033 rfl
theorem d_122_1034 : decode (cd 122) 1034 = .ok (.iload_n 3, 1) := by rw [cd_122]; decide +kernel
theorem e_122_1034 {d : Nat} {h : mM} {o0 o1 o2 : Option Value} {T : mLs} {x : Int32} {st : List Value} : ev d 122 1034 (o0 :: o1 :: o2 :: some (.int x) :: T) st h = ev d 122 1035 (o0 :: o1 :: o2 :: some (.int x) :: T) (.int x :: st) h := ev_of d_122_1034 rfl
theorem d_122_1035 : decode (cd 122) 1035 = .ok (.iconst 1, 1) := by rw [cd_122]; decide +kernel
theorem e_122_1035 {d : Nat} {h : mM} {L : mLs} {st : List Value} : ev d 122 1035 L st h = ev d 122 1036 L (.int 1 :: st) h := ev_of d_122_1035 rfl
theorem d_122_1036 : decode (cd 122) 1036 = .ok (.iadd, 1) := by rw [cd_122]; decide +kernel
theorem e_122_1036 {d : Nat} {h : mM} {L : mLs} {st : List Value} {x y : Int32} : ev d 122 1036 L (.int y :: .int x :: st) h = ev d 122 1037 L (.int (x + y) :: st) h := ev_of d_122_1036 rfl
theorem d_122_1037 : decode (cd 122) 1037 = .ok (.iaload, 1) := by rw [cd_122]; decide +kernel
theorem e_122_1037 {d : Nat} {h : mM} {L : mLs} {st : List Value} {a : Nat} {i : Int32} : ev d 122 1037 L (.int i :: .ref a :: st) h = if (mK h a = 11 ∨ mK h a = 19) ∧ ixOK i (mL h a) = true then ev d 122 1038 L (.int (mI h a i.toNatClampNeg) :: st) h else none := ev_ia d_122_1037
theorem d_122_1038 : decode (cd 122) 1038 = .ok (.invokevirtual 145, 3) := by rw [cd_122]; decide +kernel
theorem e_122_1038 {d : Nat} {h : mM} {L : mLs} {st : List Value} {a : Nat} {x0 : Int32} (hc : mCat st ≤ 8) : ev (d + 1) 122 1038 L (.int x0 :: .ref a :: st) h = if mK h a = 9 then cV (ev d 62 0 [some (.ref a), some (.int x0)] [] h) (fun v h1 => ev (d + 1) 122 1041 L (v ++ st) h1) else none := ev_cv (mj := 62) (as := [.int x0]) (rest := st) d_122_1038 (by decide +kernel) rfl rfl (by show _ ≤ List.length _; simp only [List.length_cons]; have : na 62 = 1 := rfl; omega) rfl (Nat.le_of_ble_eq_true rfl) hc
theorem d_122_1041 : decode (cd 122) 1041 = .ok (.i2l, 1) := by rw [cd_122]; decide +kernel
theorem e_122_1041 {d : Nat} {h : mM} {L : mLs} {st : List Value} {x : Int32} : ev d 122 1041 L (.int x :: st) h = ev d 122 1042 L (.long x.toInt64 :: st) h := ev_of d_122_1041 rfl
theorem d_122_1042 : decode (cd 122) 1042 = .ok (.aload_n 2, 1) := by rw [cd_122]; decide +kernel
theorem e_122_1042 {d : Nat} {h : mM} {o0 o1 : Option Value} {T : mLs} {x : Nat} {st : List Value} : ev d 122 1042 (o0 :: o1 :: some (.ref x) :: T) st h = ev d 122 1043 (o0 :: o1 :: some (.ref x) :: T) (.ref x :: st) h := ev_of d_122_1042 rfl
theorem d_122_1043 : decode (cd 122) 1043 = .ok (.aload_n 0, 1) := by rw [cd_122]; decide +kernel
theorem e_122_1043 {d : Nat} {h : mM} {T : mLs} {x : Nat} {st : List Value} : ev d 122 1043 ( some (.ref x) :: T) st h = ev d 122 1044 ( some (.ref x) :: T) (.ref x :: st) h := ev_of d_122_1043 rfl
theorem d_122_1044 : decode (cd 122) 1044 = .ok (.iload_n 3, 1) := by rw [cd_122]; decide +kernel
theorem e_122_1044 {d : Nat} {h : mM} {o0 o1 o2 : Option Value} {T : mLs} {x : Int32} {st : List Value} : ev d 122 1044 (o0 :: o1 :: o2 :: some (.int x) :: T) st h = ev d 122 1045 (o0 :: o1 :: o2 :: some (.int x) :: T) (.int x :: st) h := ev_of d_122_1044 rfl
theorem d_122_1045 : decode (cd 122) 1045 = .ok (.iconst 1, 1) := by rw [cd_122]; decide +kernel
theorem e_122_1045 {d : Nat} {h : mM} {L : mLs} {st : List Value} : ev d 122 1045 L st h = ev d 122 1046 L (.int 1 :: st) h := ev_of d_122_1045 rfl
theorem d_122_1046 : decode (cd 122) 1046 = .ok (.iadd, 1) := by rw [cd_122]; decide +kernel
theorem e_122_1046 {d : Nat} {h : mM} {L : mLs} {st : List Value} {x y : Int32} : ev d 122 1046 L (.int y :: .int x :: st) h = ev d 122 1047 L (.int (x + y) :: st) h := ev_of d_122_1046 rfl
theorem d_122_1047 : decode (cd 122) 1047 = .ok (.iaload, 1) := by rw [cd_122]; decide +kernel
theorem e_122_1047 {d : Nat} {h : mM} {L : mLs} {st : List Value} {a : Nat} {i : Int32} : ev d 122 1047 L (.int i :: .ref a :: st) h = if (mK h a = 11 ∨ mK h a = 19) ∧ ixOK i (mL h a) = true then ev d 122 1048 L (.int (mI h a i.toNatClampNeg) :: st) h else none := ev_ia d_122_1047
theorem d_122_1048 : decode (cd 122) 1048 = .ok (.invokevirtual 148, 3) := by rw [cd_122]; decide +kernel
theorem e_122_1048 {d : Nat} {h : mM} {L : mLs} {st : List Value} {a : Nat} {x0 : Int32} (hc : mCat st ≤ 8) : ev (d + 1) 122 1048 L (.int x0 :: .ref a :: st) h = if mK h a = 10 then cV (ev d 119 0 [some (.ref a), some (.int x0), none, none] [] h) (fun v h1 => ev (d + 1) 122 1051 L (v ++ st) h1) else none := ev_cv (mj := 119) (as := [.int x0]) (rest := st) d_122_1048 (by decide +kernel) rfl rfl (by show _ ≤ List.length _; simp only [List.length_cons]; have : na 119 = 1 := rfl; omega) rfl (Nat.le_of_ble_eq_true rfl) hc
theorem d_122_1051 : decode (cd 122) 1051 = .ok (.lcmp, 1) := by rw [cd_122]; decide +kernel
theorem e_122_1051 {d : Nat} {h : mM} {L : mLs} {st : List Value} {x y : Int64} : ev d 122 1051 L (.long y :: .long x :: st) h = ev d 122 1052 L (.int (lg_cmp x y) :: st) h := ev_of d_122_1051 rfl
theorem d_122_1052 : decode (cd 122) 1052 = .ok (.ifCond .eq 30, 3) := by rw [cd_122]; decide +kernel
theorem e_122_1052 {d : Nat} {h : mM} {L : mLs} {st : List Value} {x : Int32} : ev d 122 1052 L (.int x :: st) h = if x = 0 then ev d 122 1082 L st h else ev d 122 1055 L st h := ev_if (x = 0) inferInstance rfl d_122_1052 (by decide)
theorem d_122_1055 : decode (cd 122) 1055 = .ok (.iconst 0, 1) := by rw [cd_122]; decide +kernel
theorem e_122_1055 {d : Nat} {h : mM} {L : mLs} {st : List Value} : ev d 122 1055 L st h = ev d 122 1056 L (.int 0 :: st) h := ev_of d_122_1055 rfl
theorem d_122_1056 : decode (cd 122) 1056 = .ok (.ireturn, 1) := by rw [cd_122]; decide +kernel
theorem e_122_1056 {d : Nat} {h : mM} {L : mLs} {v : Int32} : ev d 122 1056 L [.int v] h = if mZO v = true then some (some (.int v), h) else none := ev_rz d_122_1056 (by decide +kernel)
theorem d_122_1057 : decode (cd 122) 1057 = .ok (.aload_n 1, 1) := by rw [cd_122]; decide +kernel
theorem e_122_1057 {d : Nat} {h : mM} {o0 : Option Value} {T : mLs} {x : Nat} {st : List Value} : ev d 122 1057 (o0 :: some (.ref x) :: T) st h = ev d 122 1058 (o0 :: some (.ref x) :: T) (.ref x :: st) h := ev_of d_122_1057 rfl
theorem d_122_1058 : decode (cd 122) 1058 = .ok (.aload_n 0, 1) := by rw [cd_122]; decide +kernel
theorem e_122_1058 {d : Nat} {h : mM} {T : mLs} {x : Nat} {st : List Value} : ev d 122 1058 ( some (.ref x) :: T) st h = ev d 122 1059 ( some (.ref x) :: T) (.ref x :: st) h := ev_of d_122_1058 rfl
theorem d_122_1059 : decode (cd 122) 1059 = .ok (.iload_n 3, 1) := by rw [cd_122]; decide +kernel
theorem e_122_1059 {d : Nat} {h : mM} {o0 o1 o2 : Option Value} {T : mLs} {x : Int32} {st : List Value} : ev d 122 1059 (o0 :: o1 :: o2 :: some (.int x) :: T) st h = ev d 122 1060 (o0 :: o1 :: o2 :: some (.int x) :: T) (.int x :: st) h := ev_of d_122_1059 rfl
theorem d_122_1060 : decode (cd 122) 1060 = .ok (.iconst 1, 1) := by rw [cd_122]; decide +kernel
theorem e_122_1060 {d : Nat} {h : mM} {L : mLs} {st : List Value} : ev d 122 1060 L st h = ev d 122 1061 L (.int 1 :: st) h := ev_of d_122_1060 rfl
theorem d_122_1061 : decode (cd 122) 1061 = .ok (.iadd, 1) := by rw [cd_122]; decide +kernel
theorem e_122_1061 {d : Nat} {h : mM} {L : mLs} {st : List Value} {x y : Int32} : ev d 122 1061 L (.int y :: .int x :: st) h = ev d 122 1062 L (.int (x + y) :: st) h := ev_of d_122_1061 rfl
theorem d_122_1062 : decode (cd 122) 1062 = .ok (.iaload, 1) := by rw [cd_122]; decide +kernel
theorem e_122_1062 {d : Nat} {h : mM} {L : mLs} {st : List Value} {a : Nat} {i : Int32} : ev d 122 1062 L (.int i :: .ref a :: st) h = if (mK h a = 11 ∨ mK h a = 19) ∧ ixOK i (mL h a) = true then ev d 122 1063 L (.int (mI h a i.toNatClampNeg) :: st) h else none := ev_ia d_122_1062
theorem d_122_1063 : decode (cd 122) 1063 = .ok (.invokevirtual 150, 3) := by rw [cd_122]; decide +kernel
theorem e_122_1063 {d : Nat} {h : mM} {L : mLs} {st : List Value} {a : Nat} {x0 : Int32} (hc : mCat st ≤ 8) : ev (d + 1) 122 1063 L (.int x0 :: .ref a :: st) h = if mK h a = 9 then cV (ev d 63 0 [some (.ref a), some (.int x0)] [] h) (fun v h1 => ev (d + 1) 122 1066 L (v ++ st) h1) else none := ev_cv (mj := 63) (as := [.int x0]) (rest := st) d_122_1063 (by decide +kernel) rfl rfl (by show _ ≤ List.length _; simp only [List.length_cons]; have : na 63 = 1 := rfl; omega) rfl (Nat.le_of_ble_eq_true rfl) hc
theorem d_122_1066 : decode (cd 122) 1066 = .ok (.i2l, 1) := by rw [cd_122]; decide +kernel
theorem e_122_1066 {d : Nat} {h : mM} {L : mLs} {st : List Value} {x : Int32} : ev d 122 1066 L (.int x :: st) h = ev d 122 1067 L (.long x.toInt64 :: st) h := ev_of d_122_1066 rfl
theorem d_122_1067 : decode (cd 122) 1067 = .ok (.aload_n 2, 1) := by rw [cd_122]; decide +kernel
theorem e_122_1067 {d : Nat} {h : mM} {o0 o1 : Option Value} {T : mLs} {x : Nat} {st : List Value} : ev d 122 1067 (o0 :: o1 :: some (.ref x) :: T) st h = ev d 122 1068 (o0 :: o1 :: some (.ref x) :: T) (.ref x :: st) h := ev_of d_122_1067 rfl
theorem d_122_1068 : decode (cd 122) 1068 = .ok (.aload_n 0, 1) := by rw [cd_122]; decide +kernel
theorem e_122_1068 {d : Nat} {h : mM} {T : mLs} {x : Nat} {st : List Value} : ev d 122 1068 ( some (.ref x) :: T) st h = ev d 122 1069 ( some (.ref x) :: T) (.ref x :: st) h := ev_of d_122_1068 rfl
theorem d_122_1069 : decode (cd 122) 1069 = .ok (.iload_n 3, 1) := by rw [cd_122]; decide +kernel
theorem e_122_1069 {d : Nat} {h : mM} {o0 o1 o2 : Option Value} {T : mLs} {x : Int32} {st : List Value} : ev d 122 1069 (o0 :: o1 :: o2 :: some (.int x) :: T) st h = ev d 122 1070 (o0 :: o1 :: o2 :: some (.int x) :: T) (.int x :: st) h := ev_of d_122_1069 rfl
theorem d_122_1070 : decode (cd 122) 1070 = .ok (.iconst 1, 1) := by rw [cd_122]; decide +kernel
theorem e_122_1070 {d : Nat} {h : mM} {L : mLs} {st : List Value} : ev d 122 1070 L st h = ev d 122 1071 L (.int 1 :: st) h := ev_of d_122_1070 rfl
theorem d_122_1071 : decode (cd 122) 1071 = .ok (.iadd, 1) := by rw [cd_122]; decide +kernel
theorem e_122_1071 {d : Nat} {h : mM} {L : mLs} {st : List Value} {x y : Int32} : ev d 122 1071 L (.int y :: .int x :: st) h = ev d 122 1072 L (.int (x + y) :: st) h := ev_of d_122_1071 rfl
theorem d_122_1072 : decode (cd 122) 1072 = .ok (.iaload, 1) := by rw [cd_122]; decide +kernel
theorem e_122_1072 {d : Nat} {h : mM} {L : mLs} {st : List Value} {a : Nat} {i : Int32} : ev d 122 1072 L (.int i :: .ref a :: st) h = if (mK h a = 11 ∨ mK h a = 19) ∧ ixOK i (mL h a) = true then ev d 122 1073 L (.int (mI h a i.toNatClampNeg) :: st) h else none := ev_ia d_122_1072
theorem d_122_1073 : decode (cd 122) 1073 = .ok (.invokevirtual 153, 3) := by rw [cd_122]; decide +kernel
theorem e_122_1073 {d : Nat} {h : mM} {L : mLs} {st : List Value} {a : Nat} {x0 : Int32} (hc : mCat st ≤ 8) : ev (d + 1) 122 1073 L (.int x0 :: .ref a :: st) h = if mK h a = 10 then cV (ev d 120 0 [some (.ref a), some (.int x0)] [] h) (fun v h1 => ev (d + 1) 122 1076 L (v ++ st) h1) else none := ev_cv (mj := 120) (as := [.int x0]) (rest := st) d_122_1073 (by decide +kernel) rfl rfl (by show _ ≤ List.length _; simp only [List.length_cons]; have : na 120 = 1 := rfl; omega) rfl (Nat.le_of_ble_eq_true rfl) hc
theorem d_122_1076 : decode (cd 122) 1076 = .ok (.lcmp, 1) := by rw [cd_122]; decide +kernel
theorem e_122_1076 {d : Nat} {h : mM} {L : mLs} {st : List Value} {x y : Int64} : ev d 122 1076 L (.long y :: .long x :: st) h = ev d 122 1077 L (.int (lg_cmp x y) :: st) h := ev_of d_122_1076 rfl
theorem d_122_1077 : decode (cd 122) 1077 = .ok (.ifCond .eq 5, 3) := by rw [cd_122]; decide +kernel
theorem e_122_1077 {d : Nat} {h : mM} {L : mLs} {st : List Value} {x : Int32} : ev d 122 1077 L (.int x :: st) h = if x = 0 then ev d 122 1082 L st h else ev d 122 1080 L st h := ev_if (x = 0) inferInstance rfl d_122_1077 (by decide)
theorem d_122_1080 : decode (cd 122) 1080 = .ok (.iconst 0, 1) := by rw [cd_122]; decide +kernel
theorem e_122_1080 {d : Nat} {h : mM} {L : mLs} {st : List Value} : ev d 122 1080 L st h = ev d 122 1081 L (.int 0 :: st) h := ev_of d_122_1080 rfl
theorem d_122_1081 : decode (cd 122) 1081 = .ok (.ireturn, 1) := by rw [cd_122]; decide +kernel
theorem e_122_1081 {d : Nat} {h : mM} {L : mLs} {v : Int32} : ev d 122 1081 L [.int v] h = if mZO v = true then some (some (.int v), h) else none := ev_rz d_122_1081 (by decide +kernel)
theorem d_122_1082 : decode (cd 122) 1082 = .ok (.iinc 3 6, 3) := by rw [cd_122]; decide +kernel
theorem e_122_1082 {d : Nat} {h : mM} {o0 o1 o2 : Option Value} {T : mLs} {x : Int32} {st : List Value} (hl : mLong o2 = false) : ev d 122 1082 (o0 :: o1 :: o2 :: some (.int x) :: T) st h = ev d 122 1085 (o0 :: o1 :: o2 :: some (.int (x + 6)) :: T) st h := ev_inc d_122_1082 (by decide +kernel) rfl rfl (mS1_s (j := 2) hl)
theorem d_122_1085 : decode (cd 122) 1085 = .ok (.goto (-1067), 3) := by rw [cd_122]; decide +kernel
theorem e_122_1085 {d : Nat} {h : mM} {L : mLs} {st : List Value} : ev d 122 1085 L st h = ev d 122 18 L st h := ev_go d_122_1085 (by decide)
theorem d_122_1088 : decode (cd 122) 1088 = .ok (.iconst 1, 1) := by rw [cd_122]; decide +kernel
theorem e_122_1088 {d : Nat} {h : mM} {L : mLs} {st : List Value} : ev d 122 1088 L st h = ev d 122 1089 L (.int 1 :: st) h := ev_of d_122_1088 rfl
theorem d_122_1089 : decode (cd 122) 1089 = .ok (.ireturn, 1) := by rw [cd_122]; decide +kernel
theorem e_122_1089 {d : Nat} {h : mM} {L : mLs} {v : Int32} : ev d 122 1089 L [.int v] h = if mZO v = true then some (some (.int v), h) else none := ev_rz d_122_1089 (by decide +kernel)
