-- what the tables hold of the names: closed facts, by the kernel (gen_checks.py)
theorem nmN : ∀ ci, ci < 11 → ∀ a, a < nfN ci → ∀ b, b < nfN ci → a ≠ b → (TN ci a).2.1 ≠ (TN ci b).2.1 := by decide +kernel
theorem tyN_ok : ∀ ci, ci < 11 → ∀ k, k < nfN ci → parseFieldDescriptor (TN ci k).2.2.1 = some (tyN ci k) := by decide +kernel
theorem lw_inP {ws : List Cond} (ps : List Nat) (h : ws = ps.filterMap (fun i => lw_tbl[i]?)) : ∀ w ∈ ws, w ∈ lw_tbl := by
  intro w hw
  rw [h] at hw
  obtain ⟨i, -, hi⟩ := List.mem_filterMap.mp hw
  exact List.mem_of_getElem? hi
theorem lw_goodP {ws : List Cond} (ps : List Nat) (h : ws = ps.filterMap (fun i => lw_tbl[i]?)) (g : ws.all goodWord = true) : ∀ w ∈ ws, w ∈ lw_good := fun w hw => List.mem_filter.mpr ⟨lw_inP ps h w hw, List.all_eq_true.mp g w hw⟩
theorem lw_good_in {w : Cond} (h : w ∈ lw_good) : w ∈ lw_tbl := (List.mem_filter.mp h).1
theorem lw_good_g {w : Cond} (h : w ∈ lw_good) : goodWord w = true := (List.mem_filter.mp h).2
theorem inN : ∀ ci, ci < 11 → ∀ w ∈ u_ws (RN ci) (TN ci) (nfN ci), w ∈ lw_good := fun ci hc w hw => lw_goodP (ws := (List.range 11).flatMap (fun ci => u_ws (RN ci) (TN ci) (nfN ci))) [117, 119, 121, 306, 308, 310, 312, 314, 316, 223, 225, 227, 229, 231, 233, 235, 237, 239, 241, 243, 245, 247, 249, 251, 94, 96, 98, 100, 177, 179, 181, 183, 341, 343, 345, 347, 349, 351, 353, 355, 149, 151, 153, 155, 157, 61, 63, 274, 276, 278, 280, 282, 284, 286, 374, 376, 378, 380, 382, 384, 386, 388, 390, 392, 394, 396, 398, 400, 402, 404, 731, 733, 735, 737, 739, 741, 743, 745, 747, 749, 751, 753, 755, 757, 759, 761, 763, 765, 767, 769, 771, 773, 775, 777, 779, 781, 783, 785, 787, 789, 791, 793, 795, 797, 799, 801, 803] (by decide +kernel) (by decide +kernel) w (List.mem_flatMap.mpr ⟨ci, List.mem_range.mpr hc, hw⟩)
def fCond (q : Nat × Nat × Nat × Nat) : Cond := .fieldLink (RN q.1) q.2.1 (TN q.2.2.1 q.2.2.2).1 (TN q.2.2.1 q.2.2.2).2.1 (TN q.2.2.1 q.2.2.2).2.2.1
theorem fL_ok1 : ∀ q ∈ fL, q.2.2.1 < 11 ∧ q.2.2.2 < nfN q.2.2.1 := by decide +kernel
theorem fL_ok : ∀ q ∈ fL, fCond q ∈ lw_good := fun q hq => lw_goodP (ws := fL.map fCond) [57, 58, 59, 60, 84, 85, 86, 87, 88, 89, 90, 91, 92, 93, 108, 109, 110, 111, 112, 113, 114, 115, 116, 138, 139, 140, 141, 142, 143, 144, 145, 146, 147, 148, 165, 166, 167, 168, 169, 170, 171, 172, 173, 174, 175, 176, 186, 187, 188, 189, 190, 191, 192, 193, 194, 195, 196, 197, 198, 199, 200, 201, 202, 203, 204, 205, 206, 207, 208, 209, 210, 211, 212, 213, 214, 215, 216, 217, 218, 219, 220, 221, 222, 254, 255, 256, 257, 258, 259, 260, 261, 262, 263, 264, 265, 266, 267, 268, 269, 270, 271, 272, 273, 295, 296, 297, 298, 299, 300, 301, 302, 303, 304, 305, 329, 330, 331, 332, 333, 334, 335, 336, 337, 338, 339, 340, 358, 359, 360, 361, 362, 363, 364, 365, 366, 367, 368, 369, 370, 371, 372, 373, 694, 695, 696, 697, 698, 699, 700, 701, 702, 703, 704, 705, 706, 707, 708, 709, 710, 711, 712, 713, 714, 715, 716, 717, 718, 719, 720, 721, 722, 723, 724, 725, 726, 727, 728, 729, 730] (by decide +kernel) (by decide +kernel) _ (List.mem_map.mpr ⟨q, hq, rfl⟩)
def mKinds (q : Nat × Nat × Nat × Nat) : List Cond :=
  if q.2.2.1 = 0 then [.methodLink (RN q.1) q.2.1 (yn q.2.2.2), .instanceMethod (yn q.2.2.2), .selects (RN (ow q.2.2.2)) (yn q.2.2.2) (yn q.2.2.2), .initialized (RN (ow q.2.2.2))]
  else if q.2.2.1 = 1 then [.methodLink (RN q.1) q.2.1 (yn q.2.2.2), .static (yn q.2.2.2), .initialized (RN (ow q.2.2.2))]
  else if q.2.2.1 = 2 then [.methodLink (RN q.1) q.2.1 (yn q.2.2.2), .instanceMethod (yn q.2.2.2), .initialized (RN (ow q.2.2.2))]
  else if q.2.2.1 = 3 then [.static (yn q.2.2.2), .initialized (RN (ow q.2.2.2))]
  else if q.2.2.1 = 4 then [.instanceMethod (yn q.2.2.2), .initialized (RN (ow q.2.2.2))]
  else if q.2.2.1 = 5 then [.methodLink (RN q.1) q.2.1 Lib.objectInit, .instanceMethod Lib.objectInit]
  else if q.2.2.1 = 6 then [.methodLink (RN q.1) q.2.1 Lib.Math.max.name, .static Lib.Math.max.name, .initialized "java/lang/Math"]
  else if q.2.2.1 = 7 then [.methodLink (RN q.1) q.2.1 Lib.Math.min.name, .static Lib.Math.min.name, .initialized "java/lang/Math"]
  else if q.2.2.1 = 8 then [.methodLink (RN q.1) q.2.1 Lib.Math.abs.name, .static Lib.Math.abs.name, .initialized "java/lang/Math"]
  else if q.2.2.1 = 9 then [.methodLink (RN q.1) q.2.1 arraycopyName, .native arraycopyName, .static arraycopyName, .initialized "java/lang/System"]
  else []
theorem mLk_ok : ∀ q ∈ mLk, ∀ w ∈ mKinds q, w ∈ lw_good := fun q hq w hw => lw_goodP (ws := mLk.flatMap mKinds) [39, 40, 23, 42, 43, 47, 48, 24, 50, 43, 51, 52, 25, 54, 55, 25, 69, 70, 26, 72, 43, 81, 27, 83, 43, 105, 28, 107, 43, 125, 126, 29, 128, 43, 135, 30, 137, 43, 162, 31, 164, 43, 291, 292, 32, 294, 43, 321, 322, 33, 324, 43, 328, 292, 32, 407, 408, 409, 23, 411, 412, 23, 414, 416, 0, 23, 419, 420, 421, 23, 423, 424, 425, 23, 427, 428, 429, 24, 431, 432, 433, 23, 435, 436, 23, 438, 439, 440, 23, 442, 444, 1, 23, 446, 447, 448, 23, 450, 451, 452, 27, 454, 455, 456, 23, 458, 459, 460, 23, 462, 463, 464, 23, 466, 467, 468, 27, 470, 471, 472, 26, 474, 475, 476, 23, 478, 479, 23, 481, 482, 23, 484, 485, 23, 487, 488, 489, 26, 491, 492, 493, 23, 495, 497, 2, 23, 499, 500, 501, 29, 503, 504, 505, 23, 507, 508, 509, 23, 511, 512, 513, 23, 515, 516, 517, 23, 519, 520, 521, 23, 523, 524, 525, 23, 527, 528, 529, 23, 531, 532, 533, 32, 535, 536, 537, 32, 539, 540, 541, 27, 543, 467, 468, 27, 544, 545, 25, 547, 548, 549, 27, 551, 552, 553, 32, 555, 467, 468, 27, 556, 557, 558, 32, 560, 545, 25, 561, 562, 563, 32, 565, 566, 567, 32, 569, 570, 571, 26, 573, 55, 25, 574, 575, 576, 30, 578, 579, 580, 30, 582, 545, 25, 583, 584, 585, 32, 587, 451, 452, 27, 588, 590, 3, 23, 592, 594, 4, 23, 596, 597, 598, 32, 600, 601, 602, 32, 604, 605, 606, 29, 608, 545, 25, 609, 610, 611, 29, 485, 23, 614, 615, 616, 23, 618, 620, 5, 23, 622, 624, 623, 35, 625, 626, 627, 23, 629, 630, 631, 33, 633, 624, 623, 35, 634, 635, 23, 637, 638, 639, 33, 641, 642, 36, 647, 648, 649, 33, 651, 428, 429, 24, 652, 532, 533, 32, 653, 601, 602, 32, 654, 655, 656, 23, 658, 659, 660, 23, 662, 664, 6, 23, 666, 667, 668, 23, 670, 671, 672, 23, 674, 675, 676, 23, 678, 679, 680, 26, 682, 683, 684, 23, 688, 689, 34, 691, 43, 692, 52, 25, 693, 55, 25, 807, 808, 809, 34, 811, 812, 34, 815, 817, 7, 34, 820, 821, 822, 34, 824, 825, 826, 34, 828, 830, 8, 34, 832, 833, 834, 34, 837, 838, 839, 34, 841, 843, 9, 34, 845, 846, 847, 34, 849, 850, 851, 34, 853, 854, 855, 34, 857, 858, 859, 34, 861, 862, 863, 34, 865, 866, 867, 34, 869, 871, 10, 34, 874, 875, 876, 34, 878, 879, 880, 34, 882, 883, 884, 34, 887, 888, 889, 34, 892, 893, 894, 34, 896, 897, 898, 34, 900, 901, 902, 34, 904, 906, 11, 34, 908, 910, 12, 34, 912, 545, 25, 913, 915, 13, 34, 917, 919, 14, 34, 921, 923, 15, 34, 925, 927, 16, 34, 929, 931, 17, 34, 933, 935, 18, 34, 937, 939, 19, 34, 941, 943, 20, 34, 945, 946, 947, 34, 949, 951, 21, 34, 953, 954, 955, 34, 958, 959, 960, 34, 962, 963, 964, 34, 966, 967, 968, 34, 970, 971, 972, 34, 974, 975, 976, 34, 978, 979, 980, 34] (by decide +kernel) (by decide +kernel) w (List.mem_flatMap.mpr ⟨q, hq, hw⟩)
theorem mLk_name : ∀ q ∈ mLk, q.2.2.1 ≤ 4 → q.2.2.2 < 122 ∧ ((q.2.2.1 = 2 ∨ q.2.2.1 = 4) → (yn q.2.2.2).name = "<init>" ∧ mrt q.2.2.2 = none) := by decide +kernel
theorem mLk_own : ∀ q ∈ mLk, q.2.2.1 = 0 → ow q.2.2.2 < 11 := by decide +kernel
theorem nestL_in : ∀ w ∈ nestL, w ∈ lw_tbl := lw_inP [80, 104, 134, 161, 613] (by decide +kernel)
theorem mLk_nest : ∀ q ∈ mLk, q.2.2.1 = 3 ∨ q.2.2.1 = 4 → Cond.methodLinkNest (RN q.1) q.2.1 (yn q.2.2.2) "TideMill" ∈ nestL := by decide +kernel
theorem yn_ok : ∀ k, k < 122 → plainName (yn k).cls = true ∧ (yn k).cls ≠ "java/lang/invoke/MethodHandle" ∧ (yn k).cls ≠ "java/lang/invoke/VarHandle" ∧ (parseMethodDescriptor (yn k).desc).map (fun d => d.parameters.length) = some (na k) ∧ mx k ≤ 20 ∧ (yn k).cls = RN (ow k) := by decide +kernel
theorem cL_ok : ∀ q ∈ cL, Cond.constant (RN q.1) q.2.1 q.2.2 ∈ lw_good := fun q hq => lw_goodP (ws := cL.map (fun q => Cond.constant (RN q.1) q.2.1 q.2.2)) [418, 644, 645, 646] (by decide +kernel) (by decide +kernel) _ (List.mem_map.mpr ⟨q, hq, rfl⟩)
theorem cJ_ok : ∀ q ∈ cJ, Cond.constantLong (RN q.1) q.2.1 q.2.2 ∈ lw_good := fun q hq => lw_goodP (ws := cJ.map (fun q => Cond.constantLong (RN q.1) q.2.1 q.2.2)) [814, 819, 836, 873, 886, 891, 957] (by decide +kernel) (by decide +kernel) _ (List.mem_map.mpr ⟨q, hq, rfl⟩)
def nCond (q : Nat × Nat × Nat) : List Cond := [Cond.classLink (RN q.1) q.2.1 (RN q.2.2), Cond.instantiable (RN q.2.2) (nfN q.2.2), Cond.initialized (RN q.2.2)]
theorem nL_ok1 : ∀ q ∈ nL, q.2.2 < 11 := by decide +kernel
theorem nL_ok : ∀ q ∈ nL, ∀ w ∈ nCond q, w ∈ lw_good := fun q hq w hw => lw_goodP (ws := nL.flatMap nCond) [37, 38, 23, 45, 46, 24, 67, 68, 26, 73, 79, 27, 75, 103, 28, 77, 124, 29, 129, 133, 30, 131, 160, 31, 289, 290, 32, 319, 320, 33, 327, 290, 32, 686, 687, 34] (by decide +kernel) (by decide +kernel) w (List.mem_flatMap.mpr ⟨q, hq, hw⟩)
theorem arr_ok : ∀ w ∈ [Cond.arrayClass .int, Cond.arrayClass .long], w ∈ lw_good := lw_goodP [66, 806] (by decide +kernel) (by decide +kernel)
def aoL : List Nat := [3, 0, 2, 6, 4]
theorem aoL_in : ∀ k ∈ aoL, Cond.arrayOver (.object (RN k)) ∈ lw_tbl := fun k hk => lw_inP (ws := aoL.map (fun k => Cond.arrayOver (.object (RN k)))) [74, 76, 78, 130, 132] (by decide +kernel) _ (List.mem_map.mpr ⟨k, hk, rfl⟩)
theorem ao2_in : ∀ w ∈ [Cond.arrayOver (.array .int)], w ∈ lw_tbl := lw_inP [326] (by decide +kernel)
theorem cl2_in : ∀ w ∈ [Cond.classLink (RN 5) 9 "[[I"], w ∈ lw_good := lw_goodP [325] (by decide +kernel) (by decide +kernel)
def mCode (k : Nat) : Cond := .code (yn k) (cd k) (mx k) (mrt k)
set_option maxRecDepth 100000 in
theorem mCode_0 : lw_tbl[106]? = some (mCode 0) := rfl
set_option maxRecDepth 100000 in
theorem mCode_1 : lw_tbl[293]? = some (mCode 1) := rfl
set_option maxRecDepth 100000 in
theorem mCode_2 : lw_tbl[534]? = some (mCode 2) := rfl
set_option maxRecDepth 100000 in
theorem mCode_3 : lw_tbl[538]? = some (mCode 3) := rfl
set_option maxRecDepth 100000 in
theorem mCode_4 : lw_tbl[554]? = some (mCode 4) := rfl
set_option maxRecDepth 100000 in
theorem mCode_5 : lw_tbl[559]? = some (mCode 5) := rfl
set_option maxRecDepth 100000 in
theorem mCode_6 : lw_tbl[564]? = some (mCode 6) := rfl
set_option maxRecDepth 100000 in
theorem mCode_7 : lw_tbl[568]? = some (mCode 7) := rfl
set_option maxRecDepth 100000 in
theorem mCode_8 : lw_tbl[586]? = some (mCode 8) := rfl
set_option maxRecDepth 100000 in
theorem mCode_9 : lw_tbl[603]? = some (mCode 9) := rfl
set_option maxRecDepth 100000 in
theorem mCode_10 : lw_tbl[599]? = some (mCode 10) := rfl
set_option maxRecDepth 100000 in
theorem mCode_11 : lw_tbl[127]? = some (mCode 11) := rfl
set_option maxRecDepth 100000 in
theorem mCode_12 : lw_tbl[502]? = some (mCode 12) := rfl
set_option maxRecDepth 100000 in
theorem mCode_13 : lw_tbl[607]? = some (mCode 13) := rfl
set_option maxRecDepth 100000 in
theorem mCode_14 : lw_tbl[612]? = some (mCode 14) := rfl
set_option maxRecDepth 100000 in
theorem mCode_15 : lw_tbl[82]? = some (mCode 15) := rfl
set_option maxRecDepth 100000 in
theorem mCode_16 : lw_tbl[469]? = some (mCode 16) := rfl
set_option maxRecDepth 100000 in
theorem mCode_17 : lw_tbl[453]? = some (mCode 17) := rfl
set_option maxRecDepth 100000 in
theorem mCode_18 : lw_tbl[542]? = some (mCode 18) := rfl
set_option maxRecDepth 100000 in
theorem mCode_19 : lw_tbl[550]? = some (mCode 19) := rfl
set_option maxRecDepth 100000 in
theorem mCode_20 : lw_tbl[163]? = some (mCode 20) := rfl
set_option maxRecDepth 100000 in
theorem mCode_21 : lw_tbl[323]? = some (mCode 21) := rfl
set_option maxRecDepth 100000 in
theorem mCode_22 : lw_tbl[632]? = some (mCode 22) := rfl
set_option maxRecDepth 100000 in
theorem mCode_23 : lw_tbl[453]? = some (mCode 23) := rfl
set_option maxRecDepth 100000 in
theorem mCode_24 : lw_tbl[453]? = some (mCode 24) := rfl
set_option maxRecDepth 100000 in
theorem mCode_25 : lw_tbl[650]? = some (mCode 25) := rfl
set_option maxRecDepth 100000 in
theorem mCode_26 : lw_tbl[640]? = some (mCode 26) := rfl
set_option maxRecDepth 100000 in
theorem mCode_27 : lw_tbl[136]? = some (mCode 27) := rfl
set_option maxRecDepth 100000 in
theorem mCode_28 : lw_tbl[577]? = some (mCode 28) := rfl
set_option maxRecDepth 100000 in
theorem mCode_29 : lw_tbl[581]? = some (mCode 29) := rfl
set_option maxRecDepth 100000 in
theorem mCode_30 : lw_tbl[49]? = some (mCode 30) := rfl
set_option maxRecDepth 100000 in
theorem mCode_31 : lw_tbl[430]? = some (mCode 31) := rfl
set_option maxRecDepth 100000 in
theorem mCode_32 : lw_tbl[71]? = some (mCode 32) := rfl
set_option maxRecDepth 100000 in
theorem mCode_33 : lw_tbl[490]? = some (mCode 33) := rfl
set_option maxRecDepth 100000 in
theorem mCode_34 : lw_tbl[473]? = some (mCode 34) := rfl
set_option maxRecDepth 100000 in
theorem mCode_35 : lw_tbl[681]? = some (mCode 35) := rfl
set_option maxRecDepth 100000 in
theorem mCode_36 : lw_tbl[572]? = some (mCode 36) := rfl
set_option maxRecDepth 100000 in
theorem mCode_37 : lw_tbl[41]? = some (mCode 37) := rfl
set_option maxRecDepth 100000 in
theorem mCode_38 : lw_tbl[410]? = some (mCode 38) := rfl
set_option maxRecDepth 100000 in
theorem mCode_39 : lw_tbl[422]? = some (mCode 39) := rfl
set_option maxRecDepth 100000 in
theorem mCode_40 : lw_tbl[426]? = some (mCode 40) := rfl
set_option maxRecDepth 100000 in
theorem mCode_41 : lw_tbl[434]? = some (mCode 41) := rfl
set_option maxRecDepth 100000 in
theorem mCode_42 : lw_tbl[441]? = some (mCode 42) := rfl
set_option maxRecDepth 100000 in
theorem mCode_43 : lw_tbl[449]? = some (mCode 43) := rfl
set_option maxRecDepth 100000 in
theorem mCode_44 : lw_tbl[457]? = some (mCode 44) := rfl
set_option maxRecDepth 100000 in
theorem mCode_45 : lw_tbl[461]? = some (mCode 45) := rfl
set_option maxRecDepth 100000 in
theorem mCode_46 : lw_tbl[465]? = some (mCode 46) := rfl
set_option maxRecDepth 100000 in
theorem mCode_47 : lw_tbl[477]? = some (mCode 47) := rfl
set_option maxRecDepth 100000 in
theorem mCode_48 : lw_tbl[494]? = some (mCode 48) := rfl
set_option maxRecDepth 100000 in
theorem mCode_49 : lw_tbl[506]? = some (mCode 49) := rfl
set_option maxRecDepth 100000 in
theorem mCode_50 : lw_tbl[510]? = some (mCode 50) := rfl
set_option maxRecDepth 100000 in
theorem mCode_51 : lw_tbl[514]? = some (mCode 51) := rfl
set_option maxRecDepth 100000 in
theorem mCode_52 : lw_tbl[518]? = some (mCode 52) := rfl
set_option maxRecDepth 100000 in
theorem mCode_53 : lw_tbl[522]? = some (mCode 53) := rfl
set_option maxRecDepth 100000 in
theorem mCode_54 : lw_tbl[526]? = some (mCode 54) := rfl
set_option maxRecDepth 100000 in
theorem mCode_55 : lw_tbl[530]? = some (mCode 55) := rfl
set_option maxRecDepth 100000 in
theorem mCode_56 : lw_tbl[617]? = some (mCode 56) := rfl
set_option maxRecDepth 100000 in
theorem mCode_57 : lw_tbl[628]? = some (mCode 57) := rfl
set_option maxRecDepth 100000 in
theorem mCode_58 : lw_tbl[657]? = some (mCode 58) := rfl
set_option maxRecDepth 100000 in
theorem mCode_59 : lw_tbl[661]? = some (mCode 59) := rfl
set_option maxRecDepth 100000 in
theorem mCode_60 : lw_tbl[669]? = some (mCode 60) := rfl
set_option maxRecDepth 100000 in
theorem mCode_61 : lw_tbl[673]? = some (mCode 61) := rfl
set_option maxRecDepth 100000 in
theorem mCode_62 : lw_tbl[677]? = some (mCode 62) := rfl
set_option maxRecDepth 100000 in
theorem mCode_63 : lw_tbl[685]? = some (mCode 63) := rfl
set_option maxRecDepth 100000 in
theorem mCode_64 : lw_tbl[417]? = some (mCode 64) := rfl
set_option maxRecDepth 100000 in
theorem mCode_65 : lw_tbl[413]? = some (mCode 65) := rfl
set_option maxRecDepth 100000 in
theorem mCode_66 : lw_tbl[437]? = some (mCode 66) := rfl
set_option maxRecDepth 100000 in
theorem mCode_67 : lw_tbl[480]? = some (mCode 67) := rfl
set_option maxRecDepth 100000 in
theorem mCode_68 : lw_tbl[486]? = some (mCode 68) := rfl
set_option maxRecDepth 100000 in
theorem mCode_69 : lw_tbl[483]? = some (mCode 69) := rfl
set_option maxRecDepth 100000 in
theorem mCode_70 : lw_tbl[445]? = some (mCode 70) := rfl
set_option maxRecDepth 100000 in
theorem mCode_71 : lw_tbl[498]? = some (mCode 71) := rfl
set_option maxRecDepth 100000 in
theorem mCode_72 : lw_tbl[665]? = some (mCode 72) := rfl
set_option maxRecDepth 100000 in
theorem mCode_73 : lw_tbl[591]? = some (mCode 73) := rfl
set_option maxRecDepth 100000 in
theorem mCode_74 : lw_tbl[595]? = some (mCode 74) := rfl
set_option maxRecDepth 100000 in
theorem mCode_75 : lw_tbl[621]? = some (mCode 75) := rfl
set_option maxRecDepth 100000 in
theorem mCode_76 : lw_tbl[636]? = some (mCode 76) := rfl
set_option maxRecDepth 100000 in
theorem mCode_77 : lw_tbl[453]? = some (mCode 77) := rfl
set_option maxRecDepth 100000 in
theorem mCode_78 : lw_tbl[690]? = some (mCode 78) := rfl
set_option maxRecDepth 100000 in
theorem mCode_79 : lw_tbl[818]? = some (mCode 79) := rfl
set_option maxRecDepth 100000 in
theorem mCode_80 : lw_tbl[813]? = some (mCode 80) := rfl
set_option maxRecDepth 100000 in
theorem mCode_81 : lw_tbl[844]? = some (mCode 81) := rfl
set_option maxRecDepth 100000 in
theorem mCode_82 : lw_tbl[872]? = some (mCode 82) := rfl
set_option maxRecDepth 100000 in
theorem mCode_83 : lw_tbl[810]? = some (mCode 83) := rfl
set_option maxRecDepth 100000 in
theorem mCode_84 : lw_tbl[823]? = some (mCode 84) := rfl
set_option maxRecDepth 100000 in
theorem mCode_85 : lw_tbl[831]? = some (mCode 85) := rfl
set_option maxRecDepth 100000 in
theorem mCode_86 : lw_tbl[827]? = some (mCode 86) := rfl
set_option maxRecDepth 100000 in
theorem mCode_87 : lw_tbl[835]? = some (mCode 87) := rfl
set_option maxRecDepth 100000 in
theorem mCode_88 : lw_tbl[840]? = some (mCode 88) := rfl
set_option maxRecDepth 100000 in
theorem mCode_89 : lw_tbl[848]? = some (mCode 89) := rfl
set_option maxRecDepth 100000 in
theorem mCode_90 : lw_tbl[852]? = some (mCode 90) := rfl
set_option maxRecDepth 100000 in
theorem mCode_91 : lw_tbl[856]? = some (mCode 91) := rfl
set_option maxRecDepth 100000 in
theorem mCode_92 : lw_tbl[860]? = some (mCode 92) := rfl
set_option maxRecDepth 100000 in
theorem mCode_93 : lw_tbl[864]? = some (mCode 93) := rfl
set_option maxRecDepth 100000 in
theorem mCode_94 : lw_tbl[868]? = some (mCode 94) := rfl
set_option maxRecDepth 100000 in
theorem mCode_95 : lw_tbl[877]? = some (mCode 95) := rfl
set_option maxRecDepth 100000 in
theorem mCode_96 : lw_tbl[881]? = some (mCode 96) := rfl
set_option maxRecDepth 100000 in
theorem mCode_97 : lw_tbl[885]? = some (mCode 97) := rfl
set_option maxRecDepth 100000 in
theorem mCode_98 : lw_tbl[890]? = some (mCode 98) := rfl
set_option maxRecDepth 100000 in
theorem mCode_99 : lw_tbl[895]? = some (mCode 99) := rfl
set_option maxRecDepth 100000 in
theorem mCode_100 : lw_tbl[899]? = some (mCode 100) := rfl
set_option maxRecDepth 100000 in
theorem mCode_101 : lw_tbl[916]? = some (mCode 101) := rfl
set_option maxRecDepth 100000 in
theorem mCode_102 : lw_tbl[911]? = some (mCode 102) := rfl
set_option maxRecDepth 100000 in
theorem mCode_103 : lw_tbl[920]? = some (mCode 103) := rfl
set_option maxRecDepth 100000 in
theorem mCode_104 : lw_tbl[932]? = some (mCode 104) := rfl
set_option maxRecDepth 100000 in
theorem mCode_105 : lw_tbl[924]? = some (mCode 105) := rfl
set_option maxRecDepth 100000 in
theorem mCode_106 : lw_tbl[928]? = some (mCode 106) := rfl
set_option maxRecDepth 100000 in
theorem mCode_107 : lw_tbl[936]? = some (mCode 107) := rfl
set_option maxRecDepth 100000 in
theorem mCode_108 : lw_tbl[940]? = some (mCode 108) := rfl
set_option maxRecDepth 100000 in
theorem mCode_109 : lw_tbl[944]? = some (mCode 109) := rfl
set_option maxRecDepth 100000 in
theorem mCode_110 : lw_tbl[907]? = some (mCode 110) := rfl
set_option maxRecDepth 100000 in
theorem mCode_111 : lw_tbl[952]? = some (mCode 111) := rfl
set_option maxRecDepth 100000 in
theorem mCode_112 : lw_tbl[903]? = some (mCode 112) := rfl
set_option maxRecDepth 100000 in
theorem mCode_113 : lw_tbl[948]? = some (mCode 113) := rfl
set_option maxRecDepth 100000 in
theorem mCode_114 : lw_tbl[956]? = some (mCode 114) := rfl
set_option maxRecDepth 100000 in
theorem mCode_115 : lw_tbl[961]? = some (mCode 115) := rfl
set_option maxRecDepth 100000 in
theorem mCode_116 : lw_tbl[965]? = some (mCode 116) := rfl
set_option maxRecDepth 100000 in
theorem mCode_117 : lw_tbl[969]? = some (mCode 117) := rfl
set_option maxRecDepth 100000 in
theorem mCode_118 : lw_tbl[973]? = some (mCode 118) := rfl
set_option maxRecDepth 100000 in
theorem mCode_119 : lw_tbl[977]? = some (mCode 119) := rfl
set_option maxRecDepth 100000 in
theorem mCode_120 : lw_tbl[981]? = some (mCode 120) := rfl
set_option maxRecDepth 100000 in
theorem mCode_121 : lw_tbl[643]? = some (mCode 121) := rfl
theorem mCode_in : ∀ k, k < 122 → mCode k ∈ lw_good := by
  intro k hk
  refine List.mem_filter.mpr ⟨?_, rfl⟩
  match k, hk with
  | 0, _ => exact List.mem_of_getElem? mCode_0
  | 1, _ => exact List.mem_of_getElem? mCode_1
  | 2, _ => exact List.mem_of_getElem? mCode_2
  | 3, _ => exact List.mem_of_getElem? mCode_3
  | 4, _ => exact List.mem_of_getElem? mCode_4
  | 5, _ => exact List.mem_of_getElem? mCode_5
  | 6, _ => exact List.mem_of_getElem? mCode_6
  | 7, _ => exact List.mem_of_getElem? mCode_7
  | 8, _ => exact List.mem_of_getElem? mCode_8
  | 9, _ => exact List.mem_of_getElem? mCode_9
  | 10, _ => exact List.mem_of_getElem? mCode_10
  | 11, _ => exact List.mem_of_getElem? mCode_11
  | 12, _ => exact List.mem_of_getElem? mCode_12
  | 13, _ => exact List.mem_of_getElem? mCode_13
  | 14, _ => exact List.mem_of_getElem? mCode_14
  | 15, _ => exact List.mem_of_getElem? mCode_15
  | 16, _ => exact List.mem_of_getElem? mCode_16
  | 17, _ => exact List.mem_of_getElem? mCode_17
  | 18, _ => exact List.mem_of_getElem? mCode_18
  | 19, _ => exact List.mem_of_getElem? mCode_19
  | 20, _ => exact List.mem_of_getElem? mCode_20
  | 21, _ => exact List.mem_of_getElem? mCode_21
  | 22, _ => exact List.mem_of_getElem? mCode_22
  | 23, _ => exact List.mem_of_getElem? mCode_23
  | 24, _ => exact List.mem_of_getElem? mCode_24
  | 25, _ => exact List.mem_of_getElem? mCode_25
  | 26, _ => exact List.mem_of_getElem? mCode_26
  | 27, _ => exact List.mem_of_getElem? mCode_27
  | 28, _ => exact List.mem_of_getElem? mCode_28
  | 29, _ => exact List.mem_of_getElem? mCode_29
  | 30, _ => exact List.mem_of_getElem? mCode_30
  | 31, _ => exact List.mem_of_getElem? mCode_31
  | 32, _ => exact List.mem_of_getElem? mCode_32
  | 33, _ => exact List.mem_of_getElem? mCode_33
  | 34, _ => exact List.mem_of_getElem? mCode_34
  | 35, _ => exact List.mem_of_getElem? mCode_35
  | 36, _ => exact List.mem_of_getElem? mCode_36
  | 37, _ => exact List.mem_of_getElem? mCode_37
  | 38, _ => exact List.mem_of_getElem? mCode_38
  | 39, _ => exact List.mem_of_getElem? mCode_39
  | 40, _ => exact List.mem_of_getElem? mCode_40
  | 41, _ => exact List.mem_of_getElem? mCode_41
  | 42, _ => exact List.mem_of_getElem? mCode_42
  | 43, _ => exact List.mem_of_getElem? mCode_43
  | 44, _ => exact List.mem_of_getElem? mCode_44
  | 45, _ => exact List.mem_of_getElem? mCode_45
  | 46, _ => exact List.mem_of_getElem? mCode_46
  | 47, _ => exact List.mem_of_getElem? mCode_47
  | 48, _ => exact List.mem_of_getElem? mCode_48
  | 49, _ => exact List.mem_of_getElem? mCode_49
  | 50, _ => exact List.mem_of_getElem? mCode_50
  | 51, _ => exact List.mem_of_getElem? mCode_51
  | 52, _ => exact List.mem_of_getElem? mCode_52
  | 53, _ => exact List.mem_of_getElem? mCode_53
  | 54, _ => exact List.mem_of_getElem? mCode_54
  | 55, _ => exact List.mem_of_getElem? mCode_55
  | 56, _ => exact List.mem_of_getElem? mCode_56
  | 57, _ => exact List.mem_of_getElem? mCode_57
  | 58, _ => exact List.mem_of_getElem? mCode_58
  | 59, _ => exact List.mem_of_getElem? mCode_59
  | 60, _ => exact List.mem_of_getElem? mCode_60
  | 61, _ => exact List.mem_of_getElem? mCode_61
  | 62, _ => exact List.mem_of_getElem? mCode_62
  | 63, _ => exact List.mem_of_getElem? mCode_63
  | 64, _ => exact List.mem_of_getElem? mCode_64
  | 65, _ => exact List.mem_of_getElem? mCode_65
  | 66, _ => exact List.mem_of_getElem? mCode_66
  | 67, _ => exact List.mem_of_getElem? mCode_67
  | 68, _ => exact List.mem_of_getElem? mCode_68
  | 69, _ => exact List.mem_of_getElem? mCode_69
  | 70, _ => exact List.mem_of_getElem? mCode_70
  | 71, _ => exact List.mem_of_getElem? mCode_71
  | 72, _ => exact List.mem_of_getElem? mCode_72
  | 73, _ => exact List.mem_of_getElem? mCode_73
  | 74, _ => exact List.mem_of_getElem? mCode_74
  | 75, _ => exact List.mem_of_getElem? mCode_75
  | 76, _ => exact List.mem_of_getElem? mCode_76
  | 77, _ => exact List.mem_of_getElem? mCode_77
  | 78, _ => exact List.mem_of_getElem? mCode_78
  | 79, _ => exact List.mem_of_getElem? mCode_79
  | 80, _ => exact List.mem_of_getElem? mCode_80
  | 81, _ => exact List.mem_of_getElem? mCode_81
  | 82, _ => exact List.mem_of_getElem? mCode_82
  | 83, _ => exact List.mem_of_getElem? mCode_83
  | 84, _ => exact List.mem_of_getElem? mCode_84
  | 85, _ => exact List.mem_of_getElem? mCode_85
  | 86, _ => exact List.mem_of_getElem? mCode_86
  | 87, _ => exact List.mem_of_getElem? mCode_87
  | 88, _ => exact List.mem_of_getElem? mCode_88
  | 89, _ => exact List.mem_of_getElem? mCode_89
  | 90, _ => exact List.mem_of_getElem? mCode_90
  | 91, _ => exact List.mem_of_getElem? mCode_91
  | 92, _ => exact List.mem_of_getElem? mCode_92
  | 93, _ => exact List.mem_of_getElem? mCode_93
  | 94, _ => exact List.mem_of_getElem? mCode_94
  | 95, _ => exact List.mem_of_getElem? mCode_95
  | 96, _ => exact List.mem_of_getElem? mCode_96
  | 97, _ => exact List.mem_of_getElem? mCode_97
  | 98, _ => exact List.mem_of_getElem? mCode_98
  | 99, _ => exact List.mem_of_getElem? mCode_99
  | 100, _ => exact List.mem_of_getElem? mCode_100
  | 101, _ => exact List.mem_of_getElem? mCode_101
  | 102, _ => exact List.mem_of_getElem? mCode_102
  | 103, _ => exact List.mem_of_getElem? mCode_103
  | 104, _ => exact List.mem_of_getElem? mCode_104
  | 105, _ => exact List.mem_of_getElem? mCode_105
  | 106, _ => exact List.mem_of_getElem? mCode_106
  | 107, _ => exact List.mem_of_getElem? mCode_107
  | 108, _ => exact List.mem_of_getElem? mCode_108
  | 109, _ => exact List.mem_of_getElem? mCode_109
  | 110, _ => exact List.mem_of_getElem? mCode_110
  | 111, _ => exact List.mem_of_getElem? mCode_111
  | 112, _ => exact List.mem_of_getElem? mCode_112
  | 113, _ => exact List.mem_of_getElem? mCode_113
  | 114, _ => exact List.mem_of_getElem? mCode_114
  | 115, _ => exact List.mem_of_getElem? mCode_115
  | 116, _ => exact List.mem_of_getElem? mCode_116
  | 117, _ => exact List.mem_of_getElem? mCode_117
  | 118, _ => exact List.mem_of_getElem? mCode_118
  | 119, _ => exact List.mem_of_getElem? mCode_119
  | 120, _ => exact List.mem_of_getElem? mCode_120
  | 121, _ => exact List.mem_of_getElem? mCode_121
  | k + 122, h => exact absurd h (by omega)
theorem mObj_in : Cond.code Lib.objectInit ⟨#[0xb1]⟩ 1 none ∈ lw_good := List.mem_filter.mpr ⟨List.mem_of_getElem? (i := 44) (by decide +kernel), rfl⟩
theorem mMath_max : Cond.code Lib.Math.max.name Lib.Math.max.code 2 (some .int) ∈ lw_good := List.mem_filter.mpr ⟨List.mem_of_getElem? (i := 56) (by decide +kernel), rfl⟩
theorem mMath_min : Cond.code Lib.Math.min.name Lib.Math.min.code 2 (some .int) ∈ lw_good := List.mem_filter.mpr ⟨List.mem_of_getElem? (i := 546) (by decide +kernel), rfl⟩
theorem mMath_abs : Cond.code Lib.Math.abs.name Lib.Math.abs.code 1 (some .int) ∈ lw_good := List.mem_filter.mpr ⟨List.mem_of_getElem? (i := 53) (by decide +kernel), rfl⟩
theorem tt_multi : True := by
  have := @Jvm.Free.Multi.fill
  trivial
