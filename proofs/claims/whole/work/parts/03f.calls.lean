def ax_hw (M : Nat) : Cond := match ax_hh M with
  | [] => .code (ax_y M) (ax_cd M) (ax_ml M) (ax_rt M)
  | _ :: _ => .codeWith (ax_y M) (ax_cd M) (ax_ml M) (ax_rt M) (ax_hh M)
def ax_hck (M : Nat) : Bool := (plainName (ax_y M).cls || Nat.ble 104 M) && (decide ((ax_y M).cls = ax_ow M) && (decide ((ax_y M).cls ≠ "java/lang/invoke/MethodHandle" ∧ (ax_y M).cls ≠ "java/lang/invoke/VarHandle") && (decide (ax_ml M ≤ 12) && decide (ax_ct M = true → (ax_y M).name = "<init>"))))
theorem ax_hwo_c : (List.range 108).all ax_hck = true := by decide +kernel
theorem ax_hw_good (M : Nat) : goodWord (ax_hw M) = true := by
  unfold ax_hw
  cases ax_hh M with
  | nil => rfl
  | cons q r => rfl
set_option maxRecDepth 100000 in
theorem hw_0 : lw_tbl[610]? = some (ax_hw 0) := rfl
set_option maxRecDepth 100000 in
theorem hw_1 : lw_tbl[615]? = some (ax_hw 1) := rfl
set_option maxRecDepth 100000 in
theorem hw_2 : lw_tbl[619]? = some (ax_hw 2) := rfl
set_option maxRecDepth 100000 in
theorem hw_3 : lw_tbl[623]? = some (ax_hw 3) := rfl
set_option maxRecDepth 100000 in
theorem hw_4 : lw_tbl[627]? = some (ax_hw 4) := rfl
set_option maxRecDepth 100000 in
theorem hw_5 : lw_tbl[722]? = some (ax_hw 5) := rfl
set_option maxRecDepth 100000 in
theorem hw_6 : lw_tbl[726]? = some (ax_hw 6) := rfl
set_option maxRecDepth 100000 in
theorem hw_7 : lw_tbl[729]? = some (ax_hw 7) := rfl
set_option maxRecDepth 100000 in
theorem hw_8 : lw_tbl[733]? = some (ax_hw 8) := rfl
set_option maxRecDepth 100000 in
theorem hw_9 : lw_tbl[737]? = some (ax_hw 9) := rfl
set_option maxRecDepth 100000 in
theorem hw_10 : lw_tbl[741]? = some (ax_hw 10) := rfl
set_option maxRecDepth 100000 in
theorem hw_11 : lw_tbl[745]? = some (ax_hw 11) := rfl
set_option maxRecDepth 100000 in
theorem hw_12 : lw_tbl[749]? = some (ax_hw 12) := rfl
set_option maxRecDepth 100000 in
theorem hw_13 : lw_tbl[753]? = some (ax_hw 13) := rfl
set_option maxRecDepth 100000 in
theorem hw_14 : lw_tbl[757]? = some (ax_hw 14) := rfl
set_option maxRecDepth 100000 in
theorem hw_15 : lw_tbl[761]? = some (ax_hw 15) := rfl
set_option maxRecDepth 100000 in
theorem hw_16 : lw_tbl[765]? = some (ax_hw 16) := rfl
set_option maxRecDepth 100000 in
theorem hw_17 : lw_tbl[769]? = some (ax_hw 17) := rfl
set_option maxRecDepth 100000 in
theorem hw_18 : lw_tbl[773]? = some (ax_hw 18) := rfl
set_option maxRecDepth 100000 in
theorem hw_19 : lw_tbl[777]? = some (ax_hw 19) := rfl
set_option maxRecDepth 100000 in
theorem hw_20 : lw_tbl[781]? = some (ax_hw 20) := rfl
set_option maxRecDepth 100000 in
theorem hw_21 : lw_tbl[785]? = some (ax_hw 21) := rfl
set_option maxRecDepth 100000 in
theorem hw_22 : lw_tbl[789]? = some (ax_hw 22) := rfl
set_option maxRecDepth 100000 in
theorem hw_23 : lw_tbl[793]? = some (ax_hw 23) := rfl
set_option maxRecDepth 100000 in
theorem hw_24 : lw_tbl[797]? = some (ax_hw 24) := rfl
set_option maxRecDepth 100000 in
theorem hw_25 : lw_tbl[801]? = some (ax_hw 25) := rfl
set_option maxRecDepth 100000 in
theorem hw_26 : lw_tbl[805]? = some (ax_hw 26) := rfl
set_option maxRecDepth 100000 in
theorem hw_27 : lw_tbl[809]? = some (ax_hw 27) := rfl
set_option maxRecDepth 100000 in
theorem hw_28 : lw_tbl[813]? = some (ax_hw 28) := rfl
set_option maxRecDepth 100000 in
theorem hw_29 : lw_tbl[817]? = some (ax_hw 29) := rfl
set_option maxRecDepth 100000 in
theorem hw_30 : lw_tbl[821]? = some (ax_hw 30) := rfl
set_option maxRecDepth 100000 in
theorem hw_31 : lw_tbl[825]? = some (ax_hw 31) := rfl
set_option maxRecDepth 100000 in
theorem hw_32 : lw_tbl[829]? = some (ax_hw 32) := rfl
set_option maxRecDepth 100000 in
theorem hw_33 : lw_tbl[92]? = some (ax_hw 33) := rfl
set_option maxRecDepth 100000 in
theorem hw_34 : lw_tbl[232]? = some (ax_hw 34) := rfl
set_option maxRecDepth 100000 in
theorem hw_35 : lw_tbl[241]? = some (ax_hw 35) := rfl
set_option maxRecDepth 100000 in
theorem hw_36 : lw_tbl[267]? = some (ax_hw 36) := rfl
set_option maxRecDepth 100000 in
theorem hw_37 : lw_tbl[439]? = some (ax_hw 37) := rfl
set_option maxRecDepth 100000 in
theorem hw_38 : lw_tbl[462]? = some (ax_hw 38) := rfl
set_option maxRecDepth 100000 in
theorem hw_39 : lw_tbl[508]? = some (ax_hw 39) := rfl
set_option maxRecDepth 100000 in
theorem hw_40 : lw_tbl[513]? = some (ax_hw 40) := rfl
set_option maxRecDepth 100000 in
theorem hw_41 : lw_tbl[526]? = some (ax_hw 41) := rfl
set_option maxRecDepth 100000 in
theorem hw_42 : lw_tbl[133]? = some (ax_hw 42) := rfl
set_option maxRecDepth 100000 in
theorem hw_43 : lw_tbl[140]? = some (ax_hw 43) := rfl
set_option maxRecDepth 100000 in
theorem hw_44 : lw_tbl[225]? = some (ax_hw 44) := rfl
set_option maxRecDepth 100000 in
theorem hw_45 : lw_tbl[251]? = some (ax_hw 45) := rfl
set_option maxRecDepth 100000 in
theorem hw_46 : lw_tbl[257]? = some (ax_hw 46) := rfl
set_option maxRecDepth 100000 in
theorem hw_47 : lw_tbl[263]? = some (ax_hw 47) := rfl
set_option maxRecDepth 100000 in
theorem hw_48 : lw_tbl[373]? = some (ax_hw 48) := rfl
set_option maxRecDepth 100000 in
theorem hw_49 : lw_tbl[384]? = some (ax_hw 49) := rfl
set_option maxRecDepth 100000 in
theorem hw_50 : lw_tbl[519]? = some (ax_hw 50) := rfl
set_option maxRecDepth 100000 in
theorem hw_51 : lw_tbl[130]? = some (ax_hw 51) := rfl
set_option maxRecDepth 100000 in
theorem hw_52 : lw_tbl[378]? = some (ax_hw 52) := rfl
set_option maxRecDepth 100000 in
theorem hw_53 : lw_tbl[388]? = some (ax_hw 53) := rfl
set_option maxRecDepth 100000 in
theorem hw_54 : lw_tbl[447]? = some (ax_hw 54) := rfl
set_option maxRecDepth 100000 in
theorem hw_55 : lw_tbl[161]? = some (ax_hw 55) := rfl
set_option maxRecDepth 100000 in
theorem hw_56 : lw_tbl[488]? = some (ax_hw 56) := rfl
set_option maxRecDepth 100000 in
theorem hw_57 : lw_tbl[493]? = some (ax_hw 57) := rfl
set_option maxRecDepth 100000 in
theorem hw_58 : lw_tbl[55]? = some (ax_hw 58) := rfl
set_option maxRecDepth 100000 in
theorem hw_59 : lw_tbl[415]? = some (ax_hw 59) := rfl
set_option maxRecDepth 100000 in
theorem hw_60 : lw_tbl[420]? = some (ax_hw 60) := rfl
set_option maxRecDepth 100000 in
theorem hw_61 : lw_tbl[424]? = some (ax_hw 61) := rfl
set_option maxRecDepth 100000 in
theorem hw_62 : lw_tbl[443]? = some (ax_hw 62) := rfl
set_option maxRecDepth 100000 in
theorem hw_63 : lw_tbl[466]? = some (ax_hw 63) := rfl
set_option maxRecDepth 100000 in
theorem hw_64 : lw_tbl[500]? = some (ax_hw 64) := rfl
set_option maxRecDepth 100000 in
theorem hw_65 : lw_tbl[504]? = some (ax_hw 65) := rfl
set_option maxRecDepth 100000 in
theorem hw_66 : lw_tbl[530]? = some (ax_hw 66) := rfl
set_option maxRecDepth 100000 in
theorem hw_67 : lw_tbl[76]? = some (ax_hw 67) := rfl
set_option maxRecDepth 100000 in
theorem hw_68 : lw_tbl[455]? = some (ax_hw 68) := rfl
set_option maxRecDepth 100000 in
theorem hw_69 : lw_tbl[470]? = some (ax_hw 69) := rfl
set_option maxRecDepth 100000 in
theorem hw_70 : lw_tbl[477]? = some (ax_hw 70) := rfl
set_option maxRecDepth 100000 in
theorem hw_71 : lw_tbl[117]? = some (ax_hw 71) := rfl
set_option maxRecDepth 100000 in
theorem hw_72 : lw_tbl[215]? = some (ax_hw 72) := rfl
set_option maxRecDepth 100000 in
theorem hw_73 : lw_tbl[219]? = some (ax_hw 73) := rfl
set_option maxRecDepth 100000 in
theorem hw_74 : lw_tbl[229]? = some (ax_hw 74) := rfl
set_option maxRecDepth 100000 in
theorem hw_75 : lw_tbl[245]? = some (ax_hw 75) := rfl
set_option maxRecDepth 100000 in
theorem hw_76 : lw_tbl[586]? = some (ax_hw 76) := rfl
set_option maxRecDepth 100000 in
theorem hw_77 : lw_tbl[47]? = some (ax_hw 77) := rfl
set_option maxRecDepth 100000 in
theorem hw_78 : lw_tbl[211]? = some (ax_hw 78) := rfl
set_option maxRecDepth 100000 in
theorem hw_79 : lw_tbl[271]? = some (ax_hw 79) := rfl
set_option maxRecDepth 100000 in
theorem hw_80 : lw_tbl[276]? = some (ax_hw 80) := rfl
set_option maxRecDepth 100000 in
theorem hw_81 : lw_tbl[283]? = some (ax_hw 81) := rfl
set_option maxRecDepth 100000 in
theorem hw_82 : lw_tbl[287]? = some (ax_hw 82) := rfl
set_option maxRecDepth 100000 in
theorem hw_83 : lw_tbl[299]? = some (ax_hw 83) := rfl
set_option maxRecDepth 100000 in
theorem hw_84 : lw_tbl[411]? = some (ax_hw 84) := rfl
set_option maxRecDepth 100000 in
theorem hw_85 : lw_tbl[431]? = some (ax_hw 85) := rfl
set_option maxRecDepth 100000 in
theorem hw_86 : lw_tbl[435]? = some (ax_hw 86) := rfl
set_option maxRecDepth 100000 in
theorem hw_87 : lw_tbl[451]? = some (ax_hw 87) := rfl
set_option maxRecDepth 100000 in
theorem hw_88 : lw_tbl[538]? = some (ax_hw 88) := rfl
set_option maxRecDepth 100000 in
theorem hw_89 : lw_tbl[546]? = some (ax_hw 89) := rfl
set_option maxRecDepth 100000 in
theorem hw_90 : lw_tbl[554]? = some (ax_hw 90) := rfl
set_option maxRecDepth 100000 in
theorem hw_91 : lw_tbl[566]? = some (ax_hw 91) := rfl
set_option maxRecDepth 100000 in
theorem hw_92 : lw_tbl[593]? = some (ax_hw 92) := rfl
set_option maxRecDepth 100000 in
theorem hw_93 : lw_tbl[601]? = some (ax_hw 93) := rfl
set_option maxRecDepth 100000 in
theorem hw_94 : lw_tbl[290]? = some (ax_hw 94) := rfl
set_option maxRecDepth 100000 in
theorem hw_95 : lw_tbl[293]? = some (ax_hw 95) := rfl
set_option maxRecDepth 100000 in
theorem hw_96 : lw_tbl[407]? = some (ax_hw 96) := rfl
set_option maxRecDepth 100000 in
theorem hw_97 : lw_tbl[427]? = some (ax_hw 97) := rfl
set_option maxRecDepth 100000 in
theorem hw_98 : lw_tbl[534]? = some (ax_hw 98) := rfl
set_option maxRecDepth 100000 in
theorem hw_99 : lw_tbl[542]? = some (ax_hw 99) := rfl
set_option maxRecDepth 100000 in
theorem hw_100 : lw_tbl[550]? = some (ax_hw 100) := rfl
set_option maxRecDepth 100000 in
theorem hw_101 : lw_tbl[561]? = some (ax_hw 101) := rfl
set_option maxRecDepth 100000 in
theorem hw_102 : lw_tbl[589]? = some (ax_hw 102) := rfl
set_option maxRecDepth 100000 in
theorem hw_103 : lw_tbl[597]? = some (ax_hw 103) := rfl
set_option maxRecDepth 100000 in
theorem hw_104 : lw_tbl[125]? = some (ax_hw 104) := rfl
set_option maxRecDepth 100000 in
theorem hw_105 : lw_tbl[235]? = some (ax_hw 105) := rfl
set_option maxRecDepth 100000 in
theorem hw_106 : lw_tbl[238]? = some (ax_hw 106) := rfl
set_option maxRecDepth 100000 in
theorem hw_107 : lw_tbl[458]? = some (ax_hw 107) := rfl
theorem ax_hwp : ∀ M, M < 108 → ∃ p : Nat, lw_tbl[p]? = some (ax_hw M)
  | 0, _ => ⟨610, hw_0⟩
  | 1, _ => ⟨615, hw_1⟩
  | 2, _ => ⟨619, hw_2⟩
  | 3, _ => ⟨623, hw_3⟩
  | 4, _ => ⟨627, hw_4⟩
  | 5, _ => ⟨722, hw_5⟩
  | 6, _ => ⟨726, hw_6⟩
  | 7, _ => ⟨729, hw_7⟩
  | 8, _ => ⟨733, hw_8⟩
  | 9, _ => ⟨737, hw_9⟩
  | 10, _ => ⟨741, hw_10⟩
  | 11, _ => ⟨745, hw_11⟩
  | 12, _ => ⟨749, hw_12⟩
  | 13, _ => ⟨753, hw_13⟩
  | 14, _ => ⟨757, hw_14⟩
  | 15, _ => ⟨761, hw_15⟩
  | 16, _ => ⟨765, hw_16⟩
  | 17, _ => ⟨769, hw_17⟩
  | 18, _ => ⟨773, hw_18⟩
  | 19, _ => ⟨777, hw_19⟩
  | 20, _ => ⟨781, hw_20⟩
  | 21, _ => ⟨785, hw_21⟩
  | 22, _ => ⟨789, hw_22⟩
  | 23, _ => ⟨793, hw_23⟩
  | 24, _ => ⟨797, hw_24⟩
  | 25, _ => ⟨801, hw_25⟩
  | 26, _ => ⟨805, hw_26⟩
  | 27, _ => ⟨809, hw_27⟩
  | 28, _ => ⟨813, hw_28⟩
  | 29, _ => ⟨817, hw_29⟩
  | 30, _ => ⟨821, hw_30⟩
  | 31, _ => ⟨825, hw_31⟩
  | 32, _ => ⟨829, hw_32⟩
  | 33, _ => ⟨92, hw_33⟩
  | 34, _ => ⟨232, hw_34⟩
  | 35, _ => ⟨241, hw_35⟩
  | 36, _ => ⟨267, hw_36⟩
  | 37, _ => ⟨439, hw_37⟩
  | 38, _ => ⟨462, hw_38⟩
  | 39, _ => ⟨508, hw_39⟩
  | 40, _ => ⟨513, hw_40⟩
  | 41, _ => ⟨526, hw_41⟩
  | 42, _ => ⟨133, hw_42⟩
  | 43, _ => ⟨140, hw_43⟩
  | 44, _ => ⟨225, hw_44⟩
  | 45, _ => ⟨251, hw_45⟩
  | 46, _ => ⟨257, hw_46⟩
  | 47, _ => ⟨263, hw_47⟩
  | 48, _ => ⟨373, hw_48⟩
  | 49, _ => ⟨384, hw_49⟩
  | 50, _ => ⟨519, hw_50⟩
  | 51, _ => ⟨130, hw_51⟩
  | 52, _ => ⟨378, hw_52⟩
  | 53, _ => ⟨388, hw_53⟩
  | 54, _ => ⟨447, hw_54⟩
  | 55, _ => ⟨161, hw_55⟩
  | 56, _ => ⟨488, hw_56⟩
  | 57, _ => ⟨493, hw_57⟩
  | 58, _ => ⟨55, hw_58⟩
  | 59, _ => ⟨415, hw_59⟩
  | 60, _ => ⟨420, hw_60⟩
  | 61, _ => ⟨424, hw_61⟩
  | 62, _ => ⟨443, hw_62⟩
  | 63, _ => ⟨466, hw_63⟩
  | 64, _ => ⟨500, hw_64⟩
  | 65, _ => ⟨504, hw_65⟩
  | 66, _ => ⟨530, hw_66⟩
  | 67, _ => ⟨76, hw_67⟩
  | 68, _ => ⟨455, hw_68⟩
  | 69, _ => ⟨470, hw_69⟩
  | 70, _ => ⟨477, hw_70⟩
  | 71, _ => ⟨117, hw_71⟩
  | 72, _ => ⟨215, hw_72⟩
  | 73, _ => ⟨219, hw_73⟩
  | 74, _ => ⟨229, hw_74⟩
  | 75, _ => ⟨245, hw_75⟩
  | 76, _ => ⟨586, hw_76⟩
  | 77, _ => ⟨47, hw_77⟩
  | 78, _ => ⟨211, hw_78⟩
  | 79, _ => ⟨271, hw_79⟩
  | 80, _ => ⟨276, hw_80⟩
  | 81, _ => ⟨283, hw_81⟩
  | 82, _ => ⟨287, hw_82⟩
  | 83, _ => ⟨299, hw_83⟩
  | 84, _ => ⟨411, hw_84⟩
  | 85, _ => ⟨431, hw_85⟩
  | 86, _ => ⟨435, hw_86⟩
  | 87, _ => ⟨451, hw_87⟩
  | 88, _ => ⟨538, hw_88⟩
  | 89, _ => ⟨546, hw_89⟩
  | 90, _ => ⟨554, hw_90⟩
  | 91, _ => ⟨566, hw_91⟩
  | 92, _ => ⟨593, hw_92⟩
  | 93, _ => ⟨601, hw_93⟩
  | 94, _ => ⟨290, hw_94⟩
  | 95, _ => ⟨293, hw_95⟩
  | 96, _ => ⟨407, hw_96⟩
  | 97, _ => ⟨427, hw_97⟩
  | 98, _ => ⟨534, hw_98⟩
  | 99, _ => ⟨542, hw_99⟩
  | 100, _ => ⟨550, hw_100⟩
  | 101, _ => ⟨561, hw_101⟩
  | 102, _ => ⟨589, hw_102⟩
  | 103, _ => ⟨597, hw_103⟩
  | 104, _ => ⟨125, hw_104⟩
  | 105, _ => ⟨235, hw_105⟩
  | 106, _ => ⟨238, hw_106⟩
  | 107, _ => ⟨458, hw_107⟩
  | k + 108, h => absurd h (by omega)
theorem ax_hwo {M : Nat} (hM : M < 108) : ax_hw M ∈ ax_gd ∧ (M < 104 → plainName (ax_y M).cls = true) ∧ (ax_y M).cls = ax_ow M ∧ ((ax_y M).cls ≠ "java/lang/invoke/MethodHandle" ∧ (ax_y M).cls ≠ "java/lang/invoke/VarHandle") ∧ ax_ml M ≤ 12 ∧ (ax_ct M = true → (ax_y M).name = "<init>") := by
  obtain ⟨p, hp⟩ := ax_hwp M hM
  have h1 := List.all_eq_true.mp ax_hwo_c M (List.mem_range.mpr hM)
  unfold ax_hck at h1
  simp only [Bool.and_eq_true, decide_eq_true_eq] at h1
  refine ⟨ax_gd_mem p hp (ax_hw_good M), fun h9 => ?_, h1.2.1, h1.2.2.1, h1.2.2.2.1, h1.2.2.2.2⟩
  have h2 := h1.1
  rw [Bool.or_eq_true] at h2
  rcases h2 with h2 | h2
  · exact h2
  · exact absurd (Nat.le_of_ble_eq_true h2) (by omega)
def ax_vp : List (List (Nat × Nat × Nat × Nat × Nat × Nat)) := [[(0, 612, 614, 9, 35, 0), (0, 616, 618, 10, 35, 0), (0, 620, 622, 11, 35, 0), (0, 624, 626, 12, 35, 0), (0, 730, 732, 13, 35, 0), (0, 742, 744, 14, 35, 0), (0, 746, 748, 15, 35, 0), (0, 750, 752, 16, 35, 0), (0, 754, 756, 17, 35, 0), (0, 770, 772, 18, 35, 0), (0, 774, 776, 19, 35, 0), (0, 778, 780, 20, 35, 0), (0, 782, 784, 21, 35, 0), (0, 786, 788, 22, 35, 0), (0, 790, 792, 23, 35, 0), (0, 794, 796, 24, 35, 0)], [], [], [(1, 135, 139, 138, 32, 136), (1, 379, 383, 382, 32, 380), (0, 385, 387, 4, 33, 0)], [(1, 163, 139, 165, 32, 164), (1, 494, 383, 496, 32, 495)], [(0, 444, 445, 446, 33, 0)], [(1, 471, 250, 473, 32, 472), (0, 474, 476, 8, 28, 0), (1, 478, 256, 480, 32, 479), (0, 481, 469, 7, 28, 0), (1, 482, 262, 484, 32, 483), (0, 485, 486, 487, 34, 0), (0, 489, 376, 377, 33, 0), (0, 490, 491, 492, 34, 0)], [(0, 216, 218, 0, 30, 0), (1, 220, 224, 223, 32, 221), (0, 226, 228, 1, 30, 0), (0, 242, 244, 2, 30, 0), (1, 246, 250, 249, 32, 247), (1, 252, 256, 255, 32, 253), (1, 258, 262, 261, 32, 259), (0, 264, 265, 266, 29, 0)], [(0, 212, 213, 214, 30, 0), (1, 272, 224, 223, 32, 221), (1, 277, 224, 279, 32, 278), (1, 368, 372, 371, 32, 369), (0, 375, 376, 377, 33, 0), (0, 412, 413, 414, 27, 0), (0, 417, 418, 419, 27, 0), (0, 421, 422, 423, 27, 0), (0, 432, 434, 5, 26, 0), (0, 436, 437, 438, 29, 0), (0, 440, 441, 442, 27, 0), (0, 448, 450, 6, 26, 0), (0, 452, 453, 454, 28, 0), (0, 459, 460, 461, 29, 0), (0, 463, 464, 465, 27, 0), (2, 4, 469, 7, 28, 0), (0, 497, 498, 499, 27, 0), (0, 501, 502, 503, 27, 0), (0, 505, 506, 507, 29, 0), (0, 510, 511, 512, 29, 0), (1, 514, 518, 517, 32, 515), (1, 520, 518, 522, 32, 521), (0, 523, 524, 525, 29, 0), (0, 527, 528, 529, 27, 0), (1, 555, 372, 557, 32, 556), (0, 583, 584, 585, 30, 0), (0, 594, 486, 487, 34, 0), (1, 603, 250, 473, 32, 472), (1, 604, 256, 480, 32, 479), (1, 605, 262, 484, 32, 483)], [(0, 208, 209, 210, 26, 0), (0, 268, 269, 270, 26, 0), (0, 273, 274, 275, 26, 0), (0, 280, 281, 282, 26, 0), (0, 284, 285, 286, 26, 0), (0, 296, 297, 298, 26, 0), (0, 408, 409, 410, 26, 0), (0, 428, 429, 430, 26, 0), (0, 535, 536, 537, 26, 0), (0, 543, 544, 545, 26, 0), (0, 551, 552, 553, 26, 0), (0, 563, 564, 565, 26, 0), (0, 590, 591, 592, 26, 0), (0, 598, 599, 600, 26, 0), (0, 719, 720, 721, 35, 0), (0, 723, 724, 725, 35, 0), (0, 734, 735, 736, 35, 0), (0, 738, 739, 740, 35, 0), (0, 758, 759, 760, 35, 0), (0, 762, 763, 764, 35, 0), (0, 766, 767, 768, 35, 0), (0, 798, 799, 800, 35, 0), (0, 802, 803, 804, 35, 0), (0, 806, 807, 808, 35, 0), (0, 810, 811, 812, 35, 0), (0, 814, 815, 816, 35, 0), (0, 818, 819, 820, 35, 0), (0, 822, 823, 824, 35, 0), (0, 826, 827, 828, 35, 0)], [], []]
def ax_pp : List (List (Nat × Nat × Nat × Nat)) := [[(9, 0, 0, 0)], [(9, 0, 0, 0)], [(9, 0, 0, 0)], [(0, 131, 132, 32)], [(0, 162, 132, 32)], [(9, 0, 0, 0)], [(9, 0, 0, 0)], [(9, 0, 0, 0)], [(9, 0, 0, 0), (2, 0, 54, 27), (2, 1, 75, 28), (2, 2, 91, 29), (2, 3, 116, 30), (0, 128, 129, 33), (0, 159, 160, 34)], [(0, 45, 46, 26), (0, 608, 609, 35)], [], []]
def ax_tp : List (List (Nat × Nat × Nat)) := [[(727, 728, 35)], [(233, 234, 31), (236, 237, 31), (509, 231, 29)], [], [], [], [], [(456, 457, 41)], [(230, 231, 29), (239, 240, 29)], [(123, 124, 31)], [(288, 289, 25), (291, 292, 25), (405, 406, 25), (425, 426, 25), (532, 533, 25), (540, 541, 25), (548, 549, 25), (559, 560, 25), (587, 588, 25), (595, 596, 25)], [], []]
def ax_np1 (y : MethodName) (n : Nat) : Bool := decide ((parseMethodDescriptor y.desc).map (fun d => d.parameters.length) = some n)
def ax_sx (C : String) (y : MethodName) : MethodName := ⟨C, y.name, y.desc⟩
def ax_vl (own : String) (ix : Nat) (C : String) (y : MethodName) : Nat × Nat × Nat × Nat × Nat × Nat → Bool
  | (0, p1, p2, p3, p4, _) => decide (lw_tbl[p1]? = some (Cond.methodLink own ix y)) && (decide (lw_tbl[p2]? = some (Cond.instanceMethod y)) && (decide (lw_tbl[p3]? = some (Cond.selects C y y)) && decide (lw_tbl[p4]? = some (Cond.initialized y.cls))))
  | (1, p1, p2, p3, p4, p5) => decide (lw_tbl[p1]? = some (Cond.methodLink own ix (ax_sx C y))) && (decide (lw_tbl[p2]? = some (Cond.instanceMethod y)) && (decide (lw_tbl[p3]? = some (Cond.selects C (ax_sx C y) y)) && (decide (lw_tbl[p4]? = some (Cond.initialized y.cls)) && decide (lw_tbl[p5]? = some (Cond.sameMethod C y.cls y.name y.desc)))))
  | (2, p1, p2, p3, p4, _) => decide (ax_nw[p1]? = some (Cond.methodLinkNest own ix y "EqualityProver")) && (decide (lw_tbl[p2]? = some (Cond.instanceMethod y)) && (decide (lw_tbl[p3]? = some (Cond.selects C y y)) && decide (lw_tbl[p4]? = some (Cond.initialized y.cls))))
  | _ => false
def ax_veo (own : String) (q : (Nat × Nat × Nat × Nat) × Nat × Nat × Nat × Nat × Nat × Nat) : Bool := Nat.blt q.1.2.1 108 && ((ax_hh q.1.2.1).isEmpty && (Nat.blt q.1.2.2.1 (ax_ml q.1.2.1) && (ax_np1 (ax_y q.1.2.1) q.1.2.2.1 && (match ax_nth ax_cl q.1.2.2.2 with
  | some (C, _, _) => ax_vl own q.1.1 C (ax_y q.1.2.1) q.2
  | none => false))))
theorem vo_0 : ∀ r r2, ax_nth ax_vt 0 = some r → ax_nth ax_vp 0 = some r2 → r.length = r2.length ∧ (r.zip r2).all (ax_veo "EqualityProverModel") = true := fun r r2 h h2 => by cases h; cases h2; exact ⟨by decide +kernel, by decide +kernel⟩
theorem vo_1 : ∀ r r2, ax_nth ax_vt 1 = some r → ax_nth ax_vp 1 = some r2 → r.length = r2.length ∧ (r.zip r2).all (ax_veo "EqualityProver$InstanceList") = true := fun r r2 h h2 => by cases h; cases h2; exact ⟨by decide +kernel, by decide +kernel⟩
theorem vo_2 : ∀ r r2, ax_nth ax_vt 2 = some r → ax_nth ax_vp 2 = some r2 → r.length = r2.length ∧ (r.zip r2).all (ax_veo "EqualityProver$NumberedTable") = true := fun r r2 h h2 => by cases h; cases h2; exact ⟨by decide +kernel, by decide +kernel⟩
theorem vo_3 : ∀ r r2, ax_nth ax_vt 3 = some r → ax_nth ax_vp 3 = some r2 → r.length = r2.length ∧ (r.zip r2).all (ax_veo "EqualityProver$TermTable") = true := fun r r2 h h2 => by cases h; cases h2; exact ⟨by decide +kernel, by decide +kernel⟩
theorem vo_4 : ∀ r r2, ax_nth ax_vt 4 = some r → ax_nth ax_vp 4 = some r2 → r.length = r2.length ∧ (r.zip r2).all (ax_veo "EqualityProver$ThingTable") = true := fun r r2 h h2 => by cases h; cases h2; exact ⟨by decide +kernel, by decide +kernel⟩
theorem vo_5 : ∀ r r2, ax_nth ax_vt 5 = some r → ax_nth ax_vp 5 = some r2 → r.length = r2.length ∧ (r.zip r2).all (ax_veo "EqualityProver$Draft") = true := fun r r2 h h2 => by cases h; cases h2; exact ⟨by decide +kernel, by decide +kernel⟩
theorem vo_6 : ∀ r r2, ax_nth ax_vt 6 = some r → ax_nth ax_vp 6 = some r2 → r.length = r2.length ∧ (r.zip r2).all (ax_veo "EqualityProver$Substitution") = true := fun r r2 h h2 => by cases h; cases h2; exact ⟨by decide +kernel, by decide +kernel⟩
theorem vo_7 : ∀ r r2, ax_nth ax_vt 7 = some r → ax_nth ax_vp 7 = some r2 → r.length = r2.length ∧ (r.zip r2).all (ax_veo "EqualityProver$World") = true := fun r r2 h h2 => by cases h; cases h2; exact ⟨by decide +kernel, by decide +kernel⟩
theorem vo_8 : ∀ r r2, ax_nth ax_vt 8 = some r → ax_nth ax_vp 8 = some r2 → r.length = r2.length ∧ (r.zip r2).all (ax_veo "EqualityProver") = true := fun r r2 h h2 => by cases h; cases h2; exact ⟨by decide +kernel, by decide +kernel⟩
theorem vo_9 : ∀ r r2, ax_nth ax_vt 9 = some r → ax_nth ax_vp 9 = some r2 → r.length = r2.length ∧ (r.zip r2).all (ax_veo "EqualityProverLaw") = true := fun r r2 h h2 => by cases h; cases h2; exact ⟨by decide +kernel, by decide +kernel⟩
theorem vo_10 : ∀ r r2, ax_nth ax_vt 10 = some r → ax_nth ax_vp 10 = some r2 → r.length = r2.length ∧ (r.zip r2).all (ax_veo "java/lang/Math") = true := fun r r2 h h2 => by cases h; cases h2; exact ⟨by decide +kernel, by decide +kernel⟩
theorem vo_11 : ∀ r r2, ax_nth ax_vt 11 = some r → ax_nth ax_vp 11 = some r2 → r.length = r2.length ∧ (r.zip r2).all (ax_veo "java/util/Arrays") = true := fun r r2 h h2 => by cases h; cases h2; exact ⟨by decide +kernel, by decide +kernel⟩
theorem ax_vo : ∀ (j : Nat) (own : String) (r : List (Nat × Nat × Nat × Nat)) (r2 : List (Nat × Nat × Nat × Nat × Nat × Nat)), ax_nth ax_os j = some own → ax_nth ax_vt j = some r → ax_nth ax_vp j = some r2 → r.length = r2.length ∧ (r.zip r2).all (ax_veo own) = true
  | 0, _, r, r2, h1, h2, h3 => by cases h1; exact vo_0 r r2 h2 h3
  | 1, _, r, r2, h1, h2, h3 => by cases h1; exact vo_1 r r2 h2 h3
  | 2, _, r, r2, h1, h2, h3 => by cases h1; exact vo_2 r r2 h2 h3
  | 3, _, r, r2, h1, h2, h3 => by cases h1; exact vo_3 r r2 h2 h3
  | 4, _, r, r2, h1, h2, h3 => by cases h1; exact vo_4 r r2 h2 h3
  | 5, _, r, r2, h1, h2, h3 => by cases h1; exact vo_5 r r2 h2 h3
  | 6, _, r, r2, h1, h2, h3 => by cases h1; exact vo_6 r r2 h2 h3
  | 7, _, r, r2, h1, h2, h3 => by cases h1; exact vo_7 r r2 h2 h3
  | 8, _, r, r2, h1, h2, h3 => by cases h1; exact vo_8 r r2 h2 h3
  | 9, _, r, r2, h1, h2, h3 => by cases h1; exact vo_9 r r2 h2 h3
  | 10, _, r, r2, h1, h2, h3 => by cases h1; exact vo_10 r r2 h2 h3
  | 11, _, r, r2, h1, h2, h3 => by cases h1; exact vo_11 r r2 h2 h3
  | _ + 12, _, _, _, h1, _, _ => by cases h1
def ax_VL (own : String) (ix : Nat) (C : String) (y : MethodName) : Prop :=
  (Cond.methodLink own ix y ∈ ax_gd ∧ Cond.instanceMethod y ∈ ax_gd ∧ Cond.selects C y y ∈ ax_gd ∧ Cond.initialized y.cls ∈ ax_gd) ∨
  (Cond.methodLink own ix (ax_sx C y) ∈ ax_gd ∧ Cond.instanceMethod y ∈ ax_gd ∧ Cond.selects C (ax_sx C y) y ∈ ax_gd ∧ Cond.initialized y.cls ∈ ax_gd ∧ Cond.sameMethod C y.cls y.name y.desc ∈ ax_gd) ∨
  (Cond.methodLinkNest own ix y "EqualityProver" ∈ ax_nw ∧ Cond.instanceMethod y ∈ ax_gd ∧ Cond.selects C y y ∈ ax_gd ∧ Cond.initialized y.cls ∈ ax_gd)
theorem ax_vl_spec {own : String} {ix : Nat} {C : String} {y : MethodName} : ∀ {q : Nat × Nat × Nat × Nat × Nat × Nat}, ax_vl own ix C y q = true → ax_VL own ix C y
  | (0, p1, p2, p3, p4, p5), h => by
    simp only [ax_vl, Bool.and_eq_true, decide_eq_true_eq] at h
    exact Or.inl ⟨ax_gd_mem _ h.1 rfl, ax_gd_mem _ h.2.1 rfl, ax_gd_mem _ h.2.2.1 rfl, ax_gd_mem _ h.2.2.2 rfl⟩
  | (1, p1, p2, p3, p4, p5), h => by
    simp only [ax_vl, Bool.and_eq_true, decide_eq_true_eq] at h
    exact Or.inr (Or.inl ⟨ax_gd_mem _ h.1 rfl, ax_gd_mem _ h.2.1 rfl, ax_gd_mem _ h.2.2.1 rfl, ax_gd_mem _ h.2.2.2.1 rfl, ax_gd_mem _ h.2.2.2.2 rfl⟩)
  | (2, p1, p2, p3, p4, p5), h => by
    simp only [ax_vl, Bool.and_eq_true, decide_eq_true_eq] at h
    exact Or.inr (Or.inr ⟨List.mem_of_getElem? h.1, ax_gd_mem _ h.2.1 rfl, ax_gd_mem _ h.2.2.1 rfl, ax_gd_mem _ h.2.2.2 rfl⟩)
  | (k + 3, p1, p2, p3, p4, p5), h => by simp [ax_vl] at h
theorem ax_np1_spec {y : MethodName} {n : Nat} (h : ax_np1 y n = true) : (parseMethodDescriptor y.desc).map (fun d => d.parameters.length) = some n := of_decide_eq_true h
theorem ax_viro {M ix M' n ci : Nat} (h : ax_vir M ix = some (M', n, ci)) : M' < 108 ∧ ax_hh M' = [] ∧ n + 1 ≤ ax_ml M' ∧ (parseMethodDescriptor (ax_y M').desc).map (fun d => d.parameters.length) = some n ∧ ∃ (C : String) (T : u_T) (N : Nat), ax_cl[ci]? = some (C, T, N) ∧ ax_VL (ax_ow M) ix C (ax_y M') := by
  unfold ax_vir at h
  cases hr : ax_nth ax_vt (ax_on M) with
  | none => rw [hr] at h; cases h
  | some r =>
    rw [hr] at h
    have hl : ax_on M < 12 := ax_nth_lt hr
    obtain ⟨r2, hr2⟩ := ax_nth_of_lt (l := ax_vp) (n := ax_on M) hl
    obtain ⟨h1, h2⟩ := ax_vo _ _ r r2 (ax_own2 hl) hr hr2
    obtain ⟨y, hy⟩ := ax_zip h1 (ax_lk2_mem h)
    have h3 := List.all_eq_true.mp h2 _ hy
    unfold ax_veo at h3
    dsimp only at h3
    cases hc : ax_nth ax_cl ci with
    | none => rw [hc] at h3; simp at h3
    | some q =>
      obtain ⟨C, T, N⟩ := q
      rw [hc] at h3
      simp only [Bool.and_eq_true] at h3
      obtain ⟨g1, g2, g3, g4, g5⟩ := h3
      have g1 : M' + 1 ≤ 108 := by simpa [Nat.blt] using g1
      have g3 : n + 1 ≤ ax_ml M' := by simpa [Nat.blt] using g3
      exact ⟨g1, List.isEmpty_iff.mp g2, g3, ax_np1_spec g4, C, T, N, ax_nth_get hc, ax_vl_spec g5⟩
def ax_PL (own : String) (ix : Nat) (y : MethodName) : Prop :=
  (Cond.methodLink own ix y ∈ ax_gd ∧ Cond.instanceMethod y ∈ ax_gd ∧ Cond.initialized y.cls ∈ ax_gd) ∨
  (Cond.methodLinkNest own ix y "EqualityProver" ∈ ax_nw ∧ Cond.instanceMethod y ∈ ax_gd ∧ Cond.initialized y.cls ∈ ax_gd)
def ax_pl (own : String) (ix : Nat) (y : MethodName) : Nat × Nat × Nat × Nat → Bool
  | (0, p1, p2, p3) => decide (lw_tbl[p1]? = some (Cond.methodLink own ix y)) && (decide (lw_tbl[p2]? = some (Cond.instanceMethod y)) && decide (lw_tbl[p3]? = some (Cond.initialized y.cls)))
  | (2, p1, p2, p3) => decide (ax_nw[p1]? = some (Cond.methodLinkNest own ix y "EqualityProver")) && (decide (lw_tbl[p2]? = some (Cond.instanceMethod y)) && decide (lw_tbl[p3]? = some (Cond.initialized y.cls)))
  | _ => false
theorem ax_pl_spec {own : String} {ix : Nat} {y : MethodName} : ∀ {q : Nat × Nat × Nat × Nat}, ax_pl own ix y q = true → ax_PL own ix y
  | (0, p1, p2, p3), h => by
    simp only [ax_pl, Bool.and_eq_true, decide_eq_true_eq] at h
    exact Or.inl ⟨ax_gd_mem _ h.1 rfl, ax_gd_mem _ h.2.1 rfl, ax_gd_mem _ h.2.2 rfl⟩
  | (1, p1, p2, p3), h => by simp [ax_pl] at h
  | (2, p1, p2, p3), h => by
    simp only [ax_pl, Bool.and_eq_true, decide_eq_true_eq] at h
    exact Or.inr ⟨List.mem_of_getElem? h.1, ax_gd_mem _ h.2.1 rfl, ax_gd_mem _ h.2.2 rfl⟩
  | (k + 3, p1, p2, p3), h => by simp [ax_pl] at h
def ax_peo (own : String) (q : (Nat × Option (Nat × Nat)) × Nat × Nat × Nat × Nat) : Bool := match q.1.2 with
  | none => true
  | some (M', n) => Nat.blt M' 108 && ((ax_hh M').isEmpty && (Nat.blt n (ax_ml M') && (ax_np1 (ax_y M') n && (decide ((ax_y M').name = "<init>") && (decide (ax_rt M' = none) && ax_pl own q.1.1 (ax_y M') q.2)))))
theorem po_0 : ∀ r r2, ax_nth ax_st 0 = some r → ax_nth ax_pp 0 = some r2 → r.length = r2.length ∧ (r.zip r2).all (ax_peo "EqualityProverModel") = true := fun r r2 h h2 => by cases h; cases h2; exact ⟨by decide +kernel, by decide +kernel⟩
theorem po_1 : ∀ r r2, ax_nth ax_st 1 = some r → ax_nth ax_pp 1 = some r2 → r.length = r2.length ∧ (r.zip r2).all (ax_peo "EqualityProver$InstanceList") = true := fun r r2 h h2 => by cases h; cases h2; exact ⟨by decide +kernel, by decide +kernel⟩
theorem po_2 : ∀ r r2, ax_nth ax_st 2 = some r → ax_nth ax_pp 2 = some r2 → r.length = r2.length ∧ (r.zip r2).all (ax_peo "EqualityProver$NumberedTable") = true := fun r r2 h h2 => by cases h; cases h2; exact ⟨by decide +kernel, by decide +kernel⟩
theorem po_3 : ∀ r r2, ax_nth ax_st 3 = some r → ax_nth ax_pp 3 = some r2 → r.length = r2.length ∧ (r.zip r2).all (ax_peo "EqualityProver$TermTable") = true := fun r r2 h h2 => by cases h; cases h2; exact ⟨by decide +kernel, by decide +kernel⟩
theorem po_4 : ∀ r r2, ax_nth ax_st 4 = some r → ax_nth ax_pp 4 = some r2 → r.length = r2.length ∧ (r.zip r2).all (ax_peo "EqualityProver$ThingTable") = true := fun r r2 h h2 => by cases h; cases h2; exact ⟨by decide +kernel, by decide +kernel⟩
theorem po_5 : ∀ r r2, ax_nth ax_st 5 = some r → ax_nth ax_pp 5 = some r2 → r.length = r2.length ∧ (r.zip r2).all (ax_peo "EqualityProver$Draft") = true := fun r r2 h h2 => by cases h; cases h2; exact ⟨by decide +kernel, by decide +kernel⟩
theorem po_6 : ∀ r r2, ax_nth ax_st 6 = some r → ax_nth ax_pp 6 = some r2 → r.length = r2.length ∧ (r.zip r2).all (ax_peo "EqualityProver$Substitution") = true := fun r r2 h h2 => by cases h; cases h2; exact ⟨by decide +kernel, by decide +kernel⟩
theorem po_7 : ∀ r r2, ax_nth ax_st 7 = some r → ax_nth ax_pp 7 = some r2 → r.length = r2.length ∧ (r.zip r2).all (ax_peo "EqualityProver$World") = true := fun r r2 h h2 => by cases h; cases h2; exact ⟨by decide +kernel, by decide +kernel⟩
theorem po_8 : ∀ r r2, ax_nth ax_st 8 = some r → ax_nth ax_pp 8 = some r2 → r.length = r2.length ∧ (r.zip r2).all (ax_peo "EqualityProver") = true := fun r r2 h h2 => by cases h; cases h2; exact ⟨by decide +kernel, by decide +kernel⟩
theorem po_9 : ∀ r r2, ax_nth ax_st 9 = some r → ax_nth ax_pp 9 = some r2 → r.length = r2.length ∧ (r.zip r2).all (ax_peo "EqualityProverLaw") = true := fun r r2 h h2 => by cases h; cases h2; exact ⟨by decide +kernel, by decide +kernel⟩
theorem po_10 : ∀ r r2, ax_nth ax_st 10 = some r → ax_nth ax_pp 10 = some r2 → r.length = r2.length ∧ (r.zip r2).all (ax_peo "java/lang/Math") = true := fun r r2 h h2 => by cases h; cases h2; exact ⟨by decide +kernel, by decide +kernel⟩
theorem po_11 : ∀ r r2, ax_nth ax_st 11 = some r → ax_nth ax_pp 11 = some r2 → r.length = r2.length ∧ (r.zip r2).all (ax_peo "java/util/Arrays") = true := fun r r2 h h2 => by cases h; cases h2; exact ⟨by decide +kernel, by decide +kernel⟩
theorem ax_po : ∀ (j : Nat) (own : String) (r : List (Nat × Option (Nat × Nat))) (r2 : List (Nat × Nat × Nat × Nat)), ax_nth ax_os j = some own → ax_nth ax_st j = some r → ax_nth ax_pp j = some r2 → r.length = r2.length ∧ (r.zip r2).all (ax_peo own) = true
  | 0, _, r, r2, h1, h2, h3 => by cases h1; exact po_0 r r2 h2 h3
  | 1, _, r, r2, h1, h2, h3 => by cases h1; exact po_1 r r2 h2 h3
  | 2, _, r, r2, h1, h2, h3 => by cases h1; exact po_2 r r2 h2 h3
  | 3, _, r, r2, h1, h2, h3 => by cases h1; exact po_3 r r2 h2 h3
  | 4, _, r, r2, h1, h2, h3 => by cases h1; exact po_4 r r2 h2 h3
  | 5, _, r, r2, h1, h2, h3 => by cases h1; exact po_5 r r2 h2 h3
  | 6, _, r, r2, h1, h2, h3 => by cases h1; exact po_6 r r2 h2 h3
  | 7, _, r, r2, h1, h2, h3 => by cases h1; exact po_7 r r2 h2 h3
  | 8, _, r, r2, h1, h2, h3 => by cases h1; exact po_8 r r2 h2 h3
  | 9, _, r, r2, h1, h2, h3 => by cases h1; exact po_9 r r2 h2 h3
  | 10, _, r, r2, h1, h2, h3 => by cases h1; exact po_10 r r2 h2 h3
  | 11, _, r, r2, h1, h2, h3 => by cases h1; exact po_11 r r2 h2 h3
  | _ + 12, _, _, _, h1, _, _ => by cases h1
theorem ax_spco {M ix M' n : Nat} (h : ax_spe M ix = some (some (M', n))) : M' < 108 ∧ ax_hh M' = [] ∧ n + 1 ≤ ax_ml M' ∧ (parseMethodDescriptor (ax_y M').desc).map (fun d => d.parameters.length) = some n ∧ (ax_y M').name = "<init>" ∧ ax_rt M' = none ∧ ax_PL (ax_ow M) ix (ax_y M') := by
  unfold ax_spe at h
  cases hr : ax_nth ax_st (ax_on M) with
  | none => rw [hr] at h; cases h
  | some r =>
    rw [hr] at h
    have hl : ax_on M < 12 := ax_nth_lt hr
    obtain ⟨r2, hr2⟩ := ax_nth_of_lt (l := ax_pp) (n := ax_on M) hl
    obtain ⟨h1, h2⟩ := ax_po _ _ r r2 (ax_own2 hl) hr hr2
    obtain ⟨y, hy⟩ := ax_zip h1 (ax_lk2_mem h)
    have h3 := List.all_eq_true.mp h2 _ hy
    unfold ax_peo at h3
    dsimp only at h3
    simp only [Bool.and_eq_true, decide_eq_true_eq] at h3
    obtain ⟨g1, g2, g3, g4, g5, g6, g7⟩ := h3
    have g1 : M' + 1 ≤ 108 := by simpa [Nat.blt] using g1
    have g3 : n + 1 ≤ ax_ml M' := by simpa [Nat.blt] using g3
    exact ⟨g1, List.isEmpty_iff.mp g2, g3, ax_np1_spec g4, g5, g6, ax_pl_spec g7⟩
def ax_teo (own : String) (q : (Nat × Nat × Nat) × Nat × Nat × Nat) : Bool := Nat.blt q.1.2.1 108 && (Nat.ble q.1.2.2 (ax_ml q.1.2.1) && (ax_np1 (ax_y q.1.2.1) q.1.2.2 && (decide (lw_tbl[q.2.1]? = some (Cond.methodLink own q.1.1 (ax_y q.1.2.1))) && (decide (lw_tbl[q.2.2.1]? = some (Cond.static (ax_y q.1.2.1))) && decide (lw_tbl[q.2.2.2]? = some (Cond.initialized (ax_y q.1.2.1).cls))))))
theorem so_0 : ∀ r r2, ax_nth ax_sst 0 = some r → ax_nth ax_tp 0 = some r2 → r.length = r2.length ∧ (r.zip r2).all (ax_teo "EqualityProverModel") = true := fun r r2 h h2 => by cases h; cases h2; exact ⟨by decide +kernel, by decide +kernel⟩
theorem so_1 : ∀ r r2, ax_nth ax_sst 1 = some r → ax_nth ax_tp 1 = some r2 → r.length = r2.length ∧ (r.zip r2).all (ax_teo "EqualityProver$InstanceList") = true := fun r r2 h h2 => by cases h; cases h2; exact ⟨by decide +kernel, by decide +kernel⟩
theorem so_2 : ∀ r r2, ax_nth ax_sst 2 = some r → ax_nth ax_tp 2 = some r2 → r.length = r2.length ∧ (r.zip r2).all (ax_teo "EqualityProver$NumberedTable") = true := fun r r2 h h2 => by cases h; cases h2; exact ⟨by decide +kernel, by decide +kernel⟩
theorem so_3 : ∀ r r2, ax_nth ax_sst 3 = some r → ax_nth ax_tp 3 = some r2 → r.length = r2.length ∧ (r.zip r2).all (ax_teo "EqualityProver$TermTable") = true := fun r r2 h h2 => by cases h; cases h2; exact ⟨by decide +kernel, by decide +kernel⟩
theorem so_4 : ∀ r r2, ax_nth ax_sst 4 = some r → ax_nth ax_tp 4 = some r2 → r.length = r2.length ∧ (r.zip r2).all (ax_teo "EqualityProver$ThingTable") = true := fun r r2 h h2 => by cases h; cases h2; exact ⟨by decide +kernel, by decide +kernel⟩
theorem so_5 : ∀ r r2, ax_nth ax_sst 5 = some r → ax_nth ax_tp 5 = some r2 → r.length = r2.length ∧ (r.zip r2).all (ax_teo "EqualityProver$Draft") = true := fun r r2 h h2 => by cases h; cases h2; exact ⟨by decide +kernel, by decide +kernel⟩
theorem so_6 : ∀ r r2, ax_nth ax_sst 6 = some r → ax_nth ax_tp 6 = some r2 → r.length = r2.length ∧ (r.zip r2).all (ax_teo "EqualityProver$Substitution") = true := fun r r2 h h2 => by cases h; cases h2; exact ⟨by decide +kernel, by decide +kernel⟩
theorem so_7 : ∀ r r2, ax_nth ax_sst 7 = some r → ax_nth ax_tp 7 = some r2 → r.length = r2.length ∧ (r.zip r2).all (ax_teo "EqualityProver$World") = true := fun r r2 h h2 => by cases h; cases h2; exact ⟨by decide +kernel, by decide +kernel⟩
theorem so_8 : ∀ r r2, ax_nth ax_sst 8 = some r → ax_nth ax_tp 8 = some r2 → r.length = r2.length ∧ (r.zip r2).all (ax_teo "EqualityProver") = true := fun r r2 h h2 => by cases h; cases h2; exact ⟨by decide +kernel, by decide +kernel⟩
theorem so_9 : ∀ r r2, ax_nth ax_sst 9 = some r → ax_nth ax_tp 9 = some r2 → r.length = r2.length ∧ (r.zip r2).all (ax_teo "EqualityProverLaw") = true := fun r r2 h h2 => by cases h; cases h2; exact ⟨by decide +kernel, by decide +kernel⟩
theorem so_10 : ∀ r r2, ax_nth ax_sst 10 = some r → ax_nth ax_tp 10 = some r2 → r.length = r2.length ∧ (r.zip r2).all (ax_teo "java/lang/Math") = true := fun r r2 h h2 => by cases h; cases h2; exact ⟨by decide +kernel, by decide +kernel⟩
theorem so_11 : ∀ r r2, ax_nth ax_sst 11 = some r → ax_nth ax_tp 11 = some r2 → r.length = r2.length ∧ (r.zip r2).all (ax_teo "java/util/Arrays") = true := fun r r2 h h2 => by cases h; cases h2; exact ⟨by decide +kernel, by decide +kernel⟩
theorem ax_so : ∀ (j : Nat) (own : String) (r : List (Nat × Nat × Nat)) (r2 : List (Nat × Nat × Nat)), ax_nth ax_os j = some own → ax_nth ax_sst j = some r → ax_nth ax_tp j = some r2 → r.length = r2.length ∧ (r.zip r2).all (ax_teo own) = true
  | 0, _, r, r2, h1, h2, h3 => by cases h1; exact so_0 r r2 h2 h3
  | 1, _, r, r2, h1, h2, h3 => by cases h1; exact so_1 r r2 h2 h3
  | 2, _, r, r2, h1, h2, h3 => by cases h1; exact so_2 r r2 h2 h3
  | 3, _, r, r2, h1, h2, h3 => by cases h1; exact so_3 r r2 h2 h3
  | 4, _, r, r2, h1, h2, h3 => by cases h1; exact so_4 r r2 h2 h3
  | 5, _, r, r2, h1, h2, h3 => by cases h1; exact so_5 r r2 h2 h3
  | 6, _, r, r2, h1, h2, h3 => by cases h1; exact so_6 r r2 h2 h3
  | 7, _, r, r2, h1, h2, h3 => by cases h1; exact so_7 r r2 h2 h3
  | 8, _, r, r2, h1, h2, h3 => by cases h1; exact so_8 r r2 h2 h3
  | 9, _, r, r2, h1, h2, h3 => by cases h1; exact so_9 r r2 h2 h3
  | 10, _, r, r2, h1, h2, h3 => by cases h1; exact so_10 r r2 h2 h3
  | 11, _, r, r2, h1, h2, h3 => by cases h1; exact so_11 r r2 h2 h3
  | _ + 12, _, _, _, h1, _, _ => by cases h1
theorem ax_stao {M ix M' n : Nat} (h : ax_sta M ix = some (M', n)) : M' < 108 ∧ n ≤ ax_ml M' ∧ (parseMethodDescriptor (ax_y M').desc).map (fun d => d.parameters.length) = some n ∧ Cond.methodLink (ax_ow M) ix (ax_y M') ∈ ax_gd ∧ Cond.static (ax_y M') ∈ ax_gd ∧ Cond.initialized (ax_y M').cls ∈ ax_gd := by
  unfold ax_sta at h
  cases hr : ax_nth ax_sst (ax_on M) with
  | none => rw [hr] at h; cases h
  | some r =>
    rw [hr] at h
    have hl : ax_on M < 12 := ax_nth_lt hr
    obtain ⟨r2, hr2⟩ := ax_nth_of_lt (l := ax_tp) (n := ax_on M) hl
    obtain ⟨h1, h2⟩ := ax_so _ _ r r2 (ax_own2 hl) hr hr2
    obtain ⟨y, hy⟩ := ax_zip h1 (ax_lk2_mem h)
    have h3 := List.all_eq_true.mp h2 _ hy
    unfold ax_teo at h3
    dsimp only at h3
    simp only [Bool.and_eq_true, decide_eq_true_eq] at h3
    obtain ⟨g1, g2, g3, g4, g5, g6⟩ := h3
    have g1 : M' + 1 ≤ 108 := by simpa [Nat.blt] using g1
    exact ⟨g1, Nat.le_of_ble_eq_true g2, ax_np1_spec g3, ax_gd_mem _ g4 rfl, ax_gd_mem _ g5 rfl, ax_gd_mem _ g6 rfl⟩
