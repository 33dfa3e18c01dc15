def ax_rck (M : Nat) (q : ByteArray × List (Nat × Instr × Nat)) : Bool := match ax_rt M with
  | some .int => !(ax_bo M) && q.2.all (fun e => decide (e.2.1 ≠ .return_))
  | some .boolean => ax_bo M && q.2.all (fun e => decide (e.2.1 ≠ .return_))
  | none => q.2.all (fun e => decide (e.2.1 ≠ .ireturn))
  | _ => false
theorem rk_0 : ax_rck 0 (prog_10_method_1_code, tb_0) = true := by decide +kernel
theorem rk_1 : ax_rck 1 (prog_10_method_6_code, tb_1) = true := by decide +kernel
theorem rk_2 : ax_rck 2 (prog_10_method_5_code, tb_2) = true := by decide +kernel
theorem rk_3 : ax_rck 3 (prog_10_method_10_code, tb_3) = true := by decide +kernel
theorem rk_4 : ax_rck 4 (prog_10_method_8_code, tb_4) = true := by decide +kernel
theorem rk_5 : ax_rck 5 (prog_10_method_2_code, tb_5) = true := by decide +kernel
theorem rk_6 : ax_rck 6 (prog_10_method_7_code, tb_6) = true := by decide +kernel
theorem rk_7 : ax_rck 7 (prog_10_method_3_code, tb_7) = true := by decide +kernel
theorem rk_8 : ax_rck 8 (prog_10_method_4_code, tb_8) = true := by decide +kernel
theorem rk_9 : ax_rck 9 (prog_10_method_12_code, tb_9) = true := by decide +kernel
theorem rk_10 : ax_rck 10 (prog_10_method_15_code, tb_10) = true := by decide +kernel
theorem rk_11 : ax_rck 11 (prog_10_method_13_code, tb_11) = true := by decide +kernel
theorem rk_12 : ax_rck 12 (prog_10_method_11_code, tb_12) = true := by decide +kernel
theorem rk_13 : ax_rck 13 (prog_10_method_14_code, tb_13) = true := by decide +kernel
theorem rk_14 : ax_rck 14 (prog_10_method_9_code, tb_14) = true := by decide +kernel
theorem rk_15 : ax_rck 15 (prog_10_method_16_code, tb_15) = true := by decide +kernel
theorem rk_16 : ax_rck 16 (prog_10_method_17_code, tb_16) = true := by decide +kernel
theorem rk_17 : ax_rck 17 (prog_10_method_25_code, tb_17) = true := by decide +kernel
theorem rk_18 : ax_rck 18 (prog_10_method_24_code, tb_18) = true := by decide +kernel
theorem rk_19 : ax_rck 19 (prog_10_method_23_code, tb_19) = true := by decide +kernel
theorem rk_20 : ax_rck 20 (prog_10_method_21_code, tb_20) = true := by decide +kernel
theorem rk_21 : ax_rck 21 (prog_10_method_20_code, tb_21) = true := by decide +kernel
theorem rk_22 : ax_rck 22 (prog_10_method_19_code, tb_22) = true := by decide +kernel
theorem rk_23 : ax_rck 23 (prog_10_method_18_code, tb_23) = true := by decide +kernel
theorem rk_24 : ax_rck 24 (prog_10_method_22_code, tb_24) = true := by decide +kernel
theorem rk_25 : ax_rck 25 (prog_10_method_26_code, tb_25) = true := by decide +kernel
theorem rk_26 : ax_rck 26 (prog_10_method_27_code, tb_26) = true := by decide +kernel
theorem rk_27 : ax_rck 27 (prog_10_method_28_code, tb_27) = true := by decide +kernel
theorem rk_28 : ax_rck 28 (prog_10_method_29_code, tb_28) = true := by decide +kernel
theorem rk_29 : ax_rck 29 (prog_10_method_30_code, tb_29) = true := by decide +kernel
theorem rk_30 : ax_rck 30 (prog_10_method_31_code, tb_30) = true := by decide +kernel
theorem rk_31 : ax_rck 31 (prog_10_method_32_code, tb_31) = true := by decide +kernel
theorem rk_32 : ax_rck 32 (prog_10_method_33_code, tb_32) = true := by decide +kernel
theorem rk_33 : ax_rck 33 (prog_3_method_1_code, tb_33) = true := by decide +kernel
theorem rk_34 : ax_rck 34 (prog_3_method_3_code, tb_34) = true := by decide +kernel
theorem rk_35 : ax_rck 35 (prog_3_method_2_code, tb_35) = true := by decide +kernel
theorem rk_36 : ax_rck 36 (prog_3_method_9_code, tb_36) = true := by decide +kernel
theorem rk_37 : ax_rck 37 (prog_3_method_4_code, tb_37) = true := by decide +kernel
theorem rk_38 : ax_rck 38 (prog_3_method_6_code, tb_38) = true := by decide +kernel
theorem rk_39 : ax_rck 39 (prog_3_method_7_code, tb_39) = true := by decide +kernel
theorem rk_40 : ax_rck 40 (prog_3_method_8_code, tb_40) = true := by decide +kernel
theorem rk_41 : ax_rck 41 (prog_3_method_5_code, tb_41) = true := by decide +kernel
theorem rk_42 : ax_rck 42 (prog_4_method_1_code, tb_42) = true := by decide +kernel
theorem rk_43 : ax_rck 43 (prog_4_method_8_code, tb_43) = true := by decide +kernel
theorem rk_44 : ax_rck 44 (prog_4_method_2_code, tb_44) = true := by decide +kernel
theorem rk_45 : ax_rck 45 (prog_4_method_4_code, tb_45) = true := by decide +kernel
theorem rk_46 : ax_rck 46 (prog_4_method_5_code, tb_46) = true := by decide +kernel
theorem rk_47 : ax_rck 47 (prog_4_method_6_code, tb_47) = true := by decide +kernel
theorem rk_48 : ax_rck 48 (prog_4_method_3_code, tb_48) = true := by decide +kernel
theorem rk_49 : ax_rck 49 (prog_4_method_7_code, tb_49) = true := by decide +kernel
theorem rk_50 : ax_rck 50 (prog_4_method_9_code, tb_50) = true := by decide +kernel
theorem rk_51 : ax_rck 51 (prog_6_method_1_code, tb_51) = true := by decide +kernel
theorem rk_52 : ax_rck 52 (prog_6_method_3_code, tb_52) = true := by decide +kernel
theorem rk_53 : ax_rck 53 (prog_6_method_4_code, tb_53) = true := by decide +kernel
theorem rk_54 : ax_rck 54 (prog_6_method_2_code, tb_54) = true := by decide +kernel
theorem rk_55 : ax_rck 55 (prog_7_method_1_code, tb_55) = true := by decide +kernel
theorem rk_56 : ax_rck 56 (prog_7_method_2_code, tb_56) = true := by decide +kernel
theorem rk_57 : ax_rck 57 (prog_7_method_3_code, tb_57) = true := by decide +kernel
theorem rk_58 : ax_rck 58 (prog_2_method_1_code, tb_58) = true := by decide +kernel
theorem rk_59 : ax_rck 59 (prog_2_method_3_code, tb_59) = true := by decide +kernel
theorem rk_60 : ax_rck 60 (prog_2_method_7_code, tb_60) = true := by decide +kernel
theorem rk_61 : ax_rck 61 (prog_2_method_2_code, tb_61) = true := by decide +kernel
theorem rk_62 : ax_rck 62 (prog_2_method_9_code, tb_62) = true := by decide +kernel
theorem rk_63 : ax_rck 63 (prog_2_method_4_code, tb_63) = true := by decide +kernel
theorem rk_64 : ax_rck 64 (prog_2_method_5_code, tb_64) = true := by decide +kernel
theorem rk_65 : ax_rck 65 (prog_2_method_6_code, tb_65) = true := by decide +kernel
theorem rk_66 : ax_rck 66 (prog_2_method_8_code, tb_66) = true := by decide +kernel
theorem rk_67 : ax_rck 67 (prog_5_method_1_code, tb_67) = true := by decide +kernel
theorem rk_68 : ax_rck 68 (prog_5_method_2_code, tb_68) = true := by decide +kernel
theorem rk_69 : ax_rck 69 (prog_5_method_3_code, tb_69) = true := by decide +kernel
theorem rk_70 : ax_rck 70 (prog_5_method_4_code, tb_70) = true := by decide +kernel
theorem rk_71 : ax_rck 71 (prog_8_method_1_code, tb_71) = true := by decide +kernel
theorem rk_72 : ax_rck 72 (prog_8_method_3_code, tb_72) = true := by decide +kernel
theorem rk_73 : ax_rck 73 (prog_8_method_4_code, tb_73) = true := by decide +kernel
theorem rk_74 : ax_rck 74 (prog_8_method_5_code, tb_74) = true := by decide +kernel
theorem rk_75 : ax_rck 75 (prog_8_method_6_code, tb_75) = true := by decide +kernel
theorem rk_76 : ax_rck 76 (prog_8_method_2_code, tb_76) = true := by decide +kernel
theorem rk_77 : ax_rck 77 (prog_1_method_1_code, tb_77) = true := by decide +kernel
theorem rk_78 : ax_rck 78 (prog_1_method_7_code, tb_78) = true := by decide +kernel
theorem rk_79 : ax_rck 79 (prog_1_method_11_code, tb_79) = true := by decide +kernel
theorem rk_80 : ax_rck 80 (prog_1_method_12_code, tb_80) = true := by decide +kernel
theorem rk_81 : ax_rck 81 (prog_1_method_14_code, tb_81) = true := by decide +kernel
theorem rk_82 : ax_rck 82 (prog_1_method_15_code, tb_82) = true := by decide +kernel
theorem rk_83 : ax_rck 83 (prog_1_method_2_code, tb_83) = true := by decide +kernel
theorem rk_84 : ax_rck 84 (prog_1_method_3_code, tb_84) = true := by decide +kernel
theorem rk_85 : ax_rck 85 (prog_1_method_4_code, tb_85) = true := by decide +kernel
theorem rk_86 : ax_rck 86 (prog_1_method_16_code, tb_86) = true := by decide +kernel
theorem rk_87 : ax_rck 87 (prog_1_method_17_code, tb_87) = true := by decide +kernel
theorem rk_88 : ax_rck 88 (prog_1_method_5_code, tb_88) = true := by decide +kernel
theorem rk_89 : ax_rck 89 (prog_1_method_6_code, tb_89) = true := by decide +kernel
theorem rk_90 : ax_rck 90 (prog_1_method_8_code, tb_90) = true := by decide +kernel
theorem rk_91 : ax_rck 91 (prog_1_method_9_code, tb_91) = true := by decide +kernel
theorem rk_92 : ax_rck 92 (prog_1_method_10_code, tb_92) = true := by decide +kernel
theorem rk_93 : ax_rck 93 (prog_1_method_13_code, tb_93) = true := by decide +kernel
theorem rk_94 : ax_rck 94 (method_2_code, tb_94) = true := by decide +kernel
theorem rk_95 : ax_rck 95 (method_3_code, tb_95) = true := by decide +kernel
theorem rk_96 : ax_rck 96 (method_4_code, tb_96) = true := by decide +kernel
theorem rk_97 : ax_rck 97 (method_5_code, tb_97) = true := by decide +kernel
theorem rk_98 : ax_rck 98 (method_6_code, tb_98) = true := by decide +kernel
theorem rk_99 : ax_rck 99 (method_7_code, tb_99) = true := by decide +kernel
theorem rk_100 : ax_rck 100 (method_8_code, tb_100) = true := by decide +kernel
theorem rk_101 : ax_rck 101 (method_9_code, tb_101) = true := by decide +kernel
theorem rk_102 : ax_rck 102 (method_10_code, tb_102) = true := by decide +kernel
theorem rk_103 : ax_rck 103 (method_11_code, tb_103) = true := by decide +kernel
theorem rk_104 : ax_rck 104 (prog_14_method_50_code, tb_104) = true := by decide +kernel
theorem rk_105 : ax_rck 105 (prog_14_method_69_code, tb_105) = true := by decide +kernel
theorem rk_106 : ax_rck 106 (prog_14_method_65_code, tb_106) = true := by decide +kernel
theorem rk_107 : ax_rck 107 (prog_18_method_103_code, tb_107) = true := by decide +kernel
theorem rk_108 : ax_rck 108 (code, tb_108) = true := by decide +kernel
theorem ax_rko : ∀ (M : Nat) (q : ByteArray × List (Nat × Instr × Nat)), ax_nth ax_ps M = some q → ax_rck M q = true
  | 0, _, h => by cases h; exact rk_0
  | 1, _, h => by cases h; exact rk_1
  | 2, _, h => by cases h; exact rk_2
  | 3, _, h => by cases h; exact rk_3
  | 4, _, h => by cases h; exact rk_4
  | 5, _, h => by cases h; exact rk_5
  | 6, _, h => by cases h; exact rk_6
  | 7, _, h => by cases h; exact rk_7
  | 8, _, h => by cases h; exact rk_8
  | 9, _, h => by cases h; exact rk_9
  | 10, _, h => by cases h; exact rk_10
  | 11, _, h => by cases h; exact rk_11
  | 12, _, h => by cases h; exact rk_12
  | 13, _, h => by cases h; exact rk_13
  | 14, _, h => by cases h; exact rk_14
  | 15, _, h => by cases h; exact rk_15
  | 16, _, h => by cases h; exact rk_16
  | 17, _, h => by cases h; exact rk_17
  | 18, _, h => by cases h; exact rk_18
  | 19, _, h => by cases h; exact rk_19
  | 20, _, h => by cases h; exact rk_20
  | 21, _, h => by cases h; exact rk_21
  | 22, _, h => by cases h; exact rk_22
  | 23, _, h => by cases h; exact rk_23
  | 24, _, h => by cases h; exact rk_24
  | 25, _, h => by cases h; exact rk_25
  | 26, _, h => by cases h; exact rk_26
  | 27, _, h => by cases h; exact rk_27
  | 28, _, h => by cases h; exact rk_28
  | 29, _, h => by cases h; exact rk_29
  | 30, _, h => by cases h; exact rk_30
  | 31, _, h => by cases h; exact rk_31
  | 32, _, h => by cases h; exact rk_32
  | 33, _, h => by cases h; exact rk_33
  | 34, _, h => by cases h; exact rk_34
  | 35, _, h => by cases h; exact rk_35
  | 36, _, h => by cases h; exact rk_36
  | 37, _, h => by cases h; exact rk_37
  | 38, _, h => by cases h; exact rk_38
  | 39, _, h => by cases h; exact rk_39
  | 40, _, h => by cases h; exact rk_40
  | 41, _, h => by cases h; exact rk_41
  | 42, _, h => by cases h; exact rk_42
  | 43, _, h => by cases h; exact rk_43
  | 44, _, h => by cases h; exact rk_44
  | 45, _, h => by cases h; exact rk_45
  | 46, _, h => by cases h; exact rk_46
  | 47, _, h => by cases h; exact rk_47
  | 48, _, h => by cases h; exact rk_48
  | 49, _, h => by cases h; exact rk_49
  | 50, _, h => by cases h; exact rk_50
  | 51, _, h => by cases h; exact rk_51
  | 52, _, h => by cases h; exact rk_52
  | 53, _, h => by cases h; exact rk_53
  | 54, _, h => by cases h; exact rk_54
  | 55, _, h => by cases h; exact rk_55
  | 56, _, h => by cases h; exact rk_56
  | 57, _, h => by cases h; exact rk_57
  | 58, _, h => by cases h; exact rk_58
  | 59, _, h => by cases h; exact rk_59
  | 60, _, h => by cases h; exact rk_60
  | 61, _, h => by cases h; exact rk_61
  | 62, _, h => by cases h; exact rk_62
  | 63, _, h => by cases h; exact rk_63
  | 64, _, h => by cases h; exact rk_64
  | 65, _, h => by cases h; exact rk_65
  | 66, _, h => by cases h; exact rk_66
  | 67, _, h => by cases h; exact rk_67
  | 68, _, h => by cases h; exact rk_68
  | 69, _, h => by cases h; exact rk_69
  | 70, _, h => by cases h; exact rk_70
  | 71, _, h => by cases h; exact rk_71
  | 72, _, h => by cases h; exact rk_72
  | 73, _, h => by cases h; exact rk_73
  | 74, _, h => by cases h; exact rk_74
  | 75, _, h => by cases h; exact rk_75
  | 76, _, h => by cases h; exact rk_76
  | 77, _, h => by cases h; exact rk_77
  | 78, _, h => by cases h; exact rk_78
  | 79, _, h => by cases h; exact rk_79
  | 80, _, h => by cases h; exact rk_80
  | 81, _, h => by cases h; exact rk_81
  | 82, _, h => by cases h; exact rk_82
  | 83, _, h => by cases h; exact rk_83
  | 84, _, h => by cases h; exact rk_84
  | 85, _, h => by cases h; exact rk_85
  | 86, _, h => by cases h; exact rk_86
  | 87, _, h => by cases h; exact rk_87
  | 88, _, h => by cases h; exact rk_88
  | 89, _, h => by cases h; exact rk_89
  | 90, _, h => by cases h; exact rk_90
  | 91, _, h => by cases h; exact rk_91
  | 92, _, h => by cases h; exact rk_92
  | 93, _, h => by cases h; exact rk_93
  | 94, _, h => by cases h; exact rk_94
  | 95, _, h => by cases h; exact rk_95
  | 96, _, h => by cases h; exact rk_96
  | 97, _, h => by cases h; exact rk_97
  | 98, _, h => by cases h; exact rk_98
  | 99, _, h => by cases h; exact rk_99
  | 100, _, h => by cases h; exact rk_100
  | 101, _, h => by cases h; exact rk_101
  | 102, _, h => by cases h; exact rk_102
  | 103, _, h => by cases h; exact rk_103
  | 104, _, h => by cases h; exact rk_104
  | 105, _, h => by cases h; exact rk_105
  | 106, _, h => by cases h; exact rk_106
  | 107, _, h => by cases h; exact rk_107
  | 108, _, h => by cases h; exact rk_108
  | _ + 109, _, h => by cases h
theorem ax_rti {M pc len : Nat} (h : ax_fx M pc = some (.ireturn, len)) : (ax_rt M = some .int ∧ ax_bo M = false) ∨ (ax_rt M = some .boolean ∧ ax_bo M = true) := by
  unfold ax_fx at h
  cases hq : ax_nth ax_ps M with
  | none => rw [hq] at h; cases h
  | some q =>
    rw [hq] at h
    have h1 := ax_rko M q hq
    have hm := ax_lk_mem h
    unfold ax_rck at h1
    split at h1
    · rename_i hr
      rw [Bool.and_eq_true, Bool.not_eq_true'] at h1
      exact Or.inl ⟨hr, h1.1⟩
    · rename_i hr
      rw [Bool.and_eq_true] at h1
      exact Or.inr ⟨hr, h1.1⟩
    · have := of_decide_eq_true (List.all_eq_true.mp h1 _ hm)
      exact absurd rfl this
    · cases h1
theorem ax_rtv {M pc len : Nat} (h : ax_fx M pc = some (.return_, len)) : ax_rt M = none := by
  unfold ax_fx at h
  cases hq : ax_nth ax_ps M with
  | none => rw [hq] at h; cases h
  | some q =>
    rw [hq] at h
    have h1 := ax_rko M q hq
    have hm := ax_lk_mem h
    unfold ax_rck at h1
    split at h1
    · rw [Bool.and_eq_true] at h1
      have := of_decide_eq_true (List.all_eq_true.mp h1.2 _ hm)
      exact absurd rfl this
    · rw [Bool.and_eq_true] at h1
      have := of_decide_eq_true (List.all_eq_true.mp h1.2 _ hm)
      exact absurd rfl this
    · rename_i hr; exact hr
    · cases h1
