def ax_ks : List (Nat × String) := [(78, "no such kind"), (87, "no such term"), (95, "no room for a term"), (102, "no room for a literal"), (118, "no room for a clause"), (120, "no room for a level"), (123, "level 0 stays"), (133, "no such thing"), (146, "the clauses contradict one another"), (158, "no such term or what")]
def ax_xn : Nat → Nat
  | 0 => 76
  | 1 => 93
  | _ => 144
def ax_xc : Nat → Nat
  | 0 => 80
  | 1 => 97
  | _ => 148
def ax_tck (M : Nat) (q : ByteArray × List (Nat × Instr × Nat)) : Bool := q.2.all (fun e => match e.2.1 with
  | .new ix => (match ax_new M ix with
    | some (.inr ex) => decide (ax_ow M = "EqualityProver" ∧ ax_hh M = [] ∧ ix = ax_xn ex ∧ ex < 3 ∧ e.2.2 = 3) && (decide (ax_lk q.2 (e.1 + 3) = some (.dup, 1)) && (decide (ax_lk q.2 (e.1 + 6) = some (.invokespecial (ax_xc ex), 3)) && (decide (ax_lk q.2 (e.1 + 9) = some (.athrow, 1)) && (match ax_lk q.2 (e.1 + 4) with
      | some (.ldc k, 2) => (ax_lk2 ax_ks k).isSome
      | _ => false))))
    | _ => true)
  | _ => true)
theorem tk_0 : ax_tck 0 (prog_10_method_1_code, tb_0) = true := by decide +kernel
theorem tk_1 : ax_tck 1 (prog_10_method_6_code, tb_1) = true := by decide +kernel
theorem tk_2 : ax_tck 2 (prog_10_method_5_code, tb_2) = true := by decide +kernel
theorem tk_3 : ax_tck 3 (prog_10_method_10_code, tb_3) = true := by decide +kernel
theorem tk_4 : ax_tck 4 (prog_10_method_8_code, tb_4) = true := by decide +kernel
theorem tk_5 : ax_tck 5 (prog_10_method_2_code, tb_5) = true := by decide +kernel
theorem tk_6 : ax_tck 6 (prog_10_method_7_code, tb_6) = true := by decide +kernel
theorem tk_7 : ax_tck 7 (prog_10_method_3_code, tb_7) = true := by decide +kernel
theorem tk_8 : ax_tck 8 (prog_10_method_4_code, tb_8) = true := by decide +kernel
theorem tk_9 : ax_tck 9 (prog_10_method_12_code, tb_9) = true := by decide +kernel
theorem tk_10 : ax_tck 10 (prog_10_method_15_code, tb_10) = true := by decide +kernel
theorem tk_11 : ax_tck 11 (prog_10_method_13_code, tb_11) = true := by decide +kernel
theorem tk_12 : ax_tck 12 (prog_10_method_11_code, tb_12) = true := by decide +kernel
theorem tk_13 : ax_tck 13 (prog_10_method_14_code, tb_13) = true := by decide +kernel
theorem tk_14 : ax_tck 14 (prog_10_method_9_code, tb_14) = true := by decide +kernel
theorem tk_15 : ax_tck 15 (prog_10_method_16_code, tb_15) = true := by decide +kernel
theorem tk_16 : ax_tck 16 (prog_10_method_17_code, tb_16) = true := by decide +kernel
theorem tk_17 : ax_tck 17 (prog_10_method_25_code, tb_17) = true := by decide +kernel
theorem tk_18 : ax_tck 18 (prog_10_method_24_code, tb_18) = true := by decide +kernel
theorem tk_19 : ax_tck 19 (prog_10_method_23_code, tb_19) = true := by decide +kernel
theorem tk_20 : ax_tck 20 (prog_10_method_21_code, tb_20) = true := by decide +kernel
theorem tk_21 : ax_tck 21 (prog_10_method_20_code, tb_21) = true := by decide +kernel
theorem tk_22 : ax_tck 22 (prog_10_method_19_code, tb_22) = true := by decide +kernel
theorem tk_23 : ax_tck 23 (prog_10_method_18_code, tb_23) = true := by decide +kernel
theorem tk_24 : ax_tck 24 (prog_10_method_22_code, tb_24) = true := by decide +kernel
theorem tk_25 : ax_tck 25 (prog_10_method_26_code, tb_25) = true := by decide +kernel
theorem tk_26 : ax_tck 26 (prog_10_method_27_code, tb_26) = true := by decide +kernel
theorem tk_27 : ax_tck 27 (prog_10_method_28_code, tb_27) = true := by decide +kernel
theorem tk_28 : ax_tck 28 (prog_10_method_29_code, tb_28) = true := by decide +kernel
theorem tk_29 : ax_tck 29 (prog_10_method_30_code, tb_29) = true := by decide +kernel
theorem tk_30 : ax_tck 30 (prog_10_method_31_code, tb_30) = true := by decide +kernel
theorem tk_31 : ax_tck 31 (prog_10_method_32_code, tb_31) = true := by decide +kernel
theorem tk_32 : ax_tck 32 (prog_10_method_33_code, tb_32) = true := by decide +kernel
theorem tk_33 : ax_tck 33 (prog_3_method_1_code, tb_33) = true := by decide +kernel
theorem tk_34 : ax_tck 34 (prog_3_method_3_code, tb_34) = true := by decide +kernel
theorem tk_35 : ax_tck 35 (prog_3_method_2_code, tb_35) = true := by decide +kernel
theorem tk_36 : ax_tck 36 (prog_3_method_9_code, tb_36) = true := by decide +kernel
theorem tk_37 : ax_tck 37 (prog_3_method_4_code, tb_37) = true := by decide +kernel
theorem tk_38 : ax_tck 38 (prog_3_method_6_code, tb_38) = true := by decide +kernel
theorem tk_39 : ax_tck 39 (prog_3_method_7_code, tb_39) = true := by decide +kernel
theorem tk_40 : ax_tck 40 (prog_3_method_8_code, tb_40) = true := by decide +kernel
theorem tk_41 : ax_tck 41 (prog_3_method_5_code, tb_41) = true := by decide +kernel
theorem tk_42 : ax_tck 42 (prog_4_method_1_code, tb_42) = true := by decide +kernel
theorem tk_43 : ax_tck 43 (prog_4_method_8_code, tb_43) = true := by decide +kernel
theorem tk_44 : ax_tck 44 (prog_4_method_2_code, tb_44) = true := by decide +kernel
theorem tk_45 : ax_tck 45 (prog_4_method_4_code, tb_45) = true := by decide +kernel
theorem tk_46 : ax_tck 46 (prog_4_method_5_code, tb_46) = true := by decide +kernel
theorem tk_47 : ax_tck 47 (prog_4_method_6_code, tb_47) = true := by decide +kernel
theorem tk_48 : ax_tck 48 (prog_4_method_3_code, tb_48) = true := by decide +kernel
theorem tk_49 : ax_tck 49 (prog_4_method_7_code, tb_49) = true := by decide +kernel
theorem tk_50 : ax_tck 50 (prog_4_method_9_code, tb_50) = true := by decide +kernel
theorem tk_51 : ax_tck 51 (prog_6_method_1_code, tb_51) = true := by decide +kernel
theorem tk_52 : ax_tck 52 (prog_6_method_3_code, tb_52) = true := by decide +kernel
theorem tk_53 : ax_tck 53 (prog_6_method_4_code, tb_53) = true := by decide +kernel
theorem tk_54 : ax_tck 54 (prog_6_method_2_code, tb_54) = true := by decide +kernel
theorem tk_55 : ax_tck 55 (prog_7_method_1_code, tb_55) = true := by decide +kernel
theorem tk_56 : ax_tck 56 (prog_7_method_2_code, tb_56) = true := by decide +kernel
theorem tk_57 : ax_tck 57 (prog_7_method_3_code, tb_57) = true := by decide +kernel
theorem tk_58 : ax_tck 58 (prog_2_method_1_code, tb_58) = true := by decide +kernel
theorem tk_59 : ax_tck 59 (prog_2_method_3_code, tb_59) = true := by decide +kernel
theorem tk_60 : ax_tck 60 (prog_2_method_7_code, tb_60) = true := by decide +kernel
theorem tk_61 : ax_tck 61 (prog_2_method_2_code, tb_61) = true := by decide +kernel
theorem tk_62 : ax_tck 62 (prog_2_method_9_code, tb_62) = true := by decide +kernel
theorem tk_63 : ax_tck 63 (prog_2_method_4_code, tb_63) = true := by decide +kernel
theorem tk_64 : ax_tck 64 (prog_2_method_5_code, tb_64) = true := by decide +kernel
theorem tk_65 : ax_tck 65 (prog_2_method_6_code, tb_65) = true := by decide +kernel
theorem tk_66 : ax_tck 66 (prog_2_method_8_code, tb_66) = true := by decide +kernel
theorem tk_67 : ax_tck 67 (prog_5_method_1_code, tb_67) = true := by decide +kernel
theorem tk_68 : ax_tck 68 (prog_5_method_2_code, tb_68) = true := by decide +kernel
theorem tk_69 : ax_tck 69 (prog_5_method_3_code, tb_69) = true := by decide +kernel
theorem tk_70 : ax_tck 70 (prog_5_method_4_code, tb_70) = true := by decide +kernel
theorem tk_71 : ax_tck 71 (prog_8_method_1_code, tb_71) = true := by decide +kernel
theorem tk_72 : ax_tck 72 (prog_8_method_3_code, tb_72) = true := by decide +kernel
theorem tk_73 : ax_tck 73 (prog_8_method_4_code, tb_73) = true := by decide +kernel
theorem tk_74 : ax_tck 74 (prog_8_method_5_code, tb_74) = true := by decide +kernel
theorem tk_75 : ax_tck 75 (prog_8_method_6_code, tb_75) = true := by decide +kernel
theorem tk_76 : ax_tck 76 (prog_8_method_2_code, tb_76) = true := by decide +kernel
theorem tk_77 : ax_tck 77 (prog_1_method_1_code, tb_77) = true := by decide +kernel
theorem tk_78 : ax_tck 78 (prog_1_method_7_code, tb_78) = true := by decide +kernel
theorem tk_79 : ax_tck 79 (prog_1_method_11_code, tb_79) = true := by decide +kernel
theorem tk_80 : ax_tck 80 (prog_1_method_12_code, tb_80) = true := by decide +kernel
theorem tk_81 : ax_tck 81 (prog_1_method_14_code, tb_81) = true := by decide +kernel
theorem tk_82 : ax_tck 82 (prog_1_method_15_code, tb_82) = true := by decide +kernel
theorem tk_83 : ax_tck 83 (prog_1_method_2_code, tb_83) = true := by decide +kernel
theorem tk_84 : ax_tck 84 (prog_1_method_3_code, tb_84) = true := by decide +kernel
theorem tk_85 : ax_tck 85 (prog_1_method_4_code, tb_85) = true := by decide +kernel
theorem tk_86 : ax_tck 86 (prog_1_method_16_code, tb_86) = true := by decide +kernel
theorem tk_87 : ax_tck 87 (prog_1_method_17_code, tb_87) = true := by decide +kernel
theorem tk_88 : ax_tck 88 (prog_1_method_5_code, tb_88) = true := by decide +kernel
theorem tk_89 : ax_tck 89 (prog_1_method_6_code, tb_89) = true := by decide +kernel
theorem tk_90 : ax_tck 90 (prog_1_method_8_code, tb_90) = true := by decide +kernel
theorem tk_91 : ax_tck 91 (prog_1_method_9_code, tb_91) = true := by decide +kernel
theorem tk_92 : ax_tck 92 (prog_1_method_10_code, tb_92) = true := by decide +kernel
theorem tk_93 : ax_tck 93 (prog_1_method_13_code, tb_93) = true := by decide +kernel
theorem tk_94 : ax_tck 94 (method_2_code, tb_94) = true := by decide +kernel
theorem tk_95 : ax_tck 95 (method_3_code, tb_95) = true := by decide +kernel
theorem tk_96 : ax_tck 96 (method_4_code, tb_96) = true := by decide +kernel
theorem tk_97 : ax_tck 97 (method_5_code, tb_97) = true := by decide +kernel
theorem tk_98 : ax_tck 98 (method_6_code, tb_98) = true := by decide +kernel
theorem tk_99 : ax_tck 99 (method_7_code, tb_99) = true := by decide +kernel
theorem tk_100 : ax_tck 100 (method_8_code, tb_100) = true := by decide +kernel
theorem tk_101 : ax_tck 101 (method_9_code, tb_101) = true := by decide +kernel
theorem tk_102 : ax_tck 102 (method_10_code, tb_102) = true := by decide +kernel
theorem tk_103 : ax_tck 103 (method_11_code, tb_103) = true := by decide +kernel
theorem tk_104 : ax_tck 104 (prog_14_method_50_code, tb_104) = true := by decide +kernel
theorem tk_105 : ax_tck 105 (prog_14_method_69_code, tb_105) = true := by decide +kernel
theorem tk_106 : ax_tck 106 (prog_14_method_65_code, tb_106) = true := by decide +kernel
theorem tk_107 : ax_tck 107 (prog_18_method_103_code, tb_107) = true := by decide +kernel
theorem tk_108 : ax_tck 108 (code, tb_108) = true := by decide +kernel
theorem ax_tko : ∀ (M : Nat) (q : ByteArray × List (Nat × Instr × Nat)), ax_nth ax_ps M = some q → ax_tck M q = true
  | 0, _, h => by cases h; exact tk_0
  | 1, _, h => by cases h; exact tk_1
  | 2, _, h => by cases h; exact tk_2
  | 3, _, h => by cases h; exact tk_3
  | 4, _, h => by cases h; exact tk_4
  | 5, _, h => by cases h; exact tk_5
  | 6, _, h => by cases h; exact tk_6
  | 7, _, h => by cases h; exact tk_7
  | 8, _, h => by cases h; exact tk_8
  | 9, _, h => by cases h; exact tk_9
  | 10, _, h => by cases h; exact tk_10
  | 11, _, h => by cases h; exact tk_11
  | 12, _, h => by cases h; exact tk_12
  | 13, _, h => by cases h; exact tk_13
  | 14, _, h => by cases h; exact tk_14
  | 15, _, h => by cases h; exact tk_15
  | 16, _, h => by cases h; exact tk_16
  | 17, _, h => by cases h; exact tk_17
  | 18, _, h => by cases h; exact tk_18
  | 19, _, h => by cases h; exact tk_19
  | 20, _, h => by cases h; exact tk_20
  | 21, _, h => by cases h; exact tk_21
  | 22, _, h => by cases h; exact tk_22
  | 23, _, h => by cases h; exact tk_23
  | 24, _, h => by cases h; exact tk_24
  | 25, _, h => by cases h; exact tk_25
  | 26, _, h => by cases h; exact tk_26
  | 27, _, h => by cases h; exact tk_27
  | 28, _, h => by cases h; exact tk_28
  | 29, _, h => by cases h; exact tk_29
  | 30, _, h => by cases h; exact tk_30
  | 31, _, h => by cases h; exact tk_31
  | 32, _, h => by cases h; exact tk_32
  | 33, _, h => by cases h; exact tk_33
  | 34, _, h => by cases h; exact tk_34
  | 35, _, h => by cases h; exact tk_35
  | 36, _, h => by cases h; exact tk_36
  | 37, _, h => by cases h; exact tk_37
  | 38, _, h => by cases h; exact tk_38
  | 39, _, h => by cases h; exact tk_39
  | 40, _, h => by cases h; exact tk_40
  | 41, _, h => by cases h; exact tk_41
  | 42, _, h => by cases h; exact tk_42
  | 43, _, h => by cases h; exact tk_43
  | 44, _, h => by cases h; exact tk_44
  | 45, _, h => by cases h; exact tk_45
  | 46, _, h => by cases h; exact tk_46
  | 47, _, h => by cases h; exact tk_47
  | 48, _, h => by cases h; exact tk_48
  | 49, _, h => by cases h; exact tk_49
  | 50, _, h => by cases h; exact tk_50
  | 51, _, h => by cases h; exact tk_51
  | 52, _, h => by cases h; exact tk_52
  | 53, _, h => by cases h; exact tk_53
  | 54, _, h => by cases h; exact tk_54
  | 55, _, h => by cases h; exact tk_55
  | 56, _, h => by cases h; exact tk_56
  | 57, _, h => by cases h; exact tk_57
  | 58, _, h => by cases h; exact tk_58
  | 59, _, h => by cases h; exact tk_59
  | 60, _, h => by cases h; exact tk_60
  | 61, _, h => by cases h; exact tk_61
  | 62, _, h => by cases h; exact tk_62
  | 63, _, h => by cases h; exact tk_63
  | 64, _, h => by cases h; exact tk_64
  | 65, _, h => by cases h; exact tk_65
  | 66, _, h => by cases h; exact tk_66
  | 67, _, h => by cases h; exact tk_67
  | 68, _, h => by cases h; exact tk_68
  | 69, _, h => by cases h; exact tk_69
  | 70, _, h => by cases h; exact tk_70
  | 71, _, h => by cases h; exact tk_71
  | 72, _, h => by cases h; exact tk_72
  | 73, _, h => by cases h; exact tk_73
  | 74, _, h => by cases h; exact tk_74
  | 75, _, h => by cases h; exact tk_75
  | 76, _, h => by cases h; exact tk_76
  | 77, _, h => by cases h; exact tk_77
  | 78, _, h => by cases h; exact tk_78
  | 79, _, h => by cases h; exact tk_79
  | 80, _, h => by cases h; exact tk_80
  | 81, _, h => by cases h; exact tk_81
  | 82, _, h => by cases h; exact tk_82
  | 83, _, h => by cases h; exact tk_83
  | 84, _, h => by cases h; exact tk_84
  | 85, _, h => by cases h; exact tk_85
  | 86, _, h => by cases h; exact tk_86
  | 87, _, h => by cases h; exact tk_87
  | 88, _, h => by cases h; exact tk_88
  | 89, _, h => by cases h; exact tk_89
  | 90, _, h => by cases h; exact tk_90
  | 91, _, h => by cases h; exact tk_91
  | 92, _, h => by cases h; exact tk_92
  | 93, _, h => by cases h; exact tk_93
  | 94, _, h => by cases h; exact tk_94
  | 95, _, h => by cases h; exact tk_95
  | 96, _, h => by cases h; exact tk_96
  | 97, _, h => by cases h; exact tk_97
  | 98, _, h => by cases h; exact tk_98
  | 99, _, h => by cases h; exact tk_99
  | 100, _, h => by cases h; exact tk_100
  | 101, _, h => by cases h; exact tk_101
  | 102, _, h => by cases h; exact tk_102
  | 103, _, h => by cases h; exact tk_103
  | 104, _, h => by cases h; exact tk_104
  | 105, _, h => by cases h; exact tk_105
  | 106, _, h => by cases h; exact tk_106
  | 107, _, h => by cases h; exact tk_107
  | 108, _, h => by cases h; exact tk_108
  | _ + 109, _, h => by cases h
theorem ax_thro {M pc ix ex len : Nat} (h : ax_fx M pc = some (.new ix, len)) (hn : ax_new M ix = some (.inr ex)) : ax_ow M = "EqualityProver" ∧ ax_hh M = [] ∧ ix = ax_xn ex ∧ ex < 3 ∧ len = 3 ∧ ax_fx M (pc + 3) = some (.dup, 1) ∧ ax_fx M (pc + 6) = some (.invokespecial (ax_xc ex), 3) ∧ ax_fx M (pc + 9) = some (.athrow, 1) ∧ ∃ k tx, ax_fx M (pc + 4) = some (.ldc k, 2) ∧ (k, tx) ∈ ax_ks := by
  unfold ax_fx at h ⊢
  cases hq : ax_nth ax_ps M with
  | none => rw [hq] at h; cases h
  | some q =>
    rw [hq] at h
    have h1 := ax_tko M q hq
    have hm := ax_lk_mem h
    have h2 := List.all_eq_true.mp h1 _ hm
    dsimp only at h2 ⊢
    rw [hn] at h2
    simp only [Bool.and_eq_true, decide_eq_true_eq] at h2
    obtain ⟨⟨g1, g2, g3, g4, g5⟩, g6, g7, g8, g9⟩ := h2
    refine ⟨g1, g2, g3, g4, g5, g6, g7, g8, ?_⟩
    split at g9
    · rename_i k hk
      cases hx : ax_lk2 ax_ks k with
      | none => rw [hx] at g9; cases g9
      | some tx => exact ⟨k, tx, hk, ax_lk2_mem hx⟩
    · cases g9
theorem ax_ks_nw {k : Nat} {tx : String} (h : (k, tx) ∈ ax_ks) : Cond.stringRef "EqualityProver" k tx ∈ ax_nw := by
  simp only [ax_ks, List.mem_cons, List.not_mem_nil, or_false, Prod.mk.injEq] at h
  rcases h with ⟨rfl, rfl⟩ | ⟨rfl, rfl⟩ | ⟨rfl, rfl⟩ | ⟨rfl, rfl⟩ | ⟨rfl, rfl⟩ | ⟨rfl, rfl⟩ | ⟨rfl, rfl⟩ | ⟨rfl, rfl⟩ | ⟨rfl, rfl⟩ | ⟨rfl, rfl⟩ <;> simp [ax_nw]
def ax_xp : Nat → Nat
  | 2 => 13
  | _ => 7
def ax_xb : Nat → ByteArray
  | 2 => ⟨#[0x2a, 0x2b, 0xb7, 0x00, 0x0d, 0xb1]⟩
  | _ => Bundle.six
def ax_ta (ic : Nat) (X : String) (ip : Nat) (bs : ByteArray) : List Cond :=
  Bundle.throwableAtoms ++ (Bundle.throwableSAtoms ++ (Bundle.passSAtoms X "java/lang/RuntimeException" ip bs ++ (Bundle.chainSAtoms "java/lang/RuntimeException" ["java/lang/Exception"] ++ [.methodLink "EqualityProver" ic (Bundle.initS X), .instantiable X 6, .selects X Bundle.tFill0 Bundle.tFill0, .selects X Bundle.tFill Bundle.tFill, .lays X Bundle.tN "cause" "Ljava/lang/Throwable;", .lays X Bundle.tN "stackTrace" Bundle.steD, .lays X Bundle.tN "suppressedExceptions" Bundle.listD, .lays X Bundle.tN "detailMessage" "Ljava/lang/String;", .isRef (.static Bundle.tN "UNASSIGNED_STACK" Bundle.steD), .isRef (.static Bundle.tN "SUPPRESSED_SENTINEL" Bundle.listD), .fieldLink Bundle.tN 198 Bundle.tN "backtrace" "Ljava/lang/Object;", .lays Bundle.tN Bundle.tN "backtrace" "Ljava/lang/Object;", .lays X Bundle.tN "backtrace" "Ljava/lang/Object;"])))
def ax_wk (w : Cond) : Prop := w ∈ ax_gd ∨ w ∈ ax_nw ∨ w ∈ ax_4
set_option maxRecDepth 100000 in
theorem ax_wkT : ∀ w ∈ Bundle.throwableAtoms, ax_wk w := by
  refine List.forall_mem_cons.mpr ⟨Or.inl (ax_gd_mem 36 rfl rfl), ?_⟩
  refine List.forall_mem_cons.mpr ⟨Or.inl (ax_gd_mem 322 rfl rfl), ?_⟩
  refine List.forall_mem_cons.mpr ⟨Or.inl (ax_gd_mem 331 rfl rfl), ?_⟩
  refine List.forall_mem_cons.mpr ⟨Or.inl (ax_gd_mem 335 rfl rfl), ?_⟩
  refine List.forall_mem_cons.mpr ⟨Or.inl (ax_gd_mem 338 rfl rfl), ?_⟩
  refine List.forall_mem_cons.mpr ⟨Or.inl (ax_gd_mem 340 rfl rfl), ?_⟩
  refine List.forall_mem_cons.mpr ⟨Or.inl (ax_gd_mem 323 rfl rfl), ?_⟩
  refine List.forall_mem_cons.mpr ⟨Or.inl (ax_gd_mem 324 rfl rfl), ?_⟩
  refine List.forall_mem_cons.mpr ⟨Or.inl (ax_gd_mem 49 rfl rfl), ?_⟩
  refine List.forall_mem_cons.mpr ⟨Or.inl (ax_gd_mem 50 rfl rfl), ?_⟩
  refine List.forall_mem_cons.mpr ⟨Or.inl (ax_gd_mem 325 rfl rfl), ?_⟩
  refine List.forall_mem_cons.mpr ⟨Or.inl (ax_gd_mem 330 rfl rfl), ?_⟩
  refine List.forall_mem_cons.mpr ⟨Or.inl (ax_gd_mem 336 rfl rfl), ?_⟩
  refine List.forall_mem_cons.mpr ⟨Or.inl (ax_gd_mem 356 rfl rfl), ?_⟩
  refine List.forall_mem_cons.mpr ⟨Or.inl (ax_gd_mem 312 rfl rfl), ?_⟩
  refine List.forall_mem_cons.mpr ⟨Or.inl (ax_gd_mem 357 rfl rfl), ?_⟩
  refine List.forall_mem_cons.mpr ⟨Or.inl (ax_gd_mem 314 rfl rfl), ?_⟩
  refine List.forall_mem_cons.mpr ⟨Or.inl (ax_gd_mem 358 rfl rfl), ?_⟩
  refine List.forall_mem_cons.mpr ⟨Or.inl (ax_gd_mem 316 rfl rfl), ?_⟩
  refine List.forall_mem_cons.mpr ⟨Or.inl (ax_gd_mem 326 rfl rfl), ?_⟩
  refine List.forall_mem_cons.mpr ⟨Or.inr (Or.inr (by simp [ax_4, Bundle.tN, Bundle.steD, Bundle.listD])), ?_⟩
  refine List.forall_mem_cons.mpr ⟨Or.inl (ax_gd_mem 328 rfl rfl), ?_⟩
  refine List.forall_mem_cons.mpr ⟨Or.inr (Or.inr (by simp [ax_4, Bundle.tN, Bundle.steD, Bundle.listD])), ?_⟩
  refine List.forall_mem_cons.mpr ⟨Or.inl (ax_gd_mem 318 rfl rfl), ?_⟩
  exact fun w h => by cases h
set_option maxRecDepth 100000 in
theorem ax_wkS : ∀ w ∈ Bundle.throwableSAtoms, ax_wk w := by
  refine List.forall_mem_cons.mpr ⟨Or.inl (ax_gd_mem 352 rfl rfl), ?_⟩
  refine List.forall_mem_cons.mpr ⟨Or.inl (ax_gd_mem 353 rfl rfl), ?_⟩
  refine List.forall_mem_cons.mpr ⟨Or.inl (ax_gd_mem 355 rfl rfl), ?_⟩
  refine List.forall_mem_cons.mpr ⟨Or.inl (ax_gd_mem 318 rfl rfl), ?_⟩
  exact fun w h => by cases h
set_option maxRecDepth 100000 in
theorem ax_wkR : ∀ w ∈ Bundle.passSAtoms "java/lang/RuntimeException" "java/lang/Exception" 7 Bundle.six, ax_wk w := by
  refine List.forall_mem_cons.mpr ⟨Or.inl (ax_gd_mem 346 rfl rfl), ?_⟩
  refine List.forall_mem_cons.mpr ⟨Or.inl (ax_gd_mem 347 rfl rfl), ?_⟩
  refine List.forall_mem_cons.mpr ⟨Or.inl (ax_gd_mem 348 rfl rfl), ?_⟩
  refine List.forall_mem_cons.mpr ⟨Or.inl (ax_gd_mem 349 rfl rfl), ?_⟩
  refine List.forall_mem_cons.mpr ⟨Or.inr (Or.inl (by simp [ax_nw, Bundle.initS, Bundle.tN])), ?_⟩
  exact fun w h => by cases h
set_option maxRecDepth 100000 in
theorem ax_wkE : ∀ w ∈ Bundle.passSAtoms "java/lang/Exception" Bundle.tN 7 Bundle.six, ax_wk w := by
  refine List.forall_mem_cons.mpr ⟨Or.inl (ax_gd_mem 349 rfl rfl), ?_⟩
  refine List.forall_mem_cons.mpr ⟨Or.inl (ax_gd_mem 350 rfl rfl), ?_⟩
  refine List.forall_mem_cons.mpr ⟨Or.inl (ax_gd_mem 351 rfl rfl), ?_⟩
  refine List.forall_mem_cons.mpr ⟨Or.inl (ax_gd_mem 352 rfl rfl), ?_⟩
  refine List.forall_mem_cons.mpr ⟨Or.inr (Or.inl (by simp [ax_nw, Bundle.initS, Bundle.tN])), ?_⟩
  exact fun w h => by cases h
set_option maxRecDepth 100000 in
theorem ax_wkP_0 : ∀ w ∈ Bundle.passSAtoms "java/lang/IllegalArgumentException" "java/lang/RuntimeException" 7 (ax_xb 0), ax_wk w := by
  refine List.forall_mem_cons.mpr ⟨Or.inl (ax_gd_mem 343 rfl rfl), ?_⟩
  refine List.forall_mem_cons.mpr ⟨Or.inl (ax_gd_mem 344 rfl rfl), ?_⟩
  refine List.forall_mem_cons.mpr ⟨Or.inl (ax_gd_mem 345 rfl rfl), ?_⟩
  refine List.forall_mem_cons.mpr ⟨Or.inl (ax_gd_mem 346 rfl rfl), ?_⟩
  refine List.forall_mem_cons.mpr ⟨Or.inr (Or.inl (by simp [ax_nw, Bundle.initS, Bundle.tN])), ?_⟩
  exact fun w h => by cases h
set_option maxRecDepth 100000 in
theorem ax_wkA_0 : ∀ w ∈ ax_ta 80 "java/lang/IllegalArgumentException" 7 (ax_xb 0), ax_wk w := by
  refine List.forall_mem_append.mpr ⟨ax_wkT, List.forall_mem_append.mpr ⟨ax_wkS, List.forall_mem_append.mpr ⟨ax_wkP_0, List.forall_mem_append.mpr ⟨List.forall_mem_append.mpr ⟨ax_wkR, ax_wkE⟩, ?_⟩⟩⟩⟩
  refine List.forall_mem_cons.mpr ⟨Or.inl (ax_gd_mem 342 rfl rfl), ?_⟩
  refine List.forall_mem_cons.mpr ⟨Or.inl (ax_gd_mem 301 rfl rfl), ?_⟩
  refine List.forall_mem_cons.mpr ⟨Or.inl (ax_gd_mem 309 rfl rfl), ?_⟩
  refine List.forall_mem_cons.mpr ⟨Or.inl (ax_gd_mem 310 rfl rfl), ?_⟩
  refine List.forall_mem_cons.mpr ⟨Or.inl (ax_gd_mem 311 rfl rfl), ?_⟩
  refine List.forall_mem_cons.mpr ⟨Or.inl (ax_gd_mem 313 rfl rfl), ?_⟩
  refine List.forall_mem_cons.mpr ⟨Or.inl (ax_gd_mem 315 rfl rfl), ?_⟩
  refine List.forall_mem_cons.mpr ⟨Or.inl (ax_gd_mem 317 rfl rfl), ?_⟩
  refine List.forall_mem_cons.mpr ⟨Or.inr (Or.inr (by simp [ax_4, Bundle.tN, Bundle.steD, Bundle.listD])), ?_⟩
  refine List.forall_mem_cons.mpr ⟨Or.inr (Or.inr (by simp [ax_4, Bundle.tN, Bundle.steD, Bundle.listD])), ?_⟩
  refine List.forall_mem_cons.mpr ⟨Or.inl (ax_gd_mem 321 rfl rfl), ?_⟩
  refine List.forall_mem_cons.mpr ⟨Or.inl (ax_gd_mem 320 rfl rfl), ?_⟩
  refine List.forall_mem_cons.mpr ⟨Or.inl (ax_gd_mem 319 rfl rfl), ?_⟩
  exact fun w h => by cases h
set_option maxRecDepth 100000 in
theorem ax_wkP_1 : ∀ w ∈ Bundle.passSAtoms "java/lang/IllegalStateException" "java/lang/RuntimeException" 7 (ax_xb 1), ax_wk w := by
  refine List.forall_mem_cons.mpr ⟨Or.inl (ax_gd_mem 400 rfl rfl), ?_⟩
  refine List.forall_mem_cons.mpr ⟨Or.inl (ax_gd_mem 401 rfl rfl), ?_⟩
  refine List.forall_mem_cons.mpr ⟨Or.inl (ax_gd_mem 402 rfl rfl), ?_⟩
  refine List.forall_mem_cons.mpr ⟨Or.inl (ax_gd_mem 346 rfl rfl), ?_⟩
  refine List.forall_mem_cons.mpr ⟨Or.inr (Or.inl (by simp [ax_nw, Bundle.initS, Bundle.tN])), ?_⟩
  exact fun w h => by cases h
set_option maxRecDepth 100000 in
theorem ax_wkA_1 : ∀ w ∈ ax_ta 97 "java/lang/IllegalStateException" 7 (ax_xb 1), ax_wk w := by
  refine List.forall_mem_append.mpr ⟨ax_wkT, List.forall_mem_append.mpr ⟨ax_wkS, List.forall_mem_append.mpr ⟨ax_wkP_1, List.forall_mem_append.mpr ⟨List.forall_mem_append.mpr ⟨ax_wkR, ax_wkE⟩, ?_⟩⟩⟩⟩
  refine List.forall_mem_cons.mpr ⟨Or.inl (ax_gd_mem 399 rfl rfl), ?_⟩
  refine List.forall_mem_cons.mpr ⟨Or.inl (ax_gd_mem 390 rfl rfl), ?_⟩
  refine List.forall_mem_cons.mpr ⟨Or.inl (ax_gd_mem 392 rfl rfl), ?_⟩
  refine List.forall_mem_cons.mpr ⟨Or.inl (ax_gd_mem 333 rfl rfl), ?_⟩
  refine List.forall_mem_cons.mpr ⟨Or.inl (ax_gd_mem 393 rfl rfl), ?_⟩
  refine List.forall_mem_cons.mpr ⟨Or.inl (ax_gd_mem 394 rfl rfl), ?_⟩
  refine List.forall_mem_cons.mpr ⟨Or.inl (ax_gd_mem 395 rfl rfl), ?_⟩
  refine List.forall_mem_cons.mpr ⟨Or.inl (ax_gd_mem 396 rfl rfl), ?_⟩
  refine List.forall_mem_cons.mpr ⟨Or.inr (Or.inr (by simp [ax_4, Bundle.tN, Bundle.steD, Bundle.listD])), ?_⟩
  refine List.forall_mem_cons.mpr ⟨Or.inr (Or.inr (by simp [ax_4, Bundle.tN, Bundle.steD, Bundle.listD])), ?_⟩
  refine List.forall_mem_cons.mpr ⟨Or.inl (ax_gd_mem 321 rfl rfl), ?_⟩
  refine List.forall_mem_cons.mpr ⟨Or.inl (ax_gd_mem 320 rfl rfl), ?_⟩
  refine List.forall_mem_cons.mpr ⟨Or.inl (ax_gd_mem 397 rfl rfl), ?_⟩
  exact fun w h => by cases h
set_option maxRecDepth 100000 in
theorem ax_wkP_2 : ∀ w ∈ Bundle.passSAtoms "java/util/NoSuchElementException" "java/lang/RuntimeException" 13 (ax_xb 2), ax_wk w := by
  refine List.forall_mem_cons.mpr ⟨Or.inl (ax_gd_mem 578 rfl rfl), ?_⟩
  refine List.forall_mem_cons.mpr ⟨Or.inl (ax_gd_mem 579 rfl rfl), ?_⟩
  refine List.forall_mem_cons.mpr ⟨Or.inl (ax_gd_mem 580 rfl rfl), ?_⟩
  refine List.forall_mem_cons.mpr ⟨Or.inl (ax_gd_mem 346 rfl rfl), ?_⟩
  refine List.forall_mem_cons.mpr ⟨Or.inr (Or.inl (by simp [ax_nw, Bundle.initS, Bundle.tN])), ?_⟩
  exact fun w h => by cases h
set_option maxRecDepth 100000 in
theorem ax_wkA_2 : ∀ w ∈ ax_ta 148 "java/util/NoSuchElementException" 13 (ax_xb 2), ax_wk w := by
  refine List.forall_mem_append.mpr ⟨ax_wkT, List.forall_mem_append.mpr ⟨ax_wkS, List.forall_mem_append.mpr ⟨ax_wkP_2, List.forall_mem_append.mpr ⟨List.forall_mem_append.mpr ⟨ax_wkR, ax_wkE⟩, ?_⟩⟩⟩⟩
  refine List.forall_mem_cons.mpr ⟨Or.inl (ax_gd_mem 577 rfl rfl), ?_⟩
  refine List.forall_mem_cons.mpr ⟨Or.inl (ax_gd_mem 568 rfl rfl), ?_⟩
  refine List.forall_mem_cons.mpr ⟨Or.inl (ax_gd_mem 570 rfl rfl), ?_⟩
  refine List.forall_mem_cons.mpr ⟨Or.inl (ax_gd_mem 334 rfl rfl), ?_⟩
  refine List.forall_mem_cons.mpr ⟨Or.inl (ax_gd_mem 571 rfl rfl), ?_⟩
  refine List.forall_mem_cons.mpr ⟨Or.inl (ax_gd_mem 572 rfl rfl), ?_⟩
  refine List.forall_mem_cons.mpr ⟨Or.inl (ax_gd_mem 573 rfl rfl), ?_⟩
  refine List.forall_mem_cons.mpr ⟨Or.inl (ax_gd_mem 574 rfl rfl), ?_⟩
  refine List.forall_mem_cons.mpr ⟨Or.inr (Or.inr (by simp [ax_4, Bundle.tN, Bundle.steD, Bundle.listD])), ?_⟩
  refine List.forall_mem_cons.mpr ⟨Or.inr (Or.inr (by simp [ax_4, Bundle.tN, Bundle.steD, Bundle.listD])), ?_⟩
  refine List.forall_mem_cons.mpr ⟨Or.inl (ax_gd_mem 321 rfl rfl), ?_⟩
  refine List.forall_mem_cons.mpr ⟨Or.inl (ax_gd_mem 320 rfl rfl), ?_⟩
  refine List.forall_mem_cons.mpr ⟨Or.inl (ax_gd_mem 575 rfl rfl), ?_⟩
  exact fun w h => by cases h
theorem ax_wkA : ∀ ex, ex < 3 → ∀ w ∈ ax_ta (ax_xc ex) (ax_en ex) (ax_xp ex) (ax_xb ex), ax_wk w
  | 0, _ => ax_wkA_0
  | 1, _ => ax_wkA_1
  | 2, _ => ax_wkA_2
  | _ + 3, h => absurd h (by omega)
set_option maxRecDepth 100000 in
theorem ax_wkN : ∀ ex, ex < 3 → Cond.classLink "EqualityProver" (ax_xn ex) (ax_en ex) ∈ ax_gd ∧ Cond.instantiable (ax_en ex) 6 ∈ ax_gd ∧ Cond.initialized (ax_en ex) ∈ ax_gd
  | 0, _ => ⟨ax_gd_mem 300 rfl rfl, ax_gd_mem 301 rfl rfl, ax_gd_mem 39 rfl rfl⟩
  | 1, _ => ⟨ax_gd_mem 389 rfl rfl, ax_gd_mem 390 rfl rfl, ax_gd_mem 40 rfl rfl⟩
  | 2, _ => ⟨ax_gd_mem 567 rfl rfl, ax_gd_mem 568 rfl rfl, ax_gd_mem 42 rfl rfl⟩
  | _ + 3, h => absurd h (by omega)
theorem ax_wkF : ∀ ex, ex < 3 → Bundle.fit (ax_en ex) = true
  | 0, _ => by decide +kernel
  | 1, _ => by decide +kernel
  | 2, _ => by decide +kernel
  | _ + 3, h => absurd h (by omega)
theorem ax_wkB : ∀ ex, ex < 3 → decode (ax_xb ex) 0 = .ok (.aload_n 0, 1) ∧ decode (ax_xb ex) 1 = .ok (.aload_n 1, 1) ∧ decode (ax_xb ex) 2 = .ok (.invokespecial (ax_xp ex), 3) ∧ decode (ax_xb ex) 5 = .ok (.return_, 1)
  | 0, _ => ⟨by decide +kernel, by decide +kernel, by decide +kernel, by decide +kernel⟩
  | 1, _ => ⟨by decide +kernel, by decide +kernel, by decide +kernel, by decide +kernel⟩
  | 2, _ => ⟨by decide +kernel, by decide +kernel, by decide +kernel, by decide +kernel⟩
  | _ + 3, h => absurd h (by omega)
