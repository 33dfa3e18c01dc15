def ax_ic (i : Nat) : Bool := Nat.beq i 13 || (Nat.beq i 15 || Nat.beq i 39)
def ax_hsh : List (Nat × Nat × Nat × Nat) → Bool
  | [] => true
  | [(_, _, _, i)] => ax_ic i
  | [(_, _, _, j), (_, _, _, i)] => Nat.beq j 13 && ax_ic i
  | _ => false
def ax_cov (M pc : Nat) : Bool := (ax_hh M).any (fun q => Nat.ble q.1 pc && Nat.blt pc q.2.1)
def ax_cck (M : Nat) (q : ByteArray × List (Nat × Instr × Nat)) : Bool := ax_hsh (ax_hh M) && ((ax_hh M).isEmpty || (decide (ax_ow M = "EqualityProverLaw" ∧ ax_on M = 9) && q.2.all (fun e => match e.2.1 with
  | .invokespecial _ => !(ax_cov M e.1)
  | .invokestatic _ => !(ax_cov M e.1)
  | .invokevirtual _ => !(ax_cov M e.1) || Nat.beq e.2.2 3
  | _ => true)))
theorem hc_0 : ax_cck 0 (prog_10_method_1_code, tb_0) = true := by decide +kernel
theorem hc_1 : ax_cck 1 (prog_10_method_6_code, tb_1) = true := by decide +kernel
theorem hc_2 : ax_cck 2 (prog_10_method_5_code, tb_2) = true := by decide +kernel
theorem hc_3 : ax_cck 3 (prog_10_method_10_code, tb_3) = true := by decide +kernel
theorem hc_4 : ax_cck 4 (prog_10_method_8_code, tb_4) = true := by decide +kernel
theorem hc_5 : ax_cck 5 (prog_10_method_2_code, tb_5) = true := by decide +kernel
theorem hc_6 : ax_cck 6 (prog_10_method_7_code, tb_6) = true := by decide +kernel
theorem hc_7 : ax_cck 7 (prog_10_method_3_code, tb_7) = true := by decide +kernel
theorem hc_8 : ax_cck 8 (prog_10_method_4_code, tb_8) = true := by decide +kernel
theorem hc_9 : ax_cck 9 (prog_10_method_12_code, tb_9) = true := by decide +kernel
theorem hc_10 : ax_cck 10 (prog_10_method_15_code, tb_10) = true := by decide +kernel
theorem hc_11 : ax_cck 11 (prog_10_method_13_code, tb_11) = true := by decide +kernel
theorem hc_12 : ax_cck 12 (prog_10_method_11_code, tb_12) = true := by decide +kernel
theorem hc_13 : ax_cck 13 (prog_10_method_14_code, tb_13) = true := by decide +kernel
theorem hc_14 : ax_cck 14 (prog_10_method_9_code, tb_14) = true := by decide +kernel
theorem hc_15 : ax_cck 15 (prog_10_method_16_code, tb_15) = true := by decide +kernel
theorem hc_16 : ax_cck 16 (prog_10_method_17_code, tb_16) = true := by decide +kernel
theorem hc_17 : ax_cck 17 (prog_10_method_25_code, tb_17) = true := by decide +kernel
theorem hc_18 : ax_cck 18 (prog_10_method_24_code, tb_18) = true := by decide +kernel
theorem hc_19 : ax_cck 19 (prog_10_method_23_code, tb_19) = true := by decide +kernel
theorem hc_20 : ax_cck 20 (prog_10_method_21_code, tb_20) = true := by decide +kernel
theorem hc_21 : ax_cck 21 (prog_10_method_20_code, tb_21) = true := by decide +kernel
theorem hc_22 : ax_cck 22 (prog_10_method_19_code, tb_22) = true := by decide +kernel
theorem hc_23 : ax_cck 23 (prog_10_method_18_code, tb_23) = true := by decide +kernel
theorem hc_24 : ax_cck 24 (prog_10_method_22_code, tb_24) = true := by decide +kernel
theorem hc_25 : ax_cck 25 (prog_10_method_26_code, tb_25) = true := by decide +kernel
theorem hc_26 : ax_cck 26 (prog_10_method_27_code, tb_26) = true := by decide +kernel
theorem hc_27 : ax_cck 27 (prog_10_method_28_code, tb_27) = true := by decide +kernel
theorem hc_28 : ax_cck 28 (prog_10_method_29_code, tb_28) = true := by decide +kernel
theorem hc_29 : ax_cck 29 (prog_10_method_30_code, tb_29) = true := by decide +kernel
theorem hc_30 : ax_cck 30 (prog_10_method_31_code, tb_30) = true := by decide +kernel
theorem hc_31 : ax_cck 31 (prog_10_method_32_code, tb_31) = true := by decide +kernel
theorem hc_32 : ax_cck 32 (prog_10_method_33_code, tb_32) = true := by decide +kernel
theorem hc_33 : ax_cck 33 (prog_3_method_1_code, tb_33) = true := by decide +kernel
theorem hc_34 : ax_cck 34 (prog_3_method_3_code, tb_34) = true := by decide +kernel
theorem hc_35 : ax_cck 35 (prog_3_method_2_code, tb_35) = true := by decide +kernel
theorem hc_36 : ax_cck 36 (prog_3_method_9_code, tb_36) = true := by decide +kernel
theorem hc_37 : ax_cck 37 (prog_3_method_4_code, tb_37) = true := by decide +kernel
theorem hc_38 : ax_cck 38 (prog_3_method_6_code, tb_38) = true := by decide +kernel
theorem hc_39 : ax_cck 39 (prog_3_method_7_code, tb_39) = true := by decide +kernel
theorem hc_40 : ax_cck 40 (prog_3_method_8_code, tb_40) = true := by decide +kernel
theorem hc_41 : ax_cck 41 (prog_3_method_5_code, tb_41) = true := by decide +kernel
theorem hc_42 : ax_cck 42 (prog_4_method_1_code, tb_42) = true := by decide +kernel
theorem hc_43 : ax_cck 43 (prog_4_method_8_code, tb_43) = true := by decide +kernel
theorem hc_44 : ax_cck 44 (prog_4_method_2_code, tb_44) = true := by decide +kernel
theorem hc_45 : ax_cck 45 (prog_4_method_4_code, tb_45) = true := by decide +kernel
theorem hc_46 : ax_cck 46 (prog_4_method_5_code, tb_46) = true := by decide +kernel
theorem hc_47 : ax_cck 47 (prog_4_method_6_code, tb_47) = true := by decide +kernel
theorem hc_48 : ax_cck 48 (prog_4_method_3_code, tb_48) = true := by decide +kernel
theorem hc_49 : ax_cck 49 (prog_4_method_7_code, tb_49) = true := by decide +kernel
theorem hc_50 : ax_cck 50 (prog_4_method_9_code, tb_50) = true := by decide +kernel
theorem hc_51 : ax_cck 51 (prog_6_method_1_code, tb_51) = true := by decide +kernel
theorem hc_52 : ax_cck 52 (prog_6_method_3_code, tb_52) = true := by decide +kernel
theorem hc_53 : ax_cck 53 (prog_6_method_4_code, tb_53) = true := by decide +kernel
theorem hc_54 : ax_cck 54 (prog_6_method_2_code, tb_54) = true := by decide +kernel
theorem hc_55 : ax_cck 55 (prog_7_method_1_code, tb_55) = true := by decide +kernel
theorem hc_56 : ax_cck 56 (prog_7_method_2_code, tb_56) = true := by decide +kernel
theorem hc_57 : ax_cck 57 (prog_7_method_3_code, tb_57) = true := by decide +kernel
theorem hc_58 : ax_cck 58 (prog_2_method_1_code, tb_58) = true := by decide +kernel
theorem hc_59 : ax_cck 59 (prog_2_method_3_code, tb_59) = true := by decide +kernel
theorem hc_60 : ax_cck 60 (prog_2_method_7_code, tb_60) = true := by decide +kernel
theorem hc_61 : ax_cck 61 (prog_2_method_2_code, tb_61) = true := by decide +kernel
theorem hc_62 : ax_cck 62 (prog_2_method_9_code, tb_62) = true := by decide +kernel
theorem hc_63 : ax_cck 63 (prog_2_method_4_code, tb_63) = true := by decide +kernel
theorem hc_64 : ax_cck 64 (prog_2_method_5_code, tb_64) = true := by decide +kernel
theorem hc_65 : ax_cck 65 (prog_2_method_6_code, tb_65) = true := by decide +kernel
theorem hc_66 : ax_cck 66 (prog_2_method_8_code, tb_66) = true := by decide +kernel
theorem hc_67 : ax_cck 67 (prog_5_method_1_code, tb_67) = true := by decide +kernel
theorem hc_68 : ax_cck 68 (prog_5_method_2_code, tb_68) = true := by decide +kernel
theorem hc_69 : ax_cck 69 (prog_5_method_3_code, tb_69) = true := by decide +kernel
theorem hc_70 : ax_cck 70 (prog_5_method_4_code, tb_70) = true := by decide +kernel
theorem hc_71 : ax_cck 71 (prog_8_method_1_code, tb_71) = true := by decide +kernel
theorem hc_72 : ax_cck 72 (prog_8_method_3_code, tb_72) = true := by decide +kernel
theorem hc_73 : ax_cck 73 (prog_8_method_4_code, tb_73) = true := by decide +kernel
theorem hc_74 : ax_cck 74 (prog_8_method_5_code, tb_74) = true := by decide +kernel
theorem hc_75 : ax_cck 75 (prog_8_method_6_code, tb_75) = true := by decide +kernel
theorem hc_76 : ax_cck 76 (prog_8_method_2_code, tb_76) = true := by decide +kernel
theorem hc_77 : ax_cck 77 (prog_1_method_1_code, tb_77) = true := by decide +kernel
theorem hc_78 : ax_cck 78 (prog_1_method_7_code, tb_78) = true := by decide +kernel
theorem hc_79 : ax_cck 79 (prog_1_method_11_code, tb_79) = true := by decide +kernel
theorem hc_80 : ax_cck 80 (prog_1_method_12_code, tb_80) = true := by decide +kernel
theorem hc_81 : ax_cck 81 (prog_1_method_14_code, tb_81) = true := by decide +kernel
theorem hc_82 : ax_cck 82 (prog_1_method_15_code, tb_82) = true := by decide +kernel
theorem hc_83 : ax_cck 83 (prog_1_method_2_code, tb_83) = true := by decide +kernel
theorem hc_84 : ax_cck 84 (prog_1_method_3_code, tb_84) = true := by decide +kernel
theorem hc_85 : ax_cck 85 (prog_1_method_4_code, tb_85) = true := by decide +kernel
theorem hc_86 : ax_cck 86 (prog_1_method_16_code, tb_86) = true := by decide +kernel
theorem hc_87 : ax_cck 87 (prog_1_method_17_code, tb_87) = true := by decide +kernel
theorem hc_88 : ax_cck 88 (prog_1_method_5_code, tb_88) = true := by decide +kernel
theorem hc_89 : ax_cck 89 (prog_1_method_6_code, tb_89) = true := by decide +kernel
theorem hc_90 : ax_cck 90 (prog_1_method_8_code, tb_90) = true := by decide +kernel
theorem hc_91 : ax_cck 91 (prog_1_method_9_code, tb_91) = true := by decide +kernel
theorem hc_92 : ax_cck 92 (prog_1_method_10_code, tb_92) = true := by decide +kernel
theorem hc_93 : ax_cck 93 (prog_1_method_13_code, tb_93) = true := by decide +kernel
theorem hc_94 : ax_cck 94 (method_2_code, tb_94) = true := by decide +kernel
theorem hc_95 : ax_cck 95 (method_3_code, tb_95) = true := by decide +kernel
theorem hc_96 : ax_cck 96 (method_4_code, tb_96) = true := by decide +kernel
theorem hc_97 : ax_cck 97 (method_5_code, tb_97) = true := by decide +kernel
theorem hc_98 : ax_cck 98 (method_6_code, tb_98) = true := by decide +kernel
theorem hc_99 : ax_cck 99 (method_7_code, tb_99) = true := by decide +kernel
theorem hc_100 : ax_cck 100 (method_8_code, tb_100) = true := by decide +kernel
theorem hc_101 : ax_cck 101 (method_9_code, tb_101) = true := by decide +kernel
theorem hc_102 : ax_cck 102 (method_10_code, tb_102) = true := by decide +kernel
theorem hc_103 : ax_cck 103 (method_11_code, tb_103) = true := by decide +kernel
theorem hc_104 : ax_cck 104 (prog_14_method_50_code, tb_104) = true := by decide +kernel
theorem hc_105 : ax_cck 105 (prog_14_method_69_code, tb_105) = true := by decide +kernel
theorem hc_106 : ax_cck 106 (prog_14_method_65_code, tb_106) = true := by decide +kernel
theorem hc_107 : ax_cck 107 (prog_18_method_103_code, tb_107) = true := by decide +kernel
theorem hc_108 : ax_cck 108 (code, tb_108) = true := by decide +kernel
theorem ax_cko : ∀ (M : Nat) (q : ByteArray × List (Nat × Instr × Nat)), ax_nth ax_ps M = some q → ax_cck M q = true
  | 0, _, h => by cases h; exact hc_0
  | 1, _, h => by cases h; exact hc_1
  | 2, _, h => by cases h; exact hc_2
  | 3, _, h => by cases h; exact hc_3
  | 4, _, h => by cases h; exact hc_4
  | 5, _, h => by cases h; exact hc_5
  | 6, _, h => by cases h; exact hc_6
  | 7, _, h => by cases h; exact hc_7
  | 8, _, h => by cases h; exact hc_8
  | 9, _, h => by cases h; exact hc_9
  | 10, _, h => by cases h; exact hc_10
  | 11, _, h => by cases h; exact hc_11
  | 12, _, h => by cases h; exact hc_12
  | 13, _, h => by cases h; exact hc_13
  | 14, _, h => by cases h; exact hc_14
  | 15, _, h => by cases h; exact hc_15
  | 16, _, h => by cases h; exact hc_16
  | 17, _, h => by cases h; exact hc_17
  | 18, _, h => by cases h; exact hc_18
  | 19, _, h => by cases h; exact hc_19
  | 20, _, h => by cases h; exact hc_20
  | 21, _, h => by cases h; exact hc_21
  | 22, _, h => by cases h; exact hc_22
  | 23, _, h => by cases h; exact hc_23
  | 24, _, h => by cases h; exact hc_24
  | 25, _, h => by cases h; exact hc_25
  | 26, _, h => by cases h; exact hc_26
  | 27, _, h => by cases h; exact hc_27
  | 28, _, h => by cases h; exact hc_28
  | 29, _, h => by cases h; exact hc_29
  | 30, _, h => by cases h; exact hc_30
  | 31, _, h => by cases h; exact hc_31
  | 32, _, h => by cases h; exact hc_32
  | 33, _, h => by cases h; exact hc_33
  | 34, _, h => by cases h; exact hc_34
  | 35, _, h => by cases h; exact hc_35
  | 36, _, h => by cases h; exact hc_36
  | 37, _, h => by cases h; exact hc_37
  | 38, _, h => by cases h; exact hc_38
  | 39, _, h => by cases h; exact hc_39
  | 40, _, h => by cases h; exact hc_40
  | 41, _, h => by cases h; exact hc_41
  | 42, _, h => by cases h; exact hc_42
  | 43, _, h => by cases h; exact hc_43
  | 44, _, h => by cases h; exact hc_44
  | 45, _, h => by cases h; exact hc_45
  | 46, _, h => by cases h; exact hc_46
  | 47, _, h => by cases h; exact hc_47
  | 48, _, h => by cases h; exact hc_48
  | 49, _, h => by cases h; exact hc_49
  | 50, _, h => by cases h; exact hc_50
  | 51, _, h => by cases h; exact hc_51
  | 52, _, h => by cases h; exact hc_52
  | 53, _, h => by cases h; exact hc_53
  | 54, _, h => by cases h; exact hc_54
  | 55, _, h => by cases h; exact hc_55
  | 56, _, h => by cases h; exact hc_56
  | 57, _, h => by cases h; exact hc_57
  | 58, _, h => by cases h; exact hc_58
  | 59, _, h => by cases h; exact hc_59
  | 60, _, h => by cases h; exact hc_60
  | 61, _, h => by cases h; exact hc_61
  | 62, _, h => by cases h; exact hc_62
  | 63, _, h => by cases h; exact hc_63
  | 64, _, h => by cases h; exact hc_64
  | 65, _, h => by cases h; exact hc_65
  | 66, _, h => by cases h; exact hc_66
  | 67, _, h => by cases h; exact hc_67
  | 68, _, h => by cases h; exact hc_68
  | 69, _, h => by cases h; exact hc_69
  | 70, _, h => by cases h; exact hc_70
  | 71, _, h => by cases h; exact hc_71
  | 72, _, h => by cases h; exact hc_72
  | 73, _, h => by cases h; exact hc_73
  | 74, _, h => by cases h; exact hc_74
  | 75, _, h => by cases h; exact hc_75
  | 76, _, h => by cases h; exact hc_76
  | 77, _, h => by cases h; exact hc_77
  | 78, _, h => by cases h; exact hc_78
  | 79, _, h => by cases h; exact hc_79
  | 80, _, h => by cases h; exact hc_80
  | 81, _, h => by cases h; exact hc_81
  | 82, _, h => by cases h; exact hc_82
  | 83, _, h => by cases h; exact hc_83
  | 84, _, h => by cases h; exact hc_84
  | 85, _, h => by cases h; exact hc_85
  | 86, _, h => by cases h; exact hc_86
  | 87, _, h => by cases h; exact hc_87
  | 88, _, h => by cases h; exact hc_88
  | 89, _, h => by cases h; exact hc_89
  | 90, _, h => by cases h; exact hc_90
  | 91, _, h => by cases h; exact hc_91
  | 92, _, h => by cases h; exact hc_92
  | 93, _, h => by cases h; exact hc_93
  | 94, _, h => by cases h; exact hc_94
  | 95, _, h => by cases h; exact hc_95
  | 96, _, h => by cases h; exact hc_96
  | 97, _, h => by cases h; exact hc_97
  | 98, _, h => by cases h; exact hc_98
  | 99, _, h => by cases h; exact hc_99
  | 100, _, h => by cases h; exact hc_100
  | 101, _, h => by cases h; exact hc_101
  | 102, _, h => by cases h; exact hc_102
  | 103, _, h => by cases h; exact hc_103
  | 104, _, h => by cases h; exact hc_104
  | 105, _, h => by cases h; exact hc_105
  | 106, _, h => by cases h; exact hc_106
  | 107, _, h => by cases h; exact hc_107
  | 108, _, h => by cases h; exact hc_108
  | _ + 109, _, h => by cases h
theorem ax_hd1_cov : ∀ {t : List (Nat × Nat × Nat × Nat)} {pc ex hp : Nat}, ax_hd1 t pc ex = some hp → t.any (fun q => Nat.ble q.1 pc && Nat.blt pc q.2.1) = true
  | [], _, _, _, h => by cases h
  | (a, b, hp', ix) :: r, pc, ex, hp, h => by
    rw [List.any_cons, Bool.or_eq_true]
    rw [ax_hd1] at h
    cases hc : Nat.ble a pc && Nat.blt pc b with
    | true => exact Or.inl rfl
    | false =>
      rw [hc] at h
      exact Or.inr (ax_hd1_cov h)
theorem ax_covo {M pc ex hp len : Nat} {i : Instr} (hf : ax_fx M pc = some (i, len)) (hh : ax_hd M pc ex = some hp) : ax_ow M = "EqualityProverLaw" ∧ ax_on M = 9 ∧ ax_hsh (ax_hh M) = true ∧ (∀ ix, i ≠ .invokespecial ix) ∧ (∀ ix, i ≠ .invokestatic ix) := by
  have hcv : ax_cov M pc = true := ax_hd1_cov hh
  unfold ax_fx at hf
  cases hq : ax_nth ax_ps M with
  | none => rw [hq] at hf; cases hf
  | some q =>
    rw [hq] at hf
    have h1 := ax_cko M q hq
    have hm := ax_lk_mem hf
    unfold ax_cck at h1
    rw [Bool.and_eq_true, Bool.or_eq_true] at h1
    obtain ⟨h1, h2 | h2⟩ := h1
    · rw [List.isEmpty_iff] at h2
      unfold ax_cov at hcv
      rw [h2] at hcv
      cases hcv
    · rw [Bool.and_eq_true, decide_eq_true_eq] at h2
      obtain ⟨⟨g1, g2⟩, g3⟩ := h2
      have g4 := List.all_eq_true.mp g3 _ hm
      refine ⟨g1, g2, h1, fun ix hi => ?_, fun ix hi => ?_⟩
      · subst hi
        dsimp only at g4
        rw [hcv] at g4
        cases g4
      · subst hi
        dsimp only at g4
        rw [hcv] at g4
        cases g4
theorem ax_lawv : ∀ r, ax_nth ax_vt 9 = some r → r.all (fun q => match ax_nth ax_cl q.2.2.2 with
  | some c => decide ((ax_y q.2.1).cls = c.1)
  | none => false) = true := fun r h => by cases h; decide +kernel
theorem ax_lawy {M ix M' n ci : Nat} {C : String} {T : u_T} {N : Nat} (ho : ax_on M = 9) (h : ax_vir M ix = some (M', n, ci)) (hc : ax_cl[ci]? = some (C, T, N)) : (ax_y M').cls = C := by
  unfold ax_vir at h
  rw [ho] at h
  cases hr : ax_nth ax_vt 9 with
  | none => rw [hr] at h; cases h
  | some r =>
    rw [hr] at h
    have h1 := List.all_eq_true.mp (ax_lawv r hr) _ (ax_lk2_mem h)
    dsimp only at h1
    cases hq : ax_nth ax_cl ci with
    | none => rw [hq] at h1; cases h1
    | some q =>
      rw [hq] at h1
      have h2 := of_decide_eq_true h1
      have h3 := ax_nth_get hq
      rw [hc] at h3
      cases h3
      exact h2
theorem ax_ic_of {i : Nat} (h : ax_ic i = true) : i = 13 ∨ i = 15 ∨ i = 39 := by
  unfold ax_ic at h
  rw [Bool.or_eq_true, Bool.or_eq_true] at h
  rcases h with h | h | h
  · exact Or.inl (Nat.eq_of_beq_eq_true h)
  · exact Or.inr (Or.inl (Nat.eq_of_beq_eq_true h))
  · exact Or.inr (Or.inr (Nat.eq_of_beq_eq_true h))
theorem ax_ic_q {i q : Nat} (h : ax_ic i = true) (hq : ax_lk2 ax_ce i = some q) : i ≠ 0 ∧ q < 3 ∧ Cond.classLink "EqualityProverLaw" i (ax_en q) ∈ ax_gd := by
  rcases ax_ic_of h with rfl | rfl | rfl
  · cases hq; exact ⟨by decide, by decide, ax_gd_mem 294 (by decide +kernel) rfl⟩
  · cases hq; exact ⟨by decide, by decide, ax_gd_mem 295 (by decide +kernel) rfl⟩
  · cases hq; exact ⟨by decide, by decide, ax_gd_mem 562 (by decide +kernel) rfl⟩
theorem ax_cast : ∀ q, q < 3 → Cond.castable (ax_en q) (ax_en q) ∈ ax_nw
  | 0, _ => by simp [ax_nw, ax_en]
  | 1, _ => by simp [ax_nw, ax_en]
  | 2, _ => by simp [ax_nw, ax_en]
  | _ + 3, h => absurd h (by omega)
theorem ax_ncast : ∀ q, q < 3 → q ≠ 0 → Cond.not (Cond.castable (ax_en q) (ax_en 0)) ∈ ax_nw
  | 0, _, h => absurd rfl h
  | 1, _, _ => by simp [ax_nw, ax_en]
  | 2, _, _ => by simp [ax_nw, ax_en]
  | _ + 3, h, _ => absurd h (by omega)
def ax_ent (q : Nat × Nat × Nat × Nat) : ExceptionTableEntry := ⟨q.1, q.2.1, q.2.2.1, q.2.2.2⟩
theorem ax_covers {a b h ix pc : Nat} : covers (ax_ent (a, b, h, ix)) pc = (Nat.ble a pc && Nat.blt pc b) := by
  unfold covers ax_ent
  rw [Bool.eq_iff_iff]
  simp [Nat.blt]
  exact fun _ => Iff.rfl
theorem ax_hsplit {t : List (Nat × Nat × Nat × Nat)} {pc ex hp : Nat} (hs : ax_hsh t = true) (h : ax_hd1 t pc ex = some hp) : ex < 3 ∧ ∃ (pre : List ExceptionTableEntry) (x : ExceptionTableEntry) (rest : List ExceptionTableEntry), tableOf t = pre ++ x :: rest ∧ covers x pc = true ∧ x.handlerPc = hp ∧ x.catchType ≠ 0 ∧ Cond.classLink "EqualityProverLaw" x.catchType (ax_en ex) ∈ ax_gd ∧
    ∀ y ∈ pre, covers y pc = false ∨ (y.catchType ≠ 0 ∧ Cond.classLink "EqualityProverLaw" y.catchType (ax_en 0) ∈ ax_gd ∧ ex ≠ 0) := by
  have one : ∀ {a b h i : Nat} {r : List (Nat × Nat × Nat × Nat)}, ax_ic i = true → ax_hd1 ((a, b, h, i) :: r) pc ex = some hp → ((Nat.ble a pc && Nat.blt pc b) = true ∧ h = hp ∧ ex < 3 ∧ i ≠ 0 ∧ Cond.classLink "EqualityProverLaw" i (ax_en ex) ∈ ax_gd) ∨ (ax_hd1 r pc ex = some hp ∧ ((Nat.ble a pc && Nat.blt pc b) = false ∨ ∃ q, ax_lk2 ax_ce i = some q ∧ q ≠ ex)) := by
    intro a b h i r hi hh
    rw [ax_hd1] at hh
    cases hc : Nat.ble a pc && Nat.blt pc b with
    | false => rw [hc] at hh; exact Or.inr ⟨hh, Or.inl rfl⟩
    | true =>
      rw [hc] at hh
      cases hq : ax_lk2 ax_ce i with
      | none => rw [hq] at hh; cases hh
      | some q =>
        rw [hq] at hh
        dsimp only at hh
        cases he : Nat.beq q ex with
        | true =>
          rw [he] at hh
          cases hh
          have : q = ex := Nat.eq_of_beq_eq_true he
          subst this
          obtain ⟨z1, z2, z3⟩ := ax_ic_q hi hq
          exact Or.inl ⟨rfl, rfl, z2, z1, z3⟩
        | false =>
          rw [he] at hh
          refine Or.inr ⟨hh, Or.inr ⟨q, rfl, fun hz => ?_⟩⟩
          rw [hz, Nat.beq_refl] at he
          cases he
  match t, hs, h with
  | [], _, h => cases h
  | [(a, b, h9, i)], hs, h =>
    rcases one (show ax_ic i = true from hs) h with ⟨z1, z2, z3, z4, z5⟩ | ⟨z1, -⟩
    · exact ⟨z3, [], ax_ent (a, b, h9, i), [], rfl, ax_covers.trans z1, z2, z4, z5, fun y hy => by cases hy⟩
    · cases z1
  | [(a, b, h9, j), (a2, b2, h92, i)], hs, h =>
    have hs2 : (Nat.beq j 13 && ax_ic i) = true := hs
    rw [Bool.and_eq_true] at hs2
    have hj : j = 13 := Nat.eq_of_beq_eq_true hs2.1
    subst hj
    rcases one rfl h with ⟨z1, z2, z3, z4, z5⟩ | ⟨z1, z6⟩
    · exact ⟨z3, [], ax_ent (a, b, h9, 13), [ax_ent (a2, b2, h92, i)], rfl, ax_covers.trans z1, z2, z4, z5, fun y hy => by cases hy⟩
    · rcases one hs2.2 z1 with ⟨y1, y2, y3, y4, y5⟩ | ⟨y1, -⟩
      · refine ⟨y3, [ax_ent (a, b, h9, 13)], ax_ent (a2, b2, h92, i), [], rfl, ax_covers.trans y1, y2, y4, y5, fun y hy => ?_⟩
        rw [List.mem_singleton] at hy
        subst hy
        rcases z6 with z6 | ⟨q, z6, z7⟩
        · exact Or.inl (ax_covers.trans z6)
        · cases z6
          exact Or.inr ⟨show (13 : Nat) ≠ 0 by decide, (ax_ic_q (i := 13) (q := 0) rfl rfl).2.2, fun hz => z7 hz.symm⟩
      · cases y1
  | _ :: _ :: _ :: _, hs, _ => cases hs
