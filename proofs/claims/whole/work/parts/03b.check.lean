def ax_ok (pc : Nat) (i : Instr) (len : Nat) : Bool := match i with
  | .iconst _ => Nat.beq len 1
  | .bipush _ => Nat.beq len 2
  | .sipush _ => Nat.beq len 3
  | .lconst _ => Nat.beq len 1
  | .ldc _ => Nat.beq len 2
  | .iload_n _ => Nat.beq len 1
  | .iload _ => Nat.beq len 2
  | .aload_n _ => Nat.beq len 1
  | .aload _ => Nat.beq len 2
  | .istore_n _ => Nat.beq len 1
  | .istore _ => Nat.beq len 2
  | .astore_n _ => Nat.beq len 1
  | .astore _ => Nat.beq len 2
  | .iinc _ _ => Nat.beq len 3
  | .iadd => Nat.beq len 1
  | .isub => Nat.beq len 1
  | .imul => Nat.beq len 1
  | .iand => Nat.beq len 1
  | .ior => Nat.beq len 1
  | .ixor => Nat.beq len 1
  | .ishl => Nat.beq len 1
  | .idiv => Nat.beq len 1
  | .irem => Nat.beq len 1
  | .i2l => Nat.beq len 1
  | .lcmp => Nat.beq len 1
  | .dup => Nat.beq len 1
  | .pop => Nat.beq len 1
  | .dup_x1 => Nat.beq len 1
  | .dup_x2 => Nat.beq len 1
  | .dup2 => Nat.beq len 1
  | .ifCond _ off => Nat.beq len 3 && decide (0 ≤ (pc : Int) + off)
  | .if_icmp _ off => Nat.beq len 3 && decide (0 ≤ (pc : Int) + off)
  | .goto off => Nat.beq len 3 && decide (0 ≤ (pc : Int) + off)
  | .tableswitch dflt _ _ offs => decide (0 ≤ (pc : Int) + dflt) && offs.toList.all (fun o => decide (0 ≤ (pc : Int) + o))
  | .lookupswitch dflt ps => decide (0 ≤ (pc : Int) + dflt) && (ps.toList.all (fun q => decide (0 ≤ (pc : Int) + q.2)) && (ps.toList.zip (ps.toList.drop 1)).all (fun (a, next) => a.1 < next.1))
  | .getfield _ => Nat.beq len 3
  | .putfield _ => Nat.beq len 3
  | .iaload => Nat.beq len 1
  | .baload => Nat.beq len 1
  | .laload => Nat.beq len 1
  | .iastore => Nat.beq len 1
  | .bastore => Nat.beq len 1
  | .lastore => Nat.beq len 1
  | .arraylength => Nat.beq len 1
  | .new _ => Nat.beq len 3
  | .newarray _ => Nat.beq len 2
  | .invokevirtual _ => Nat.beq len 3
  | .invokespecial _ => Nat.beq len 3
  | .invokestatic _ => Nat.beq len 3
  | .ireturn => Nat.beq len 1
  | .return_ => Nat.beq len 1
  | .athrow => Nat.beq len 1
  | _ => true
def ax_chk (cd : ByteArray) (t : List (Nat × Instr × Nat)) : Bool := t.all (fun e => decide (decode cd e.1 = .ok (e.2.1, e.2.2)) && ax_ok e.1 e.2.1 e.2.2)
theorem ax_lk_mem : ∀ {t : List (Nat × Instr × Nat)} {pc : Nat} {q : Instr × Nat}, ax_lk t pc = some q → (pc, q) ∈ t
  | [], _, _, h => by cases h
  | (p, q0) :: r, pc, q, h => by
    rw [ax_lk] at h
    cases hb : Nat.beq p pc with
    | true =>
      rw [hb] at h
      cases h
      have : p = pc := Nat.eq_of_beq_eq_true hb
      subst this
      exact List.mem_cons_self
    | false =>
      rw [hb] at h
      exact List.mem_cons_of_mem _ (ax_lk_mem h)
theorem ax_nth_mem {α : Type} : ∀ {l : List α} {n : Nat} {x : α}, ax_nth l n = some x → x ∈ l
  | [], _, _, h => by cases h
  | y :: r, 0, x, h => by cases h; exact List.mem_cons_self
  | y :: r, n + 1, x, h => List.mem_cons_of_mem _ (ax_nth_mem (l := r) (n := n) h)
theorem ax_chk_app {cd : ByteArray} {t : List (Nat × Instr × Nat)} {n : Nat} (h1 : ax_chk cd (t.take n) = true) (h2 : ax_chk cd (t.drop n) = true) : ax_chk cd t = true := by
  unfold ax_chk at h1 h2 ⊢
  rw [← List.take_append_drop n t, List.all_append, h1, h2]
  rfl
theorem ck_0 : ax_chk prog_10_method_1_code tb_0 = true := by decide +kernel
theorem ck_1 : ax_chk prog_10_method_6_code tb_1 = true := by decide +kernel
theorem ck_2 : ax_chk prog_10_method_5_code tb_2 = true := by decide +kernel
theorem ck_3 : ax_chk prog_10_method_10_code tb_3 = true := by decide +kernel
theorem ck_4 : ax_chk prog_10_method_8_code tb_4 = true := by decide +kernel
theorem ck_5 : ax_chk prog_10_method_2_code tb_5 = true := by decide +kernel
theorem ck_6 : ax_chk prog_10_method_7_code tb_6 = true := by decide +kernel
theorem ck_7 : ax_chk prog_10_method_3_code tb_7 = true := by decide +kernel
theorem ck_8 : ax_chk prog_10_method_4_code tb_8 = true := by decide +kernel
theorem ck_9 : ax_chk prog_10_method_12_code tb_9 = true := by decide +kernel
theorem ck_10_0 : ax_chk prog_10_method_15_code ((tb_10.drop 0).take 60) = true := by decide +kernel
theorem ck_10_60 : ax_chk prog_10_method_15_code ((tb_10.drop 60).take 60) = true := by decide +kernel
theorem ck_10_120 : ax_chk prog_10_method_15_code ((tb_10.drop 120).take 60) = true := by decide +kernel
theorem ck_10_t120 : ax_chk prog_10_method_15_code (tb_10.drop 120) = true := ax_chk_app ck_10_120 (by decide +kernel)
theorem ck_10_t60 : ax_chk prog_10_method_15_code (tb_10.drop 60) = true := ax_chk_app ck_10_60 (by rw [List.drop_drop]; exact ck_10_t120)
theorem ck_10_t0 : ax_chk prog_10_method_15_code (tb_10.drop 0) = true := ax_chk_app ck_10_0 (by rw [List.drop_drop]; exact ck_10_t60)
theorem ck_10 : ax_chk prog_10_method_15_code tb_10 = true := ck_10_t0
theorem ck_11 : ax_chk prog_10_method_13_code tb_11 = true := by decide +kernel
theorem ck_12 : ax_chk prog_10_method_11_code tb_12 = true := by decide +kernel
theorem ck_13 : ax_chk prog_10_method_14_code tb_13 = true := by decide +kernel
theorem ck_14_0 : ax_chk prog_10_method_9_code ((tb_14.drop 0).take 60) = true := by decide +kernel
theorem ck_14_60 : ax_chk prog_10_method_9_code ((tb_14.drop 60).take 60) = true := by decide +kernel
theorem ck_14_120 : ax_chk prog_10_method_9_code ((tb_14.drop 120).take 60) = true := by decide +kernel
theorem ck_14_t120 : ax_chk prog_10_method_9_code (tb_14.drop 120) = true := ax_chk_app ck_14_120 (by decide +kernel)
theorem ck_14_t60 : ax_chk prog_10_method_9_code (tb_14.drop 60) = true := ax_chk_app ck_14_60 (by rw [List.drop_drop]; exact ck_14_t120)
theorem ck_14_t0 : ax_chk prog_10_method_9_code (tb_14.drop 0) = true := ax_chk_app ck_14_0 (by rw [List.drop_drop]; exact ck_14_t60)
theorem ck_14 : ax_chk prog_10_method_9_code tb_14 = true := ck_14_t0
theorem ck_15 : ax_chk prog_10_method_16_code tb_15 = true := by decide +kernel
theorem ck_16 : ax_chk prog_10_method_17_code tb_16 = true := by decide +kernel
theorem ck_17 : ax_chk prog_10_method_25_code tb_17 = true := by decide +kernel
theorem ck_18 : ax_chk prog_10_method_24_code tb_18 = true := by decide +kernel
theorem ck_19 : ax_chk prog_10_method_23_code tb_19 = true := by decide +kernel
theorem ck_20 : ax_chk prog_10_method_21_code tb_20 = true := by decide +kernel
theorem ck_21 : ax_chk prog_10_method_20_code tb_21 = true := by decide +kernel
theorem ck_22 : ax_chk prog_10_method_19_code tb_22 = true := by decide +kernel
theorem ck_23 : ax_chk prog_10_method_18_code tb_23 = true := by decide +kernel
theorem ck_24 : ax_chk prog_10_method_22_code tb_24 = true := by decide +kernel
theorem ck_25 : ax_chk prog_10_method_26_code tb_25 = true := by decide +kernel
theorem ck_26 : ax_chk prog_10_method_27_code tb_26 = true := by decide +kernel
theorem ck_27 : ax_chk prog_10_method_28_code tb_27 = true := by decide +kernel
theorem ck_28 : ax_chk prog_10_method_29_code tb_28 = true := by decide +kernel
theorem ck_29 : ax_chk prog_10_method_30_code tb_29 = true := by decide +kernel
theorem ck_30 : ax_chk prog_10_method_31_code tb_30 = true := by decide +kernel
theorem ck_31 : ax_chk prog_10_method_32_code tb_31 = true := by decide +kernel
theorem ck_32 : ax_chk prog_10_method_33_code tb_32 = true := by decide +kernel
theorem ck_33 : ax_chk prog_3_method_1_code tb_33 = true := by decide +kernel
theorem ck_34 : ax_chk prog_3_method_3_code tb_34 = true := by decide +kernel
theorem ck_35 : ax_chk prog_3_method_2_code tb_35 = true := by decide +kernel
theorem ck_36 : ax_chk prog_3_method_9_code tb_36 = true := by decide +kernel
theorem ck_37 : ax_chk prog_3_method_4_code tb_37 = true := by decide +kernel
theorem ck_38 : ax_chk prog_3_method_6_code tb_38 = true := by decide +kernel
theorem ck_39 : ax_chk prog_3_method_7_code tb_39 = true := by decide +kernel
theorem ck_40 : ax_chk prog_3_method_8_code tb_40 = true := by decide +kernel
theorem ck_41 : ax_chk prog_3_method_5_code tb_41 = true := by decide +kernel
theorem ck_42 : ax_chk prog_4_method_1_code tb_42 = true := by decide +kernel
theorem ck_43 : ax_chk prog_4_method_8_code tb_43 = true := by decide +kernel
theorem ck_44 : ax_chk prog_4_method_2_code tb_44 = true := by decide +kernel
theorem ck_45 : ax_chk prog_4_method_4_code tb_45 = true := by decide +kernel
theorem ck_46 : ax_chk prog_4_method_5_code tb_46 = true := by decide +kernel
theorem ck_47 : ax_chk prog_4_method_6_code tb_47 = true := by decide +kernel
theorem ck_48 : ax_chk prog_4_method_3_code tb_48 = true := by decide +kernel
theorem ck_49 : ax_chk prog_4_method_7_code tb_49 = true := by decide +kernel
theorem ck_50 : ax_chk prog_4_method_9_code tb_50 = true := by decide +kernel
theorem ck_51 : ax_chk prog_6_method_1_code tb_51 = true := by decide +kernel
theorem ck_52 : ax_chk prog_6_method_3_code tb_52 = true := by decide +kernel
theorem ck_53 : ax_chk prog_6_method_4_code tb_53 = true := by decide +kernel
theorem ck_54 : ax_chk prog_6_method_2_code tb_54 = true := by decide +kernel
theorem ck_55 : ax_chk prog_7_method_1_code tb_55 = true := by decide +kernel
theorem ck_56 : ax_chk prog_7_method_2_code tb_56 = true := by decide +kernel
theorem ck_57 : ax_chk prog_7_method_3_code tb_57 = true := by decide +kernel
theorem ck_58 : ax_chk prog_2_method_1_code tb_58 = true := by decide +kernel
theorem ck_59 : ax_chk prog_2_method_3_code tb_59 = true := by decide +kernel
theorem ck_60 : ax_chk prog_2_method_7_code tb_60 = true := by decide +kernel
theorem ck_61 : ax_chk prog_2_method_2_code tb_61 = true := by decide +kernel
theorem ck_62 : ax_chk prog_2_method_9_code tb_62 = true := by decide +kernel
theorem ck_63 : ax_chk prog_2_method_4_code tb_63 = true := by decide +kernel
theorem ck_64 : ax_chk prog_2_method_5_code tb_64 = true := by decide +kernel
theorem ck_65 : ax_chk prog_2_method_6_code tb_65 = true := by decide +kernel
theorem ck_66 : ax_chk prog_2_method_8_code tb_66 = true := by decide +kernel
theorem ck_67 : ax_chk prog_5_method_1_code tb_67 = true := by decide +kernel
theorem ck_68 : ax_chk prog_5_method_2_code tb_68 = true := by decide +kernel
theorem ck_69 : ax_chk prog_5_method_3_code tb_69 = true := by decide +kernel
theorem ck_70 : ax_chk prog_5_method_4_code tb_70 = true := by decide +kernel
theorem ck_71 : ax_chk prog_8_method_1_code tb_71 = true := by decide +kernel
theorem ck_72 : ax_chk prog_8_method_3_code tb_72 = true := by decide +kernel
theorem ck_73 : ax_chk prog_8_method_4_code tb_73 = true := by decide +kernel
theorem ck_74 : ax_chk prog_8_method_5_code tb_74 = true := by decide +kernel
theorem ck_75 : ax_chk prog_8_method_6_code tb_75 = true := by decide +kernel
theorem ck_76 : ax_chk prog_8_method_2_code tb_76 = true := by decide +kernel
theorem ck_77 : ax_chk prog_1_method_1_code tb_77 = true := by decide +kernel
theorem ck_78 : ax_chk prog_1_method_7_code tb_78 = true := by decide +kernel
theorem ck_79 : ax_chk prog_1_method_11_code tb_79 = true := by decide +kernel
theorem ck_80 : ax_chk prog_1_method_12_code tb_80 = true := by decide +kernel
theorem ck_81 : ax_chk prog_1_method_14_code tb_81 = true := by decide +kernel
theorem ck_82 : ax_chk prog_1_method_15_code tb_82 = true := by decide +kernel
theorem ck_83 : ax_chk prog_1_method_2_code tb_83 = true := by decide +kernel
theorem ck_84 : ax_chk prog_1_method_3_code tb_84 = true := by decide +kernel
theorem ck_85 : ax_chk prog_1_method_4_code tb_85 = true := by decide +kernel
theorem ck_86 : ax_chk prog_1_method_16_code tb_86 = true := by decide +kernel
theorem ck_87 : ax_chk prog_1_method_17_code tb_87 = true := by decide +kernel
theorem ck_88 : ax_chk prog_1_method_5_code tb_88 = true := by decide +kernel
theorem ck_89 : ax_chk prog_1_method_6_code tb_89 = true := by decide +kernel
theorem ck_90 : ax_chk prog_1_method_8_code tb_90 = true := by decide +kernel
theorem ck_91 : ax_chk prog_1_method_9_code tb_91 = true := by decide +kernel
theorem ck_92 : ax_chk prog_1_method_10_code tb_92 = true := by decide +kernel
theorem ck_93 : ax_chk prog_1_method_13_code tb_93 = true := by decide +kernel
theorem ck_94 : ax_chk method_2_code tb_94 = true := by decide +kernel
theorem ck_95 : ax_chk method_3_code tb_95 = true := by decide +kernel
theorem ck_96 : ax_chk method_4_code tb_96 = true := by decide +kernel
theorem ck_97 : ax_chk method_5_code tb_97 = true := by decide +kernel
theorem ck_98 : ax_chk method_6_code tb_98 = true := by decide +kernel
theorem ck_99 : ax_chk method_7_code tb_99 = true := by decide +kernel
theorem ck_100 : ax_chk method_8_code tb_100 = true := by decide +kernel
theorem ck_101 : ax_chk method_9_code tb_101 = true := by decide +kernel
theorem ck_102 : ax_chk method_10_code tb_102 = true := by decide +kernel
theorem ck_103 : ax_chk method_11_code tb_103 = true := by decide +kernel
theorem ck_104 : ax_chk prog_14_method_50_code tb_104 = true := by decide +kernel
theorem ck_105 : ax_chk prog_14_method_69_code tb_105 = true := by decide +kernel
theorem ck_106 : ax_chk prog_14_method_65_code tb_106 = true := by decide +kernel
theorem ck_107 : ax_chk prog_18_method_103_code tb_107 = true := by decide +kernel
theorem ck_108_0 : ax_chk code ((tb_108.drop 0).take 60) = true := by decide +kernel
theorem ck_108_60 : ax_chk code ((tb_108.drop 60).take 60) = true := by decide +kernel
theorem ck_108_120 : ax_chk code ((tb_108.drop 120).take 60) = true := by decide +kernel
theorem ck_108_180 : ax_chk code ((tb_108.drop 180).take 60) = true := by decide +kernel
theorem ck_108_240 : ax_chk code ((tb_108.drop 240).take 60) = true := by decide +kernel
theorem ck_108_300 : ax_chk code ((tb_108.drop 300).take 60) = true := by decide +kernel
theorem ck_108_360 : ax_chk code ((tb_108.drop 360).take 60) = true := by decide +kernel
theorem ck_108_420 : ax_chk code ((tb_108.drop 420).take 60) = true := by decide +kernel
theorem ck_108_t420 : ax_chk code (tb_108.drop 420) = true := ax_chk_app ck_108_420 (by decide +kernel)
theorem ck_108_t360 : ax_chk code (tb_108.drop 360) = true := ax_chk_app ck_108_360 (by rw [List.drop_drop]; exact ck_108_t420)
theorem ck_108_t300 : ax_chk code (tb_108.drop 300) = true := ax_chk_app ck_108_300 (by rw [List.drop_drop]; exact ck_108_t360)
theorem ck_108_t240 : ax_chk code (tb_108.drop 240) = true := ax_chk_app ck_108_240 (by rw [List.drop_drop]; exact ck_108_t300)
theorem ck_108_t180 : ax_chk code (tb_108.drop 180) = true := ax_chk_app ck_108_180 (by rw [List.drop_drop]; exact ck_108_t240)
theorem ck_108_t120 : ax_chk code (tb_108.drop 120) = true := ax_chk_app ck_108_120 (by rw [List.drop_drop]; exact ck_108_t180)
theorem ck_108_t60 : ax_chk code (tb_108.drop 60) = true := ax_chk_app ck_108_60 (by rw [List.drop_drop]; exact ck_108_t120)
theorem ck_108_t0 : ax_chk code (tb_108.drop 0) = true := ax_chk_app ck_108_0 (by rw [List.drop_drop]; exact ck_108_t60)
theorem ck_108 : ax_chk code tb_108 = true := ck_108_t0
theorem ax_all : ∀ q ∈ ax_ps, ax_chk q.1 q.2 = true := List.forall_mem_cons.mpr ⟨ck_0, List.forall_mem_cons.mpr ⟨ck_1, List.forall_mem_cons.mpr ⟨ck_2, List.forall_mem_cons.mpr ⟨ck_3, List.forall_mem_cons.mpr ⟨ck_4, List.forall_mem_cons.mpr ⟨ck_5, List.forall_mem_cons.mpr ⟨ck_6, List.forall_mem_cons.mpr ⟨ck_7, List.forall_mem_cons.mpr ⟨ck_8, List.forall_mem_cons.mpr ⟨ck_9, List.forall_mem_cons.mpr ⟨ck_10, List.forall_mem_cons.mpr ⟨ck_11, List.forall_mem_cons.mpr ⟨ck_12, List.forall_mem_cons.mpr ⟨ck_13, List.forall_mem_cons.mpr ⟨ck_14, List.forall_mem_cons.mpr ⟨ck_15, List.forall_mem_cons.mpr ⟨ck_16, List.forall_mem_cons.mpr ⟨ck_17, List.forall_mem_cons.mpr ⟨ck_18, List.forall_mem_cons.mpr ⟨ck_19, List.forall_mem_cons.mpr ⟨ck_20, List.forall_mem_cons.mpr ⟨ck_21, List.forall_mem_cons.mpr ⟨ck_22, List.forall_mem_cons.mpr ⟨ck_23, List.forall_mem_cons.mpr ⟨ck_24, List.forall_mem_cons.mpr ⟨ck_25, List.forall_mem_cons.mpr ⟨ck_26, List.forall_mem_cons.mpr ⟨ck_27, List.forall_mem_cons.mpr ⟨ck_28, List.forall_mem_cons.mpr ⟨ck_29, List.forall_mem_cons.mpr ⟨ck_30, List.forall_mem_cons.mpr ⟨ck_31, List.forall_mem_cons.mpr ⟨ck_32, List.forall_mem_cons.mpr ⟨ck_33, List.forall_mem_cons.mpr ⟨ck_34, List.forall_mem_cons.mpr ⟨ck_35, List.forall_mem_cons.mpr ⟨ck_36, List.forall_mem_cons.mpr ⟨ck_37, List.forall_mem_cons.mpr ⟨ck_38, List.forall_mem_cons.mpr ⟨ck_39, List.forall_mem_cons.mpr ⟨ck_40, List.forall_mem_cons.mpr ⟨ck_41, List.forall_mem_cons.mpr ⟨ck_42, List.forall_mem_cons.mpr ⟨ck_43, List.forall_mem_cons.mpr ⟨ck_44, List.forall_mem_cons.mpr ⟨ck_45, List.forall_mem_cons.mpr ⟨ck_46, List.forall_mem_cons.mpr ⟨ck_47, List.forall_mem_cons.mpr ⟨ck_48, List.forall_mem_cons.mpr ⟨ck_49, List.forall_mem_cons.mpr ⟨ck_50, List.forall_mem_cons.mpr ⟨ck_51, List.forall_mem_cons.mpr ⟨ck_52, List.forall_mem_cons.mpr ⟨ck_53, List.forall_mem_cons.mpr ⟨ck_54, List.forall_mem_cons.mpr ⟨ck_55, List.forall_mem_cons.mpr ⟨ck_56, List.forall_mem_cons.mpr ⟨ck_57, List.forall_mem_cons.mpr ⟨ck_58, List.forall_mem_cons.mpr ⟨ck_59, List.forall_mem_cons.mpr ⟨ck_60, List.forall_mem_cons.mpr ⟨ck_61, List.forall_mem_cons.mpr ⟨ck_62, List.forall_mem_cons.mpr ⟨ck_63, List.forall_mem_cons.mpr ⟨ck_64, List.forall_mem_cons.mpr ⟨ck_65, List.forall_mem_cons.mpr ⟨ck_66, List.forall_mem_cons.mpr ⟨ck_67, List.forall_mem_cons.mpr ⟨ck_68, List.forall_mem_cons.mpr ⟨ck_69, List.forall_mem_cons.mpr ⟨ck_70, List.forall_mem_cons.mpr ⟨ck_71, List.forall_mem_cons.mpr ⟨ck_72, List.forall_mem_cons.mpr ⟨ck_73, List.forall_mem_cons.mpr ⟨ck_74, List.forall_mem_cons.mpr ⟨ck_75, List.forall_mem_cons.mpr ⟨ck_76, List.forall_mem_cons.mpr ⟨ck_77, List.forall_mem_cons.mpr ⟨ck_78, List.forall_mem_cons.mpr ⟨ck_79, List.forall_mem_cons.mpr ⟨ck_80, List.forall_mem_cons.mpr ⟨ck_81, List.forall_mem_cons.mpr ⟨ck_82, List.forall_mem_cons.mpr ⟨ck_83, List.forall_mem_cons.mpr ⟨ck_84, List.forall_mem_cons.mpr ⟨ck_85, List.forall_mem_cons.mpr ⟨ck_86, List.forall_mem_cons.mpr ⟨ck_87, List.forall_mem_cons.mpr ⟨ck_88, List.forall_mem_cons.mpr ⟨ck_89, List.forall_mem_cons.mpr ⟨ck_90, List.forall_mem_cons.mpr ⟨ck_91, List.forall_mem_cons.mpr ⟨ck_92, List.forall_mem_cons.mpr ⟨ck_93, List.forall_mem_cons.mpr ⟨ck_94, List.forall_mem_cons.mpr ⟨ck_95, List.forall_mem_cons.mpr ⟨ck_96, List.forall_mem_cons.mpr ⟨ck_97, List.forall_mem_cons.mpr ⟨ck_98, List.forall_mem_cons.mpr ⟨ck_99, List.forall_mem_cons.mpr ⟨ck_100, List.forall_mem_cons.mpr ⟨ck_101, List.forall_mem_cons.mpr ⟨ck_102, List.forall_mem_cons.mpr ⟨ck_103, List.forall_mem_cons.mpr ⟨ck_104, List.forall_mem_cons.mpr ⟨ck_105, List.forall_mem_cons.mpr ⟨ck_106, List.forall_mem_cons.mpr ⟨ck_107, List.forall_mem_cons.mpr ⟨ck_108, fun _ h => absurd h List.not_mem_nil⟩⟩⟩⟩⟩⟩⟩⟩⟩⟩⟩⟩⟩⟩⟩⟩⟩⟩⟩⟩⟩⟩⟩⟩⟩⟩⟩⟩⟩⟩⟩⟩⟩⟩⟩⟩⟩⟩⟩⟩⟩⟩⟩⟩⟩⟩⟩⟩⟩⟩⟩⟩⟩⟩⟩⟩⟩⟩⟩⟩⟩⟩⟩⟩⟩⟩⟩⟩⟩⟩⟩⟩⟩⟩⟩⟩⟩⟩⟩⟩⟩⟩⟩⟩⟩⟩⟩⟩⟩⟩⟩⟩⟩⟩⟩⟩⟩⟩⟩⟩⟩⟩⟩⟩⟩⟩⟩⟩⟩
theorem ax_fxo {M pc : Nat} {i : Instr} {len : Nat} (h : ax_fx M pc = some (i, len)) : decode (ax_cd M) pc = .ok (i, len) ∧ ax_ok pc i len = true := by
  unfold ax_fx at h
  unfold ax_cd
  cases hq : ax_nth ax_ps M with
  | none => rw [hq] at h; cases h
  | some q =>
    rw [hq] at h
    have h1 := List.all_eq_true.mp (ax_all q (ax_nth_mem hq)) _ (ax_lk_mem h)
    rw [Bool.and_eq_true, decide_eq_true_eq] at h1
    exact h1
