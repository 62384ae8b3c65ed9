abbrev y_Md_owes : MethodName := ⟨"SmallHarbourModel", "owes", "(I)I"⟩
abbrev b_Md_owes : ByteArray := prog_14_method_72_code
theorem mi_Md_owes : MI y_Md_owes b_Md_owes 4 (some .int) 1 := ⟨w_1323, w_13, by decide +kernel, by decide, by decide⟩
theorem mv_Md_owes : MV y_Md_owes := ⟨w_1321, w_1322⟩
theorem d_Md_owes_0 : decode b_Md_owes 0 = .ok (.iconst 0, 1) := by decide +kernel
theorem d_Md_owes_1 : decode b_Md_owes 1 = .ok (.istore_n 2, 1) := by decide +kernel
theorem d_Md_owes_2 : decode b_Md_owes 2 = .ok (.iconst 0, 1) := by decide +kernel
theorem d_Md_owes_3 : decode b_Md_owes 3 = .ok (.istore_n 3, 1) := by decide +kernel
theorem d_Md_owes_4 : decode b_Md_owes 4 = .ok (.iload_n 3, 1) := by decide +kernel
theorem d_Md_owes_5 : decode b_Md_owes 5 = .ok (.aload_n 0, 1) := by decide +kernel
theorem d_Md_owes_6 : decode b_Md_owes 6 = .ok (.getfield 148, 3) := by decide +kernel
theorem d_Md_owes_9 : decode b_Md_owes 9 = .ok (.if_icmp .ge 39, 3) := by decide +kernel
theorem d_Md_owes_12 : decode b_Md_owes 12 = .ok (.iload_n 2, 1) := by decide +kernel
theorem d_Md_owes_13 : decode b_Md_owes 13 = .ok (.aload_n 0, 1) := by decide +kernel
theorem d_Md_owes_14 : decode b_Md_owes 14 = .ok (.iload_n 1, 1) := by decide +kernel
theorem d_Md_owes_15 : decode b_Md_owes 15 = .ok (.invokevirtual 179, 3) := by decide +kernel
theorem d_Md_owes_18 : decode b_Md_owes 18 = .ok (.ifCond .eq 21, 3) := by decide +kernel
theorem d_Md_owes_21 : decode b_Md_owes 21 = .ok (.aload_n 0, 1) := by decide +kernel
theorem d_Md_owes_22 : decode b_Md_owes 22 = .ok (.getfield 44, 3) := by decide +kernel
theorem d_Md_owes_25 : decode b_Md_owes 25 = .ok (.iload_n 3, 1) := by decide +kernel
theorem d_Md_owes_26 : decode b_Md_owes 26 = .ok (.iaload, 1) := by decide +kernel
theorem d_Md_owes_27 : decode b_Md_owes 27 = .ok (.iload_n 1, 1) := by decide +kernel
theorem d_Md_owes_28 : decode b_Md_owes 28 = .ok (.if_icmp .ne 11, 3) := by decide +kernel
theorem d_Md_owes_31 : decode b_Md_owes 31 = .ok (.aload_n 0, 1) := by decide +kernel
theorem d_Md_owes_32 : decode b_Md_owes 32 = .ok (.iload_n 3, 1) := by decide +kernel
theorem d_Md_owes_33 : decode b_Md_owes 33 = .ok (.invokevirtual 251, 3) := by decide +kernel
theorem d_Md_owes_36 : decode b_Md_owes 36 = .ok (.goto 4, 3) := by decide +kernel
theorem d_Md_owes_39 : decode b_Md_owes 39 = .ok (.iconst 0, 1) := by decide +kernel
theorem d_Md_owes_40 : decode b_Md_owes 40 = .ok (.iadd, 1) := by decide +kernel
theorem d_Md_owes_41 : decode b_Md_owes 41 = .ok (.istore_n 2, 1) := by decide +kernel
theorem d_Md_owes_42 : decode b_Md_owes 42 = .ok (.iinc 3 1, 3) := by decide +kernel
theorem d_Md_owes_45 : decode b_Md_owes 45 = .ok (.goto (-41), 3) := by decide +kernel
theorem d_Md_owes_48 : decode b_Md_owes 48 = .ok (.iload_n 2, 1) := by decide +kernel
theorem d_Md_owes_49 : decode b_Md_owes 49 = .ok (.ireturn, 1) := by decide +kernel
abbrev y_Md_part : MethodName := ⟨"SmallHarbourModel", "part", "()I"⟩
abbrev b_Md_part : ByteArray := prog_14_method_64_code
theorem mi_Md_part : MI y_Md_part b_Md_part 2 (some .int) 0 := ⟨w_1275, w_13, by decide +kernel, by decide, by decide⟩
theorem mv_Md_part : MV y_Md_part := ⟨w_1274, w_s4_11⟩
theorem d_Md_part_0 : decode b_Md_part 0 = .ok (.aload_n 0, 1) := by decide +kernel
theorem d_Md_part_1 : decode b_Md_part 1 = .ok (.getfield 288, 3) := by decide +kernel
theorem d_Md_part_4 : decode b_Md_part 4 = .ok (.iconst 1, 1) := by decide +kernel
theorem d_Md_part_5 : decode b_Md_part 5 = .ok (.iconst 4, 1) := by decide +kernel
theorem d_Md_part_6 : decode b_Md_part 6 = .ok (.invokestatic 144, 3) := by decide +kernel
theorem d_Md_part_9 : decode b_Md_part 9 = .ok (.ifCond .eq 50, 3) := by decide +kernel
theorem d_Md_part_12 : decode b_Md_part 12 = .ok (.aload_n 0, 1) := by decide +kernel
theorem d_Md_part_13 : decode b_Md_part 13 = .ok (.getfield 288, 3) := by decide +kernel
theorem d_Md_part_16 : decode b_Md_part 16 = .ok (.iconst 4, 1) := by decide +kernel
theorem d_Md_part_17 : decode b_Md_part 17 = .ok (.if_icmp .ne 15, 3) := by decide +kernel
theorem d_Md_part_20 : decode b_Md_part 20 = .ok (.aload_n 0, 1) := by decide +kernel
theorem d_Md_part_21 : decode b_Md_part 21 = .ok (.getfield 294, 3) := by decide +kernel
theorem d_Md_part_24 : decode b_Md_part 24 = .ok (.ldc_w 338, 3) := by decide +kernel
theorem d_Md_part_27 : decode b_Md_part 27 = .ok (.if_icmp .le 5, 3) := by decide +kernel
theorem d_Md_part_30 : decode b_Md_part 30 = .ok (.iconst 2, 1) := by decide +kernel
theorem d_Md_part_31 : decode b_Md_part 31 = .ok (.ireturn, 1) := by decide +kernel
theorem d_Md_part_32 : decode b_Md_part 32 = .ok (.aload_n 0, 1) := by decide +kernel
theorem d_Md_part_33 : decode b_Md_part 33 = .ok (.invokevirtual 339, 3) := by decide +kernel
theorem d_Md_part_36 : decode b_Md_part 36 = .ok (.ifCond .eq 5, 3) := by decide +kernel
theorem d_Md_part_39 : decode b_Md_part 39 = .ok (.iconst 3, 1) := by decide +kernel
theorem d_Md_part_40 : decode b_Md_part 40 = .ok (.ireturn, 1) := by decide +kernel
theorem d_Md_part_41 : decode b_Md_part 41 = .ok (.aload_n 0, 1) := by decide +kernel
theorem d_Md_part_42 : decode b_Md_part 42 = .ok (.aload_n 0, 1) := by decide +kernel
theorem d_Md_part_43 : decode b_Md_part 43 = .ok (.getfield 288, 3) := by decide +kernel
theorem d_Md_part_46 : decode b_Md_part 46 = .ok (.aload_n 0, 1) := by decide +kernel
theorem d_Md_part_47 : decode b_Md_part 47 = .ok (.getfield 294, 3) := by decide +kernel
theorem d_Md_part_50 : decode b_Md_part 50 = .ok (.invokevirtual 322, 3) := by decide +kernel
theorem d_Md_part_53 : decode b_Md_part 53 = .ok (.aload_n 0, 1) := by decide +kernel
theorem d_Md_part_54 : decode b_Md_part 54 = .ok (.invokevirtual 342, 3) := by decide +kernel
theorem d_Md_part_57 : decode b_Md_part 57 = .ok (.iconst 0, 1) := by decide +kernel
theorem d_Md_part_58 : decode b_Md_part 58 = .ok (.ireturn, 1) := by decide +kernel
theorem d_Md_part_59 : decode b_Md_part 59 = .ok (.aload_n 0, 1) := by decide +kernel
theorem d_Md_part_60 : decode b_Md_part 60 = .ok (.invokevirtual 316, 3) := by decide +kernel
theorem d_Md_part_63 : decode b_Md_part 63 = .ok (.invokestatic 319, 3) := by decide +kernel
theorem d_Md_part_66 : decode b_Md_part 66 = .ok (.ifCond .ne 16, 3) := by decide +kernel
theorem d_Md_part_69 : decode b_Md_part 69 = .ok (.aload_n 0, 1) := by decide +kernel
theorem d_Md_part_70 : decode b_Md_part 70 = .ok (.invokevirtual 316, 3) := by decide +kernel
theorem d_Md_part_73 : decode b_Md_part 73 = .ok (.bipush 18, 2) := by decide +kernel
theorem d_Md_part_75 : decode b_Md_part 75 = .ok (.if_icmp .eq 7, 3) := by decide +kernel
theorem d_Md_part_78 : decode b_Md_part 78 = .ok (.iconst 1, 1) := by decide +kernel
theorem d_Md_part_79 : decode b_Md_part 79 = .ok (.goto 4, 3) := by decide +kernel
theorem d_Md_part_82 : decode b_Md_part 82 = .ok (.iconst 0, 1) := by decide +kernel
theorem d_Md_part_83 : decode b_Md_part 83 = .ok (.istore_n 1, 1) := by decide +kernel
theorem d_Md_part_84 : decode b_Md_part 84 = .ok (.aload_n 0, 1) := by decide +kernel
theorem d_Md_part_85 : decode b_Md_part 85 = .ok (.getfield 288, 3) := by decide +kernel
theorem d_Md_part_88 : decode b_Md_part 88 = .ok (.bipush 8, 2) := by decide +kernel
theorem d_Md_part_90 : decode b_Md_part 90 = .ok (.if_icmp .eq 26, 3) := by decide +kernel
theorem d_Md_part_93 : decode b_Md_part 93 = .ok (.aload_n 0, 1) := by decide +kernel
theorem d_Md_part_94 : decode b_Md_part 94 = .ok (.getfield 288, 3) := by decide +kernel
theorem d_Md_part_97 : decode b_Md_part 97 = .ok (.bipush 11, 2) := by decide +kernel
theorem d_Md_part_99 : decode b_Md_part 99 = .ok (.if_icmp .eq 17, 3) := by decide +kernel
theorem d_Md_part_102 : decode b_Md_part 102 = .ok (.aload_n 0, 1) := by decide +kernel
theorem d_Md_part_103 : decode b_Md_part 103 = .ok (.getfield 288, 3) := by decide +kernel
theorem d_Md_part_106 : decode b_Md_part 106 = .ok (.iconst 5, 1) := by decide +kernel
theorem d_Md_part_107 : decode b_Md_part 107 = .ok (.if_icmp .ne 7, 3) := by decide +kernel
theorem d_Md_part_110 : decode b_Md_part 110 = .ok (.iload_n 1, 1) := by decide +kernel
theorem d_Md_part_111 : decode b_Md_part 111 = .ok (.ifCond .ne 5, 3) := by decide +kernel
theorem d_Md_part_114 : decode b_Md_part 114 = .ok (.iconst 1, 1) := by decide +kernel
theorem d_Md_part_115 : decode b_Md_part 115 = .ok (.ireturn, 1) := by decide +kernel
theorem d_Md_part_116 : decode b_Md_part 116 = .ok (.aload_n 0, 1) := by decide +kernel
theorem d_Md_part_117 : decode b_Md_part 117 = .ok (.invokevirtual 339, 3) := by decide +kernel
theorem d_Md_part_120 : decode b_Md_part 120 = .ok (.ifCond .ne 12, 3) := by decide +kernel
theorem d_Md_part_123 : decode b_Md_part 123 = .ok (.aload_n 0, 1) := by decide +kernel
theorem d_Md_part_124 : decode b_Md_part 124 = .ok (.getfield 328, 3) := by decide +kernel
theorem d_Md_part_127 : decode b_Md_part 127 = .ok (.bipush 10, 2) := by decide +kernel
theorem d_Md_part_129 : decode b_Md_part 129 = .ok (.if_icmp .ne 5, 3) := by decide +kernel
theorem d_Md_part_132 : decode b_Md_part 132 = .ok (.iconst 3, 1) := by decide +kernel
theorem d_Md_part_133 : decode b_Md_part 133 = .ok (.ireturn, 1) := by decide +kernel
theorem d_Md_part_134 : decode b_Md_part 134 = .ok (.aload_n 0, 1) := by decide +kernel
theorem d_Md_part_135 : decode b_Md_part 135 = .ok (.dup, 1) := by decide +kernel
theorem d_Md_part_136 : decode b_Md_part 136 = .ok (.getfield 328, 3) := by decide +kernel
theorem d_Md_part_139 : decode b_Md_part 139 = .ok (.iconst 1, 1) := by decide +kernel
theorem d_Md_part_140 : decode b_Md_part 140 = .ok (.iadd, 1) := by decide +kernel
theorem d_Md_part_141 : decode b_Md_part 141 = .ok (.putfield 328, 3) := by decide +kernel
theorem d_Md_part_144 : decode b_Md_part 144 = .ok (.aload_n 0, 1) := by decide +kernel
theorem d_Md_part_145 : decode b_Md_part 145 = .ok (.aload_n 0, 1) := by decide +kernel
theorem d_Md_part_146 : decode b_Md_part 146 = .ok (.getfield 288, 3) := by decide +kernel
theorem d_Md_part_149 : decode b_Md_part 149 = .ok (.bipush 11, 2) := by decide +kernel
theorem d_Md_part_151 : decode b_Md_part 151 = .ok (.if_icmp .ne 8, 3) := by decide +kernel
theorem d_Md_part_154 : decode b_Md_part 154 = .ok (.bipush 18, 2) := by decide +kernel
theorem d_Md_part_156 : decode b_Md_part 156 = .ok (.goto 7, 3) := by decide +kernel
theorem d_Md_part_159 : decode b_Md_part 159 = .ok (.aload_n 0, 1) := by decide +kernel
theorem d_Md_part_160 : decode b_Md_part 160 = .ok (.getfield 288, 3) := by decide +kernel
theorem d_Md_part_163 : decode b_Md_part 163 = .ok (.invokevirtual 345, 3) := by decide +kernel
theorem d_Md_part_166 : decode b_Md_part 166 = .ok (.iconst 0, 1) := by decide +kernel
theorem d_Md_part_167 : decode b_Md_part 167 = .ok (.ireturn, 1) := by decide +kernel
abbrev y_Md_read : MethodName := ⟨"SmallHarbourModel", "read", "()I"⟩
abbrev b_Md_read : ByteArray := prog_14_method_66_code
theorem mi_Md_read : MI y_Md_read b_Md_read 2 (some .int) 0 := ⟨w_1247, w_13, by decide +kernel, by decide, by decide⟩
theorem mv_Md_read : MV y_Md_read := ⟨w_1246, w_s4_8⟩
theorem d_Md_read_0 : decode b_Md_read 0 = .ok (.aload_n 0, 1) := by decide +kernel
theorem d_Md_read_1 : decode b_Md_read 1 = .ok (.iconst 0, 1) := by decide +kernel
theorem d_Md_read_2 : decode b_Md_read 2 = .ok (.putfield 280, 3) := by decide +kernel
theorem d_Md_read_5 : decode b_Md_read 5 = .ok (.aload_n 0, 1) := by decide +kernel
theorem d_Md_read_6 : decode b_Md_read 6 = .ok (.iconst 0, 1) := by decide +kernel
theorem d_Md_read_7 : decode b_Md_read 7 = .ok (.putfield 313, 3) := by decide +kernel
theorem d_Md_read_10 : decode b_Md_read 10 = .ok (.aload_n 0, 1) := by decide +kernel
theorem d_Md_read_11 : decode b_Md_read 11 = .ok (.iconst 0, 1) := by decide +kernel
theorem d_Md_read_12 : decode b_Md_read 12 = .ok (.putfield 328, 3) := by decide +kernel
theorem d_Md_read_15 : decode b_Md_read 15 = .ok (.aload_n 0, 1) := by decide +kernel
theorem d_Md_read_16 : decode b_Md_read 16 = .ok (.iconst 0, 1) := by decide +kernel
theorem d_Md_read_17 : decode b_Md_read 17 = .ok (.putfield 335, 3) := by decide +kernel
theorem d_Md_read_20 : decode b_Md_read 20 = .ok (.aload_n 0, 1) := by decide +kernel
theorem d_Md_read_21 : decode b_Md_read 21 = .ok (.iconst 1, 1) := by decide +kernel
theorem d_Md_read_22 : decode b_Md_read 22 = .ok (.putfield 331, 3) := by decide +kernel
theorem d_Md_read_25 : decode b_Md_read 25 = .ok (.aload_n 0, 1) := by decide +kernel
theorem d_Md_read_26 : decode b_Md_read 26 = .ok (.invokevirtual 351, 3) := by decide +kernel
theorem d_Md_read_29 : decode b_Md_read 29 = .ok (.aload_n 0, 1) := by decide +kernel
theorem d_Md_read_30 : decode b_Md_read 30 = .ok (.getfield 288, 3) := by decide +kernel
theorem d_Md_read_33 : decode b_Md_read 33 = .ok (.ifCond .eq 45, 3) := by decide +kernel
theorem d_Md_read_36 : decode b_Md_read 36 = .ok (.aload_n 0, 1) := by decide +kernel
theorem d_Md_read_37 : decode b_Md_read 37 = .ok (.getfield 331, 3) := by decide +kernel
theorem d_Md_read_40 : decode b_Md_read 40 = .ok (.ifCond .eq 10, 3) := by decide +kernel
theorem d_Md_read_43 : decode b_Md_read 43 = .ok (.aload_n 0, 1) := by decide +kernel
theorem d_Md_read_44 : decode b_Md_read 44 = .ok (.invokevirtual 354, 3) := by decide +kernel
theorem d_Md_read_47 : decode b_Md_read 47 = .ok (.goto 7, 3) := by decide +kernel
theorem d_Md_read_50 : decode b_Md_read 50 = .ok (.aload_n 0, 1) := by decide +kernel
theorem d_Md_read_51 : decode b_Md_read 51 = .ok (.invokevirtual 357, 3) := by decide +kernel
theorem d_Md_read_54 : decode b_Md_read 54 = .ok (.istore_n 1, 1) := by decide +kernel
theorem d_Md_read_55 : decode b_Md_read 55 = .ok (.iload_n 1, 1) := by decide +kernel
theorem d_Md_read_56 : decode b_Md_read 56 = .ok (.ifCond .eq 5, 3) := by decide +kernel
theorem d_Md_read_59 : decode b_Md_read 59 = .ok (.iload_n 1, 1) := by decide +kernel
theorem d_Md_read_60 : decode b_Md_read 60 = .ok (.ireturn, 1) := by decide +kernel
theorem d_Md_read_61 : decode b_Md_read 61 = .ok (.aload_n 0, 1) := by decide +kernel
theorem d_Md_read_62 : decode b_Md_read 62 = .ok (.dup, 1) := by decide +kernel
theorem d_Md_read_63 : decode b_Md_read 63 = .ok (.getfield 335, 3) := by decide +kernel
theorem d_Md_read_66 : decode b_Md_read 66 = .ok (.iconst 1, 1) := by decide +kernel
theorem d_Md_read_67 : decode b_Md_read 67 = .ok (.iadd, 1) := by decide +kernel
theorem d_Md_read_68 : decode b_Md_read 68 = .ok (.putfield 335, 3) := by decide +kernel
theorem d_Md_read_71 : decode b_Md_read 71 = .ok (.aload_n 0, 1) := by decide +kernel
theorem d_Md_read_72 : decode b_Md_read 72 = .ok (.invokevirtual 351, 3) := by decide +kernel
theorem d_Md_read_75 : decode b_Md_read 75 = .ok (.goto (-46), 3) := by decide +kernel
theorem d_Md_read_78 : decode b_Md_read 78 = .ok (.aload_n 0, 1) := by decide +kernel
theorem d_Md_read_79 : decode b_Md_read 79 = .ok (.getfield 331, 3) := by decide +kernel
theorem d_Md_read_82 : decode b_Md_read 82 = .ok (.ifCond .ne 10, 3) := by decide +kernel
theorem d_Md_read_85 : decode b_Md_read 85 = .ok (.aload_n 0, 1) := by decide +kernel
theorem d_Md_read_86 : decode b_Md_read 86 = .ok (.invokevirtual 348, 3) := by decide +kernel
theorem d_Md_read_89 : decode b_Md_read 89 = .ok (.ifCond .eq 7, 3) := by decide +kernel
theorem d_Md_read_92 : decode b_Md_read 92 = .ok (.iconst 1, 1) := by decide +kernel
theorem d_Md_read_93 : decode b_Md_read 93 = .ok (.goto 4, 3) := by decide +kernel
theorem d_Md_read_96 : decode b_Md_read 96 = .ok (.iconst 0, 1) := by decide +kernel
theorem d_Md_read_97 : decode b_Md_read 97 = .ok (.ireturn, 1) := by decide +kernel
abbrev y_Md_rule : MethodName := ⟨"SmallHarbourModel", "rule", "(I)I"⟩
abbrev b_Md_rule : ByteArray := prog_14_method_67_code
theorem mi_Md_rule : MI y_Md_rule b_Md_rule 2 (some .int) 1 := ⟨w_1243, w_13, by decide +kernel, by decide, by decide⟩
theorem mv_Md_rule : MV y_Md_rule := ⟨w_1241, w_1242⟩
theorem d_Md_rule_0 : decode b_Md_rule 0 = .ok (.iload_n 1, 1) := by decide +kernel
theorem d_Md_rule_1 : decode b_Md_rule 1 = .ok (.iconst 0, 1) := by decide +kernel
theorem d_Md_rule_2 : decode b_Md_rule 2 = .ok (.sipush 399, 3) := by decide +kernel
theorem d_Md_rule_5 : decode b_Md_rule 5 = .ok (.invokestatic 144, 3) := by decide +kernel
theorem d_Md_rule_8 : decode b_Md_rule 8 = .ok (.ifCond .eq 12, 3) := by decide +kernel
theorem d_Md_rule_11 : decode b_Md_rule 11 = .ok (.aload_n 0, 1) := by decide +kernel
theorem d_Md_rule_12 : decode b_Md_rule 12 = .ok (.getfield 244, 3) := by decide +kernel
theorem d_Md_rule_15 : decode b_Md_rule 15 = .ok (.bipush 8, 2) := by decide +kernel
theorem d_Md_rule_17 : decode b_Md_rule 17 = .ok (.if_icmp .ne 5, 3) := by decide +kernel
theorem d_Md_rule_20 : decode b_Md_rule 20 = .ok (.iconst (-1), 1) := by decide +kernel
theorem d_Md_rule_21 : decode b_Md_rule 21 = .ok (.ireturn, 1) := by decide +kernel
theorem d_Md_rule_22 : decode b_Md_rule 22 = .ok (.aload_n 0, 1) := by decide +kernel
theorem d_Md_rule_23 : decode b_Md_rule 23 = .ok (.aload_n 0, 1) := by decide +kernel
theorem d_Md_rule_24 : decode b_Md_rule 24 = .ok (.getfield 120, 3) := by decide +kernel
theorem d_Md_rule_27 : decode b_Md_rule 27 = .ok (.aload_n 0, 1) := by decide +kernel
theorem d_Md_rule_28 : decode b_Md_rule 28 = .ok (.getfield 244, 3) := by decide +kernel
theorem d_Md_rule_31 : decode b_Md_rule 31 = .ok (.iaload, 1) := by decide +kernel
theorem d_Md_rule_32 : decode b_Md_rule 32 = .ok (.putfield 310, 3) := by decide +kernel
theorem d_Md_rule_35 : decode b_Md_rule 35 = .ok (.aload_n 0, 1) := by decide +kernel
theorem d_Md_rule_36 : decode b_Md_rule 36 = .ok (.aload_n 0, 1) := by decide +kernel
theorem d_Md_rule_37 : decode b_Md_rule 37 = .ok (.invokevirtual 360, 3) := by decide +kernel
theorem d_Md_rule_40 : decode b_Md_rule 40 = .ok (.putfield 129, 3) := by decide +kernel
theorem d_Md_rule_43 : decode b_Md_rule 43 = .ok (.aload_n 0, 1) := by decide +kernel
theorem d_Md_rule_44 : decode b_Md_rule 44 = .ok (.aload_n 0, 1) := by decide +kernel
theorem d_Md_rule_45 : decode b_Md_rule 45 = .ok (.getfield 129, 3) := by decide +kernel
theorem d_Md_rule_48 : decode b_Md_rule 48 = .ok (.ifCond .ne 7, 3) := by decide +kernel
theorem d_Md_rule_51 : decode b_Md_rule 51 = .ok (.iconst (-1), 1) := by decide +kernel
theorem d_Md_rule_52 : decode b_Md_rule 52 = .ok (.goto 7, 3) := by decide +kernel
theorem d_Md_rule_55 : decode b_Md_rule 55 = .ok (.aload_n 0, 1) := by decide +kernel
theorem d_Md_rule_56 : decode b_Md_rule 56 = .ok (.getfield 285, 3) := by decide +kernel
theorem d_Md_rule_59 : decode b_Md_rule 59 = .ok (.putfield 132, 3) := by decide +kernel
theorem d_Md_rule_62 : decode b_Md_rule 62 = .ok (.aload_n 0, 1) := by decide +kernel
theorem d_Md_rule_63 : decode b_Md_rule 63 = .ok (.iconst 0, 1) := by decide +kernel
theorem d_Md_rule_64 : decode b_Md_rule 64 = .ok (.putfield 273, 3) := by decide +kernel
theorem d_Md_rule_67 : decode b_Md_rule 67 = .ok (.aload_n 0, 1) := by decide +kernel
theorem d_Md_rule_68 : decode b_Md_rule 68 = .ok (.getfield 129, 3) := by decide +kernel
theorem d_Md_rule_71 : decode b_Md_rule 71 = .ok (.ifCond .eq 5, 3) := by decide +kernel
theorem d_Md_rule_74 : decode b_Md_rule 74 = .ok (.iconst (-1), 1) := by decide +kernel
theorem d_Md_rule_75 : decode b_Md_rule 75 = .ok (.ireturn, 1) := by decide +kernel
theorem d_Md_rule_76 : decode b_Md_rule 76 = .ok (.aload_n 0, 1) := by decide +kernel
theorem d_Md_rule_77 : decode b_Md_rule 77 = .ok (.getfield 117, 3) := by decide +kernel
theorem d_Md_rule_80 : decode b_Md_rule 80 = .ok (.aload_n 0, 1) := by decide +kernel
theorem d_Md_rule_81 : decode b_Md_rule 81 = .ok (.getfield 244, 3) := by decide +kernel
theorem d_Md_rule_84 : decode b_Md_rule 84 = .ok (.iload_n 1, 1) := by decide +kernel
theorem d_Md_rule_85 : decode b_Md_rule 85 = .ok (.iastore, 1) := by decide +kernel
theorem d_Md_rule_86 : decode b_Md_rule 86 = .ok (.aload_n 0, 1) := by decide +kernel
theorem d_Md_rule_87 : decode b_Md_rule 87 = .ok (.dup, 1) := by decide +kernel
theorem d_Md_rule_88 : decode b_Md_rule 88 = .ok (.getfield 244, 3) := by decide +kernel
theorem d_Md_rule_91 : decode b_Md_rule 91 = .ok (.iconst 1, 1) := by decide +kernel
theorem d_Md_rule_92 : decode b_Md_rule 92 = .ok (.iadd, 1) := by decide +kernel
theorem d_Md_rule_93 : decode b_Md_rule 93 = .ok (.putfield 244, 3) := by decide +kernel
theorem d_Md_rule_96 : decode b_Md_rule 96 = .ok (.aload_n 0, 1) := by decide +kernel
theorem d_Md_rule_97 : decode b_Md_rule 97 = .ok (.getfield 120, 3) := by decide +kernel
theorem d_Md_rule_100 : decode b_Md_rule 100 = .ok (.aload_n 0, 1) := by decide +kernel
theorem d_Md_rule_101 : decode b_Md_rule 101 = .ok (.getfield 244, 3) := by decide +kernel
theorem d_Md_rule_104 : decode b_Md_rule 104 = .ok (.aload_n 0, 1) := by decide +kernel
theorem d_Md_rule_105 : decode b_Md_rule 105 = .ok (.getfield 310, 3) := by decide +kernel
theorem d_Md_rule_108 : decode b_Md_rule 108 = .ok (.iastore, 1) := by decide +kernel
theorem d_Md_rule_109 : decode b_Md_rule 109 = .ok (.aload_n 0, 1) := by decide +kernel
theorem d_Md_rule_110 : decode b_Md_rule 110 = .ok (.getfield 244, 3) := by decide +kernel
theorem d_Md_rule_113 : decode b_Md_rule 113 = .ok (.iconst 1, 1) := by decide +kernel
theorem d_Md_rule_114 : decode b_Md_rule 114 = .ok (.isub, 1) := by decide +kernel
theorem d_Md_rule_115 : decode b_Md_rule 115 = .ok (.ireturn, 1) := by decide +kernel
abbrev y_Md_says : MethodName := ⟨"SmallHarbourModel", "says", "(IIII)I"⟩
abbrev b_Md_says : ByteArray := prog_14_method_71_code
theorem mi_Md_says : MI y_Md_says b_Md_says 5 (some .int) 4 := ⟨w_1319, w_13, by decide +kernel, by decide, by decide⟩
theorem mv_Md_says : MV y_Md_says := ⟨w_1317, w_1318⟩
theorem d_Md_says_0 : decode b_Md_says 0 = .ok (.iload_n 1, 1) := by decide +kernel
theorem d_Md_says_1 : decode b_Md_says 1 = .ok (.iconst 0, 1) := by decide +kernel
theorem d_Md_says_2 : decode b_Md_says 2 = .ok (.aload_n 0, 1) := by decide +kernel
theorem d_Md_says_3 : decode b_Md_says 3 = .ok (.getfield 244, 3) := by decide +kernel
theorem d_Md_says_6 : decode b_Md_says 6 = .ok (.iconst 1, 1) := by decide +kernel
theorem d_Md_says_7 : decode b_Md_says 7 = .ok (.isub, 1) := by decide +kernel
theorem d_Md_says_8 : decode b_Md_says 8 = .ok (.invokestatic 144, 3) := by decide +kernel
theorem d_Md_says_11 : decode b_Md_says 11 = .ok (.ifCond .eq 15, 3) := by decide +kernel
theorem d_Md_says_14 : decode b_Md_says 14 = .ok (.aload_n 0, 1) := by decide +kernel
theorem d_Md_says_15 : decode b_Md_says 15 = .ok (.iload_n 1, 1) := by decide +kernel
theorem d_Md_says_16 : decode b_Md_says 16 = .ok (.iload_n 2, 1) := by decide +kernel
theorem d_Md_says_17 : decode b_Md_says 17 = .ok (.iload_n 3, 1) := by decide +kernel
theorem d_Md_says_18 : decode b_Md_says 18 = .ok (.iload 4, 2) := by decide +kernel
theorem d_Md_says_20 : decode b_Md_says 20 = .ok (.invokevirtual 247, 3) := by decide +kernel
theorem d_Md_says_23 : decode b_Md_says 23 = .ok (.goto 4, 3) := by decide +kernel
theorem d_Md_says_26 : decode b_Md_says 26 = .ok (.iconst 0, 1) := by decide +kernel
theorem d_Md_says_27 : decode b_Md_says 27 = .ok (.ireturn, 1) := by decide +kernel
abbrev y_Md_shed : MethodName := ⟨"SmallHarbourModel", "shed", "(II)Z"⟩
abbrev b_Md_shed : ByteArray := prog_14_method_41_code
theorem mi_Md_shed : MI y_Md_shed b_Md_shed 3 (some .boolean) 2 := ⟨w_1207, w_13, by decide +kernel, by decide, by decide⟩
theorem mv_Md_shed : MV y_Md_shed := ⟨w_1205, w_1206⟩
theorem d_Md_shed_0 : decode b_Md_shed 0 = .ok (.iload_n 1, 1) := by decide +kernel
theorem d_Md_shed_1 : decode b_Md_shed 1 = .ok (.iconst 1, 1) := by decide +kernel
theorem d_Md_shed_2 : decode b_Md_shed 2 = .ok (.iconst 4, 1) := by decide +kernel
theorem d_Md_shed_3 : decode b_Md_shed 3 = .ok (.invokestatic 144, 3) := by decide +kernel
theorem d_Md_shed_6 : decode b_Md_shed 6 = .ok (.ifCond .eq 15, 3) := by decide +kernel
theorem d_Md_shed_9 : decode b_Md_shed 9 = .ok (.iload_n 2, 1) := by decide +kernel
theorem d_Md_shed_10 : decode b_Md_shed 10 = .ok (.bipush 10, 2) := by decide +kernel
theorem d_Md_shed_12 : decode b_Md_shed 12 = .ok (.sipush 2000, 3) := by decide +kernel
theorem d_Md_shed_15 : decode b_Md_shed 15 = .ok (.invokestatic 144, 3) := by decide +kernel
theorem d_Md_shed_18 : decode b_Md_shed 18 = .ok (.ifCond .ne 5, 3) := by decide +kernel
theorem d_Md_shed_21 : decode b_Md_shed 21 = .ok (.iconst 0, 1) := by decide +kernel
theorem d_Md_shed_22 : decode b_Md_shed 22 = .ok (.ireturn, 1) := by decide +kernel
theorem d_Md_shed_23 : decode b_Md_shed 23 = .ok (.aload_n 0, 1) := by decide +kernel
theorem d_Md_shed_24 : decode b_Md_shed 24 = .ok (.iload_n 1, 1) := by decide +kernel
theorem d_Md_shed_25 : decode b_Md_shed 25 = .ok (.putfield 96, 3) := by decide +kernel
theorem d_Md_shed_28 : decode b_Md_shed 28 = .ok (.aload_n 0, 1) := by decide +kernel
theorem d_Md_shed_29 : decode b_Md_shed 29 = .ok (.iload_n 2, 1) := by decide +kernel
theorem d_Md_shed_30 : decode b_Md_shed 30 = .ok (.putfield 99, 3) := by decide +kernel
theorem d_Md_shed_33 : decode b_Md_shed 33 = .ok (.aload_n 0, 1) := by decide +kernel
theorem d_Md_shed_34 : decode b_Md_shed 34 = .ok (.iconst 0, 1) := by decide +kernel
theorem d_Md_shed_35 : decode b_Md_shed 35 = .ok (.putfield 263, 3) := by decide +kernel
theorem d_Md_shed_38 : decode b_Md_shed 38 = .ok (.iconst 1, 1) := by decide +kernel
theorem d_Md_shed_39 : decode b_Md_shed 39 = .ok (.ireturn, 1) := by decide +kernel
abbrev y_Md_stay : MethodName := ⟨"SmallHarbourModel", "stay", "(III)I"⟩
abbrev b_Md_stay : ByteArray := prog_14_method_19_code
theorem mi_Md_stay : MI y_Md_stay b_Md_stay 5 (some .int) 3 := ⟨w_1087, w_13, by decide +kernel, by decide, by decide⟩
theorem mv_Md_stay : MV y_Md_stay := ⟨w_1085, w_1086⟩
theorem d_Md_stay_0 : decode b_Md_stay 0 = .ok (.aload_n 0, 1) := by decide +kernel
theorem d_Md_stay_1 : decode b_Md_stay 1 = .ok (.iload_n 1, 1) := by decide +kernel
theorem d_Md_stay_2 : decode b_Md_stay 2 = .ok (.invokevirtual 179, 3) := by decide +kernel
theorem d_Md_stay_5 : decode b_Md_stay 5 = .ok (.ifCond .eq 55, 3) := by decide +kernel
theorem d_Md_stay_8 : decode b_Md_stay 8 = .ok (.aload_n 0, 1) := by decide +kernel
theorem d_Md_stay_9 : decode b_Md_stay 9 = .ok (.getfield 32, 3) := by decide +kernel
theorem d_Md_stay_12 : decode b_Md_stay 12 = .ok (.iload_n 1, 1) := by decide +kernel
theorem d_Md_stay_13 : decode b_Md_stay 13 = .ok (.iaload, 1) := by decide +kernel
theorem d_Md_stay_14 : decode b_Md_stay 14 = .ok (.ifCond .ge 46, 3) := by decide +kernel
theorem d_Md_stay_17 : decode b_Md_stay 17 = .ok (.iload_n 2, 1) := by decide +kernel
theorem d_Md_stay_18 : decode b_Md_stay 18 = .ok (.iconst 0, 1) := by decide +kernel
theorem d_Md_stay_19 : decode b_Md_stay 19 = .ok (.sipush 400, 3) := by decide +kernel
theorem d_Md_stay_22 : decode b_Md_stay 22 = .ok (.invokestatic 144, 3) := by decide +kernel
theorem d_Md_stay_25 : decode b_Md_stay 25 = .ok (.ifCond .eq 35, 3) := by decide +kernel
theorem d_Md_stay_28 : decode b_Md_stay 28 = .ok (.iload_n 3, 1) := by decide +kernel
theorem d_Md_stay_29 : decode b_Md_stay 29 = .ok (.iload_n 2, 1) := by decide +kernel
theorem d_Md_stay_30 : decode b_Md_stay 30 = .ok (.iconst 1, 1) := by decide +kernel
theorem d_Md_stay_31 : decode b_Md_stay 31 = .ok (.iadd, 1) := by decide +kernel
theorem d_Md_stay_32 : decode b_Md_stay 32 = .ok (.sipush 400, 3) := by decide +kernel
theorem d_Md_stay_35 : decode b_Md_stay 35 = .ok (.invokestatic 144, 3) := by decide +kernel
theorem d_Md_stay_38 : decode b_Md_stay 38 = .ok (.ifCond .eq 22, 3) := by decide +kernel
theorem d_Md_stay_41 : decode b_Md_stay 41 = .ok (.aload_n 0, 1) := by decide +kernel
theorem d_Md_stay_42 : decode b_Md_stay 42 = .ok (.getfield 148, 3) := by decide +kernel
theorem d_Md_stay_45 : decode b_Md_stay 45 = .ok (.bipush 40, 2) := by decide +kernel
theorem d_Md_stay_47 : decode b_Md_stay 47 = .ok (.if_icmp .eq 13, 3) := by decide +kernel
theorem d_Md_stay_50 : decode b_Md_stay 50 = .ok (.aload_n 0, 1) := by decide +kernel
theorem d_Md_stay_51 : decode b_Md_stay 51 = .ok (.iload_n 1, 1) := by decide +kernel
theorem d_Md_stay_52 : decode b_Md_stay 52 = .ok (.iload_n 2, 1) := by decide +kernel
theorem d_Md_stay_53 : decode b_Md_stay 53 = .ok (.iload_n 3, 1) := by decide +kernel
theorem d_Md_stay_54 : decode b_Md_stay 54 = .ok (.invokevirtual 186, 3) := by decide +kernel
theorem d_Md_stay_57 : decode b_Md_stay 57 = .ok (.ifCond .eq 5, 3) := by decide +kernel
theorem d_Md_stay_60 : decode b_Md_stay 60 = .ok (.iconst (-1), 1) := by decide +kernel
theorem d_Md_stay_61 : decode b_Md_stay 61 = .ok (.ireturn, 1) := by decide +kernel
theorem d_Md_stay_62 : decode b_Md_stay 62 = .ok (.iconst 0, 1) := by decide +kernel
theorem d_Md_stay_63 : decode b_Md_stay 63 = .ok (.istore 4, 2) := by decide +kernel
theorem d_Md_stay_65 : decode b_Md_stay 65 = .ok (.iload 4, 2) := by decide +kernel
theorem d_Md_stay_67 : decode b_Md_stay 67 = .ok (.aload_n 0, 1) := by decide +kernel
theorem d_Md_stay_68 : decode b_Md_stay 68 = .ok (.getfield 155, 3) := by decide +kernel
theorem d_Md_stay_71 : decode b_Md_stay 71 = .ok (.if_icmp .ge 32, 3) := by decide +kernel
theorem d_Md_stay_74 : decode b_Md_stay 74 = .ok (.aload_n 0, 1) := by decide +kernel
theorem d_Md_stay_75 : decode b_Md_stay 75 = .ok (.iload_n 1, 1) := by decide +kernel
theorem d_Md_stay_76 : decode b_Md_stay 76 = .ok (.iload 4, 2) := by decide +kernel
theorem d_Md_stay_78 : decode b_Md_stay 78 = .ok (.iload_n 2, 1) := by decide +kernel
theorem d_Md_stay_79 : decode b_Md_stay 79 = .ok (.iload_n 3, 1) := by decide +kernel
theorem d_Md_stay_80 : decode b_Md_stay 80 = .ok (.invokevirtual 189, 3) := by decide +kernel
theorem d_Md_stay_83 : decode b_Md_stay 83 = .ok (.ifCond .eq 14, 3) := by decide +kernel
theorem d_Md_stay_86 : decode b_Md_stay 86 = .ok (.aload_n 0, 1) := by decide +kernel
theorem d_Md_stay_87 : decode b_Md_stay 87 = .ok (.iload 4, 2) := by decide +kernel
theorem d_Md_stay_89 : decode b_Md_stay 89 = .ok (.iload_n 2, 1) := by decide +kernel
theorem d_Md_stay_90 : decode b_Md_stay 90 = .ok (.iload_n 3, 1) := by decide +kernel
theorem d_Md_stay_91 : decode b_Md_stay 91 = .ok (.invokevirtual 192, 3) := by decide +kernel
theorem d_Md_stay_94 : decode b_Md_stay 94 = .ok (.ifCond .ne 9, 3) := by decide +kernel
theorem d_Md_stay_97 : decode b_Md_stay 97 = .ok (.iinc 4 1, 3) := by decide +kernel
theorem d_Md_stay_100 : decode b_Md_stay 100 = .ok (.goto (-35), 3) := by decide +kernel
theorem d_Md_stay_103 : decode b_Md_stay 103 = .ok (.iload 4, 2) := by decide +kernel
theorem d_Md_stay_105 : decode b_Md_stay 105 = .ok (.aload_n 0, 1) := by decide +kernel
theorem d_Md_stay_106 : decode b_Md_stay 106 = .ok (.getfield 155, 3) := by decide +kernel
theorem d_Md_stay_109 : decode b_Md_stay 109 = .ok (.if_icmp .ne 5, 3) := by decide +kernel
theorem d_Md_stay_112 : decode b_Md_stay 112 = .ok (.iconst (-1), 1) := by decide +kernel
theorem d_Md_stay_113 : decode b_Md_stay 113 = .ok (.ireturn, 1) := by decide +kernel
theorem d_Md_stay_114 : decode b_Md_stay 114 = .ok (.aload_n 0, 1) := by decide +kernel
theorem d_Md_stay_115 : decode b_Md_stay 115 = .ok (.iload_n 1, 1) := by decide +kernel
theorem d_Md_stay_116 : decode b_Md_stay 116 = .ok (.iload 4, 2) := by decide +kernel
theorem d_Md_stay_118 : decode b_Md_stay 118 = .ok (.iload_n 2, 1) := by decide +kernel
theorem d_Md_stay_119 : decode b_Md_stay 119 = .ok (.iload_n 3, 1) := by decide +kernel
theorem d_Md_stay_120 : decode b_Md_stay 120 = .ok (.invokevirtual 195, 3) := by decide +kernel
theorem d_Md_stay_123 : decode b_Md_stay 123 = .ok (.aload_n 0, 1) := by decide +kernel
theorem d_Md_stay_124 : decode b_Md_stay 124 = .ok (.getfield 148, 3) := by decide +kernel
theorem d_Md_stay_127 : decode b_Md_stay 127 = .ok (.iconst 1, 1) := by decide +kernel
theorem d_Md_stay_128 : decode b_Md_stay 128 = .ok (.isub, 1) := by decide +kernel
theorem d_Md_stay_129 : decode b_Md_stay 129 = .ok (.ireturn, 1) := by decide +kernel
abbrev y_Md_stayOf : MethodName := ⟨"SmallHarbourModel", "stayOf", "(II)I"⟩
abbrev b_Md_stayOf : ByteArray := prog_14_method_32_code
theorem mi_Md_stayOf : MI y_Md_stayOf b_Md_stayOf 3 (some .int) 2 := ⟨w_1160, w_13, by decide +kernel, by decide, by decide⟩
theorem mv_Md_stayOf : MV y_Md_stayOf := ⟨w_1158, w_1159⟩
theorem d_Md_stayOf_0 : decode b_Md_stayOf 0 = .ok (.iload_n 1, 1) := by decide +kernel
theorem d_Md_stayOf_1 : decode b_Md_stayOf 1 = .ok (.iconst 0, 1) := by decide +kernel
theorem d_Md_stayOf_2 : decode b_Md_stayOf 2 = .ok (.aload_n 0, 1) := by decide +kernel
theorem d_Md_stayOf_3 : decode b_Md_stayOf 3 = .ok (.getfield 148, 3) := by decide +kernel
theorem d_Md_stayOf_6 : decode b_Md_stayOf 6 = .ok (.iconst 1, 1) := by decide +kernel
theorem d_Md_stayOf_7 : decode b_Md_stayOf 7 = .ok (.isub, 1) := by decide +kernel
theorem d_Md_stayOf_8 : decode b_Md_stayOf 8 = .ok (.invokestatic 144, 3) := by decide +kernel
theorem d_Md_stayOf_11 : decode b_Md_stayOf 11 = .ok (.ifCond .ne 5, 3) := by decide +kernel
theorem d_Md_stayOf_14 : decode b_Md_stayOf 14 = .ok (.iconst (-1), 1) := by decide +kernel
theorem d_Md_stayOf_15 : decode b_Md_stayOf 15 = .ok (.ireturn, 1) := by decide +kernel
theorem d_Md_stayOf_16 : decode b_Md_stayOf 16 = .ok (.iload_n 2, 1) := by decide +kernel
theorem d_Md_stayOf_17 : decode b_Md_stayOf 17 = .ok (.tableswitch 69 0 4 #[35, 42, 49, 56, 63], 35) := by decide +kernel
theorem d_Md_stayOf_52 : decode b_Md_stayOf 52 = .ok (.aload_n 0, 1) := by decide +kernel
theorem d_Md_stayOf_53 : decode b_Md_stayOf 53 = .ok (.getfield 44, 3) := by decide +kernel
theorem d_Md_stayOf_56 : decode b_Md_stayOf 56 = .ok (.iload_n 1, 1) := by decide +kernel
theorem d_Md_stayOf_57 : decode b_Md_stayOf 57 = .ok (.iaload, 1) := by decide +kernel
theorem d_Md_stayOf_58 : decode b_Md_stayOf 58 = .ok (.ireturn, 1) := by decide +kernel
theorem d_Md_stayOf_59 : decode b_Md_stayOf 59 = .ok (.aload_n 0, 1) := by decide +kernel
theorem d_Md_stayOf_60 : decode b_Md_stayOf 60 = .ok (.getfield 47, 3) := by decide +kernel
theorem d_Md_stayOf_63 : decode b_Md_stayOf 63 = .ok (.iload_n 1, 1) := by decide +kernel
theorem d_Md_stayOf_64 : decode b_Md_stayOf 64 = .ok (.iaload, 1) := by decide +kernel
theorem d_Md_stayOf_65 : decode b_Md_stayOf 65 = .ok (.ireturn, 1) := by decide +kernel
theorem d_Md_stayOf_66 : decode b_Md_stayOf 66 = .ok (.aload_n 0, 1) := by decide +kernel
theorem d_Md_stayOf_67 : decode b_Md_stayOf 67 = .ok (.getfield 50, 3) := by decide +kernel
theorem d_Md_stayOf_70 : decode b_Md_stayOf 70 = .ok (.iload_n 1, 1) := by decide +kernel
theorem d_Md_stayOf_71 : decode b_Md_stayOf 71 = .ok (.iaload, 1) := by decide +kernel
theorem d_Md_stayOf_72 : decode b_Md_stayOf 72 = .ok (.ireturn, 1) := by decide +kernel
theorem d_Md_stayOf_73 : decode b_Md_stayOf 73 = .ok (.aload_n 0, 1) := by decide +kernel
theorem d_Md_stayOf_74 : decode b_Md_stayOf 74 = .ok (.getfield 53, 3) := by decide +kernel
theorem d_Md_stayOf_77 : decode b_Md_stayOf 77 = .ok (.iload_n 1, 1) := by decide +kernel
theorem d_Md_stayOf_78 : decode b_Md_stayOf 78 = .ok (.iaload, 1) := by decide +kernel
theorem d_Md_stayOf_79 : decode b_Md_stayOf 79 = .ok (.ireturn, 1) := by decide +kernel
theorem d_Md_stayOf_80 : decode b_Md_stayOf 80 = .ok (.aload_n 0, 1) := by decide +kernel
theorem d_Md_stayOf_81 : decode b_Md_stayOf 81 = .ok (.iload_n 1, 1) := by decide +kernel
theorem d_Md_stayOf_82 : decode b_Md_stayOf 82 = .ok (.invokevirtual 251, 3) := by decide +kernel
theorem d_Md_stayOf_85 : decode b_Md_stayOf 85 = .ok (.ireturn, 1) := by decide +kernel
theorem d_Md_stayOf_86 : decode b_Md_stayOf 86 = .ok (.iconst (-1), 1) := by decide +kernel
theorem d_Md_stayOf_87 : decode b_Md_stayOf 87 = .ok (.ireturn, 1) := by decide +kernel
abbrev y_Md_winter : MethodName := ⟨"SmallHarbourModel", "winter", "(II)I"⟩
abbrev b_Md_winter : ByteArray := prog_14_method_42_code
theorem mi_Md_winter : MI y_Md_winter b_Md_winter 4 (some .int) 2 := ⟨w_1211, w_13, by decide +kernel, by decide, by decide⟩
theorem mv_Md_winter : MV y_Md_winter := ⟨w_1209, w_1210⟩
theorem d_Md_winter_0 : decode b_Md_winter 0 = .ok (.aload_n 0, 1) := by decide +kernel
theorem d_Md_winter_1 : decode b_Md_winter 1 = .ok (.iload_n 1, 1) := by decide +kernel
theorem d_Md_winter_2 : decode b_Md_winter 2 = .ok (.invokevirtual 179, 3) := by decide +kernel
theorem d_Md_winter_5 : decode b_Md_winter 5 = .ok (.ifCond .eq 23, 3) := by decide +kernel
theorem d_Md_winter_8 : decode b_Md_winter 8 = .ok (.iload_n 2, 1) := by decide +kernel
theorem d_Md_winter_9 : decode b_Md_winter 9 = .ok (.iconst 0, 1) := by decide +kernel
theorem d_Md_winter_10 : decode b_Md_winter 10 = .ok (.sipush 399, 3) := by decide +kernel
theorem d_Md_winter_13 : decode b_Md_winter 13 = .ok (.invokestatic 144, 3) := by decide +kernel
theorem d_Md_winter_16 : decode b_Md_winter 16 = .ok (.ifCond .eq 12, 3) := by decide +kernel
theorem d_Md_winter_19 : decode b_Md_winter 19 = .ok (.aload_n 0, 1) := by decide +kernel
theorem d_Md_winter_20 : decode b_Md_winter 20 = .ok (.getfield 263, 3) := by decide +kernel
theorem d_Md_winter_23 : decode b_Md_winter 23 = .ok (.bipush 9, 2) := by decide +kernel
theorem d_Md_winter_25 : decode b_Md_winter 25 = .ok (.if_icmp .ne 5, 3) := by decide +kernel
theorem d_Md_winter_28 : decode b_Md_winter 28 = .ok (.iconst (-1), 1) := by decide +kernel
theorem d_Md_winter_29 : decode b_Md_winter 29 = .ok (.ireturn, 1) := by decide +kernel
theorem d_Md_winter_30 : decode b_Md_winter 30 = .ok (.iconst 0, 1) := by decide +kernel
theorem d_Md_winter_31 : decode b_Md_winter 31 = .ok (.istore_n 3, 1) := by decide +kernel
theorem d_Md_winter_32 : decode b_Md_winter 32 = .ok (.iload_n 3, 1) := by decide +kernel
theorem d_Md_winter_33 : decode b_Md_winter 33 = .ok (.aload_n 0, 1) := by decide +kernel
theorem d_Md_winter_34 : decode b_Md_winter 34 = .ok (.getfield 263, 3) := by decide +kernel
theorem d_Md_winter_37 : decode b_Md_winter 37 = .ok (.if_icmp .ge 21, 3) := by decide +kernel
theorem d_Md_winter_40 : decode b_Md_winter 40 = .ok (.aload_n 0, 1) := by decide +kernel
theorem d_Md_winter_41 : decode b_Md_winter 41 = .ok (.getfield 102, 3) := by decide +kernel
theorem d_Md_winter_44 : decode b_Md_winter 44 = .ok (.iload_n 3, 1) := by decide +kernel
theorem d_Md_winter_45 : decode b_Md_winter 45 = .ok (.iaload, 1) := by decide +kernel
theorem d_Md_winter_46 : decode b_Md_winter 46 = .ok (.iload_n 1, 1) := by decide +kernel
theorem d_Md_winter_47 : decode b_Md_winter 47 = .ok (.if_icmp .ne 5, 3) := by decide +kernel
theorem d_Md_winter_50 : decode b_Md_winter 50 = .ok (.iconst (-1), 1) := by decide +kernel
theorem d_Md_winter_51 : decode b_Md_winter 51 = .ok (.ireturn, 1) := by decide +kernel
theorem d_Md_winter_52 : decode b_Md_winter 52 = .ok (.iinc 3 1, 3) := by decide +kernel
theorem d_Md_winter_55 : decode b_Md_winter 55 = .ok (.goto (-23), 3) := by decide +kernel
theorem d_Md_winter_58 : decode b_Md_winter 58 = .ok (.aload_n 0, 1) := by decide +kernel
theorem d_Md_winter_59 : decode b_Md_winter 59 = .ok (.getfield 102, 3) := by decide +kernel
theorem d_Md_winter_62 : decode b_Md_winter 62 = .ok (.aload_n 0, 1) := by decide +kernel
theorem d_Md_winter_63 : decode b_Md_winter 63 = .ok (.getfield 263, 3) := by decide +kernel
theorem d_Md_winter_66 : decode b_Md_winter 66 = .ok (.iload_n 1, 1) := by decide +kernel
theorem d_Md_winter_67 : decode b_Md_winter 67 = .ok (.iastore, 1) := by decide +kernel
theorem d_Md_winter_68 : decode b_Md_winter 68 = .ok (.aload_n 0, 1) := by decide +kernel
theorem d_Md_winter_69 : decode b_Md_winter 69 = .ok (.getfield 105, 3) := by decide +kernel
theorem d_Md_winter_72 : decode b_Md_winter 72 = .ok (.aload_n 0, 1) := by decide +kernel
theorem d_Md_winter_73 : decode b_Md_winter 73 = .ok (.getfield 263, 3) := by decide +kernel
theorem d_Md_winter_76 : decode b_Md_winter 76 = .ok (.iload_n 2, 1) := by decide +kernel
theorem d_Md_winter_77 : decode b_Md_winter 77 = .ok (.iastore, 1) := by decide +kernel
theorem d_Md_winter_78 : decode b_Md_winter 78 = .ok (.aload_n 0, 1) := by decide +kernel
theorem d_Md_winter_79 : decode b_Md_winter 79 = .ok (.dup, 1) := by decide +kernel
theorem d_Md_winter_80 : decode b_Md_winter 80 = .ok (.getfield 263, 3) := by decide +kernel
theorem d_Md_winter_83 : decode b_Md_winter 83 = .ok (.iconst 1, 1) := by decide +kernel
theorem d_Md_winter_84 : decode b_Md_winter 84 = .ok (.iadd, 1) := by decide +kernel
theorem d_Md_winter_85 : decode b_Md_winter 85 = .ok (.putfield 263, 3) := by decide +kernel
theorem d_Md_winter_88 : decode b_Md_winter 88 = .ok (.aload_n 0, 1) := by decide +kernel
theorem d_Md_winter_89 : decode b_Md_winter 89 = .ok (.getfield 263, 3) := by decide +kernel
theorem d_Md_winter_92 : decode b_Md_winter 92 = .ok (.ireturn, 1) := by decide +kernel
abbrev y_Ar_fill : MethodName := ⟨"java/util/Arrays", "fill", "([II)V"⟩
abbrev b_Ar_fill : ByteArray := prog_17_method_103_code
theorem mi_Ar_fill : MI y_Ar_fill b_Ar_fill 4 none 2 := ⟨w_405, w_14, by decide +kernel, by decide, by decide⟩
theorem d_Ar_fill_0 : decode b_Ar_fill 0 = .ok (.iconst 0, 1) := by decide +kernel
theorem d_Ar_fill_1 : decode b_Ar_fill 1 = .ok (.istore_n 2, 1) := by decide +kernel
theorem d_Ar_fill_2 : decode b_Ar_fill 2 = .ok (.aload_n 0, 1) := by decide +kernel
theorem d_Ar_fill_3 : decode b_Ar_fill 3 = .ok (.arraylength, 1) := by decide +kernel
theorem d_Ar_fill_4 : decode b_Ar_fill 4 = .ok (.istore_n 3, 1) := by decide +kernel
theorem d_Ar_fill_5 : decode b_Ar_fill 5 = .ok (.iload_n 2, 1) := by decide +kernel
theorem d_Ar_fill_6 : decode b_Ar_fill 6 = .ok (.iload_n 3, 1) := by decide +kernel
theorem d_Ar_fill_7 : decode b_Ar_fill 7 = .ok (.if_icmp .ge 13, 3) := by decide +kernel
theorem d_Ar_fill_10 : decode b_Ar_fill 10 = .ok (.aload_n 0, 1) := by decide +kernel
theorem d_Ar_fill_11 : decode b_Ar_fill 11 = .ok (.iload_n 2, 1) := by decide +kernel
theorem d_Ar_fill_12 : decode b_Ar_fill 12 = .ok (.iload_n 1, 1) := by decide +kernel
theorem d_Ar_fill_13 : decode b_Ar_fill 13 = .ok (.iastore, 1) := by decide +kernel
theorem d_Ar_fill_14 : decode b_Ar_fill 14 = .ok (.iinc 2 1, 3) := by decide +kernel
theorem d_Ar_fill_17 : decode b_Ar_fill 17 = .ok (.goto (-12), 3) := by decide +kernel
theorem d_Ar_fill_20 : decode b_Ar_fill 20 = .ok (.return_, 1) := by decide +kernel
abbrev y_Hb_isWithin : MethodName := ⟨"SmallHarbour", "isWithin", "(III)Z"⟩
abbrev b_Hb_isWithin : ByteArray := prog_1_method_30_code
theorem mi_Hb_isWithin : MI y_Hb_isWithin b_Hb_isWithin 3 (some .boolean) 3 := ⟨w_424, w_1, by decide +kernel, by decide, by decide⟩
theorem d_Hb_isWithin_0 : decode b_Hb_isWithin 0 = .ok (.iload_n 0, 1) := by decide +kernel
theorem d_Hb_isWithin_1 : decode b_Hb_isWithin 1 = .ok (.iload_n 1, 1) := by decide +kernel
theorem d_Hb_isWithin_2 : decode b_Hb_isWithin 2 = .ok (.if_icmp .lt 12, 3) := by decide +kernel
theorem d_Hb_isWithin_5 : decode b_Hb_isWithin 5 = .ok (.iload_n 0, 1) := by decide +kernel
theorem d_Hb_isWithin_6 : decode b_Hb_isWithin 6 = .ok (.iload_n 2, 1) := by decide +kernel
theorem d_Hb_isWithin_7 : decode b_Hb_isWithin 7 = .ok (.if_icmp .gt 7, 3) := by decide +kernel
theorem d_Hb_isWithin_10 : decode b_Hb_isWithin 10 = .ok (.iconst 1, 1) := by decide +kernel
theorem d_Hb_isWithin_11 : decode b_Hb_isWithin 11 = .ok (.goto 4, 3) := by decide +kernel
theorem d_Hb_isWithin_14 : decode b_Hb_isWithin 14 = .ok (.iconst 0, 1) := by decide +kernel
theorem d_Hb_isWithin_15 : decode b_Hb_isWithin 15 = .ok (.ireturn, 1) := by decide +kernel
abbrev y_Berths_add : MethodName := ⟨"SmallHarbour$Berths", "add", "(II)I"⟩
abbrev b_Berths_add : ByteArray := prog_2_method_3_code
theorem mi_Berths_add : MI y_Berths_add b_Berths_add 3 (some .int) 2 := ⟨w_421, w_3, by decide +kernel, by decide, by decide⟩
theorem mv_Berths_add : MV y_Berths_add := ⟨w_419, w_420⟩
theorem d_Berths_add_0 : decode b_Berths_add 0 = .ok (.iload_n 1, 1) := by decide +kernel
theorem d_Berths_add_1 : decode b_Berths_add 1 = .ok (.bipush 10, 2) := by decide +kernel
theorem d_Berths_add_3 : decode b_Berths_add 3 = .ok (.sipush 400, 3) := by decide +kernel
theorem d_Berths_add_6 : decode b_Berths_add 6 = .ok (.invokestatic 25, 3) := by decide +kernel
theorem d_Berths_add_9 : decode b_Berths_add 9 = .ok (.ifCond .eq 13, 3) := by decide +kernel
theorem d_Berths_add_12 : decode b_Berths_add 12 = .ok (.iload_n 2, 1) := by decide +kernel
theorem d_Berths_add_13 : decode b_Berths_add 13 = .ok (.iconst 0, 1) := by decide +kernel
theorem d_Berths_add_14 : decode b_Berths_add 14 = .ok (.bipush 60, 2) := by decide +kernel
theorem d_Berths_add_16 : decode b_Berths_add 16 = .ok (.invokestatic 25, 3) := by decide +kernel
theorem d_Berths_add_19 : decode b_Berths_add 19 = .ok (.ifCond .ne 5, 3) := by decide +kernel
theorem d_Berths_add_22 : decode b_Berths_add 22 = .ok (.iconst (-1), 1) := by decide +kernel
theorem d_Berths_add_23 : decode b_Berths_add 23 = .ok (.ireturn, 1) := by decide +kernel
theorem d_Berths_add_24 : decode b_Berths_add 24 = .ok (.aload_n 0, 1) := by decide +kernel
theorem d_Berths_add_25 : decode b_Berths_add 25 = .ok (.getfield 21, 3) := by decide +kernel
theorem d_Berths_add_28 : decode b_Berths_add 28 = .ok (.bipush 10, 2) := by decide +kernel
theorem d_Berths_add_30 : decode b_Berths_add 30 = .ok (.if_icmp .lt 5, 3) := by decide +kernel
theorem d_Berths_add_33 : decode b_Berths_add 33 = .ok (.iconst (-1), 1) := by decide +kernel
theorem d_Berths_add_34 : decode b_Berths_add 34 = .ok (.ireturn, 1) := by decide +kernel
theorem d_Berths_add_35 : decode b_Berths_add 35 = .ok (.aload_n 0, 1) := by decide +kernel
theorem d_Berths_add_36 : decode b_Berths_add 36 = .ok (.getfield 9, 3) := by decide +kernel
theorem d_Berths_add_39 : decode b_Berths_add 39 = .ok (.aload_n 0, 1) := by decide +kernel
theorem d_Berths_add_40 : decode b_Berths_add 40 = .ok (.getfield 21, 3) := by decide +kernel
theorem d_Berths_add_43 : decode b_Berths_add 43 = .ok (.iload_n 1, 1) := by decide +kernel
theorem d_Berths_add_44 : decode b_Berths_add 44 = .ok (.iastore, 1) := by decide +kernel
theorem d_Berths_add_45 : decode b_Berths_add 45 = .ok (.aload_n 0, 1) := by decide +kernel
theorem d_Berths_add_46 : decode b_Berths_add 46 = .ok (.getfield 15, 3) := by decide +kernel
theorem d_Berths_add_49 : decode b_Berths_add 49 = .ok (.aload_n 0, 1) := by decide +kernel
theorem d_Berths_add_50 : decode b_Berths_add 50 = .ok (.getfield 21, 3) := by decide +kernel
theorem d_Berths_add_53 : decode b_Berths_add 53 = .ok (.iload_n 2, 1) := by decide +kernel
theorem d_Berths_add_54 : decode b_Berths_add 54 = .ok (.iastore, 1) := by decide +kernel
theorem d_Berths_add_55 : decode b_Berths_add 55 = .ok (.aload_n 0, 1) := by decide +kernel
theorem d_Berths_add_56 : decode b_Berths_add 56 = .ok (.getfield 18, 3) := by decide +kernel
theorem d_Berths_add_59 : decode b_Berths_add 59 = .ok (.aload_n 0, 1) := by decide +kernel
theorem d_Berths_add_60 : decode b_Berths_add 60 = .ok (.getfield 21, 3) := by decide +kernel
theorem d_Berths_add_63 : decode b_Berths_add 63 = .ok (.iconst (-1), 1) := by decide +kernel
theorem d_Berths_add_64 : decode b_Berths_add 64 = .ok (.iastore, 1) := by decide +kernel
theorem d_Berths_add_65 : decode b_Berths_add 65 = .ok (.aload_n 0, 1) := by decide +kernel
theorem d_Berths_add_66 : decode b_Berths_add 66 = .ok (.dup, 1) := by decide +kernel
theorem d_Berths_add_67 : decode b_Berths_add 67 = .ok (.getfield 21, 3) := by decide +kernel
theorem d_Berths_add_70 : decode b_Berths_add 70 = .ok (.dup_x1, 1) := by decide +kernel
theorem d_Berths_add_71 : decode b_Berths_add 71 = .ok (.iconst 1, 1) := by decide +kernel
theorem d_Berths_add_72 : decode b_Berths_add 72 = .ok (.iadd, 1) := by decide +kernel
theorem d_Berths_add_73 : decode b_Berths_add 73 = .ok (.putfield 21, 3) := by decide +kernel
theorem d_Berths_add_76 : decode b_Berths_add 76 = .ok (.ireturn, 1) := by decide +kernel
abbrev y_Berths_has : MethodName := ⟨"SmallHarbour$Berths", "has", "(I)Z"⟩
abbrev b_Berths_has : ByteArray := prog_2_method_2_code
theorem mi_Berths_has : MI y_Berths_has b_Berths_has 2 (some .boolean) 1 := ⟨w_441, w_3, by decide +kernel, by decide, by decide⟩
theorem mv_Berths_has : MV y_Berths_has := ⟨w_439, w_440⟩
theorem d_Berths_has_0 : decode b_Berths_has 0 = .ok (.iload_n 1, 1) := by decide +kernel
theorem d_Berths_has_1 : decode b_Berths_has 1 = .ok (.ifCond .lt 15, 3) := by decide +kernel
theorem d_Berths_has_4 : decode b_Berths_has 4 = .ok (.iload_n 1, 1) := by decide +kernel
theorem d_Berths_has_5 : decode b_Berths_has 5 = .ok (.aload_n 0, 1) := by decide +kernel
theorem d_Berths_has_6 : decode b_Berths_has 6 = .ok (.getfield 21, 3) := by decide +kernel
theorem d_Berths_has_9 : decode b_Berths_has 9 = .ok (.if_icmp .ge 7, 3) := by decide +kernel
theorem d_Berths_has_12 : decode b_Berths_has 12 = .ok (.iconst 1, 1) := by decide +kernel
theorem d_Berths_has_13 : decode b_Berths_has 13 = .ok (.goto 4, 3) := by decide +kernel
theorem d_Berths_has_16 : decode b_Berths_has 16 = .ok (.iconst 0, 1) := by decide +kernel
theorem d_Berths_has_17 : decode b_Berths_has 17 = .ok (.ireturn, 1) := by decide +kernel
abbrev y_Berths_isAnyHeld : MethodName := ⟨"SmallHarbour$Berths", "isAnyHeld", "()Z"⟩
abbrev b_Berths_isAnyHeld : ByteArray := prog_2_method_4_code
theorem mi_Berths_isAnyHeld : MI y_Berths_isAnyHeld b_Berths_isAnyHeld 2 (some .boolean) 0 := ⟨w_398, w_3, by decide +kernel, by decide, by decide⟩
theorem mv_Berths_isAnyHeld : MV y_Berths_isAnyHeld := ⟨w_396, w_397⟩
theorem d_Berths_isAnyHeld_0 : decode b_Berths_isAnyHeld 0 = .ok (.iconst 0, 1) := by decide +kernel
theorem d_Berths_isAnyHeld_1 : decode b_Berths_isAnyHeld 1 = .ok (.istore_n 1, 1) := by decide +kernel
theorem d_Berths_isAnyHeld_2 : decode b_Berths_isAnyHeld 2 = .ok (.iload_n 1, 1) := by decide +kernel
theorem d_Berths_isAnyHeld_3 : decode b_Berths_isAnyHeld 3 = .ok (.aload_n 0, 1) := by decide +kernel
theorem d_Berths_isAnyHeld_4 : decode b_Berths_isAnyHeld 4 = .ok (.getfield 21, 3) := by decide +kernel
theorem d_Berths_isAnyHeld_7 : decode b_Berths_isAnyHeld 7 = .ok (.if_icmp .ge 21, 3) := by decide +kernel
theorem d_Berths_isAnyHeld_10 : decode b_Berths_isAnyHeld 10 = .ok (.aload_n 0, 1) := by decide +kernel
theorem d_Berths_isAnyHeld_11 : decode b_Berths_isAnyHeld 11 = .ok (.getfield 18, 3) := by decide +kernel
theorem d_Berths_isAnyHeld_14 : decode b_Berths_isAnyHeld 14 = .ok (.iload_n 1, 1) := by decide +kernel
theorem d_Berths_isAnyHeld_15 : decode b_Berths_isAnyHeld 15 = .ok (.iaload, 1) := by decide +kernel
theorem d_Berths_isAnyHeld_16 : decode b_Berths_isAnyHeld 16 = .ok (.iconst (-1), 1) := by decide +kernel
theorem d_Berths_isAnyHeld_17 : decode b_Berths_isAnyHeld 17 = .ok (.if_icmp .eq 5, 3) := by decide +kernel
theorem d_Berths_isAnyHeld_20 : decode b_Berths_isAnyHeld 20 = .ok (.iconst 1, 1) := by decide +kernel
theorem d_Berths_isAnyHeld_21 : decode b_Berths_isAnyHeld 21 = .ok (.ireturn, 1) := by decide +kernel
theorem d_Berths_isAnyHeld_22 : decode b_Berths_isAnyHeld 22 = .ok (.iinc 1 1, 3) := by decide +kernel
theorem d_Berths_isAnyHeld_25 : decode b_Berths_isAnyHeld 25 = .ok (.goto (-23), 3) := by decide +kernel
theorem d_Berths_isAnyHeld_28 : decode b_Berths_isAnyHeld 28 = .ok (.iconst 0, 1) := by decide +kernel
theorem d_Berths_isAnyHeld_29 : decode b_Berths_isAnyHeld 29 = .ok (.ireturn, 1) := by decide +kernel
abbrev y_Berths_takes : MethodName := ⟨"SmallHarbour$Berths", "takes", "(IIII)Z"⟩
abbrev b_Berths_takes : ByteArray := prog_2_method_5_code
theorem mi_Berths_takes : MI y_Berths_takes b_Berths_takes 5 (some .boolean) 4 := ⟨w_460, w_3, by decide +kernel, by decide, by decide⟩
theorem mv_Berths_takes : MV y_Berths_takes := ⟨w_458, w_459⟩
theorem d_Berths_takes_0 : decode b_Berths_takes 0 = .ok (.iload_n 2, 1) := by decide +kernel
theorem d_Berths_takes_1 : decode b_Berths_takes 1 = .ok (.aload_n 0, 1) := by decide +kernel
theorem d_Berths_takes_2 : decode b_Berths_takes 2 = .ok (.getfield 9, 3) := by decide +kernel
theorem d_Berths_takes_5 : decode b_Berths_takes 5 = .ok (.iload_n 1, 1) := by decide +kernel
theorem d_Berths_takes_6 : decode b_Berths_takes 6 = .ok (.iaload, 1) := by decide +kernel
theorem d_Berths_takes_7 : decode b_Berths_takes 7 = .ok (.if_icmp .gt 20, 3) := by decide +kernel
theorem d_Berths_takes_10 : decode b_Berths_takes 10 = .ok (.iload_n 3, 1) := by decide +kernel
theorem d_Berths_takes_11 : decode b_Berths_takes 11 = .ok (.aload_n 0, 1) := by decide +kernel
theorem d_Berths_takes_12 : decode b_Berths_takes 12 = .ok (.getfield 15, 3) := by decide +kernel
theorem d_Berths_takes_15 : decode b_Berths_takes 15 = .ok (.iload_n 1, 1) := by decide +kernel
theorem d_Berths_takes_16 : decode b_Berths_takes 16 = .ok (.iaload, 1) := by decide +kernel
theorem d_Berths_takes_17 : decode b_Berths_takes 17 = .ok (.iload 4, 2) := by decide +kernel
theorem d_Berths_takes_19 : decode b_Berths_takes 19 = .ok (.iadd, 1) := by decide +kernel
theorem d_Berths_takes_20 : decode b_Berths_takes 20 = .ok (.if_icmp .gt 7, 3) := by decide +kernel
theorem d_Berths_takes_23 : decode b_Berths_takes 23 = .ok (.iconst 1, 1) := by decide +kernel
theorem d_Berths_takes_24 : decode b_Berths_takes 24 = .ok (.goto 4, 3) := by decide +kernel
theorem d_Berths_takes_27 : decode b_Berths_takes 27 = .ok (.iconst 0, 1) := by decide +kernel
theorem d_Berths_takes_28 : decode b_Berths_takes 28 = .ok (.ireturn, 1) := by decide +kernel
abbrev y_Boats_add : MethodName := ⟨"SmallHarbour$Boats", "add", "(IIII)I"⟩
abbrev b_Boats_add : ByteArray := prog_3_method_3_code
theorem mi_Boats_add : MI y_Boats_add b_Boats_add 5 (some .int) 4 := ⟨w_433, w_4, by decide +kernel, by decide, by decide⟩
theorem mv_Boats_add : MV y_Boats_add := ⟨w_431, w_432⟩
theorem d_Boats_add_0 : decode b_Boats_add 0 = .ok (.aload_n 0, 1) := by decide +kernel
theorem d_Boats_add_1 : decode b_Boats_add 1 = .ok (.getfield 24, 3) := by decide +kernel
theorem d_Boats_add_4 : decode b_Boats_add 4 = .ok (.bipush 30, 2) := by decide +kernel
theorem d_Boats_add_6 : decode b_Boats_add 6 = .ok (.if_icmp .lt 5, 3) := by decide +kernel
theorem d_Boats_add_9 : decode b_Boats_add 9 = .ok (.iconst (-1), 1) := by decide +kernel
theorem d_Boats_add_10 : decode b_Boats_add 10 = .ok (.ireturn, 1) := by decide +kernel
theorem d_Boats_add_11 : decode b_Boats_add 11 = .ok (.aload_n 0, 1) := by decide +kernel
theorem d_Boats_add_12 : decode b_Boats_add 12 = .ok (.getfield 9, 3) := by decide +kernel
theorem d_Boats_add_15 : decode b_Boats_add 15 = .ok (.aload_n 0, 1) := by decide +kernel
theorem d_Boats_add_16 : decode b_Boats_add 16 = .ok (.getfield 24, 3) := by decide +kernel
theorem d_Boats_add_19 : decode b_Boats_add 19 = .ok (.iload_n 1, 1) := by decide +kernel
theorem d_Boats_add_20 : decode b_Boats_add 20 = .ok (.iastore, 1) := by decide +kernel
theorem d_Boats_add_21 : decode b_Boats_add 21 = .ok (.aload_n 0, 1) := by decide +kernel
theorem d_Boats_add_22 : decode b_Boats_add 22 = .ok (.getfield 15, 3) := by decide +kernel
theorem d_Boats_add_25 : decode b_Boats_add 25 = .ok (.aload_n 0, 1) := by decide +kernel
theorem d_Boats_add_26 : decode b_Boats_add 26 = .ok (.getfield 24, 3) := by decide +kernel
theorem d_Boats_add_29 : decode b_Boats_add 29 = .ok (.iload_n 2, 1) := by decide +kernel
theorem d_Boats_add_30 : decode b_Boats_add 30 = .ok (.iastore, 1) := by decide +kernel
theorem d_Boats_add_31 : decode b_Boats_add 31 = .ok (.aload_n 0, 1) := by decide +kernel
theorem d_Boats_add_32 : decode b_Boats_add 32 = .ok (.getfield 18, 3) := by decide +kernel
theorem d_Boats_add_35 : decode b_Boats_add 35 = .ok (.aload_n 0, 1) := by decide +kernel
theorem d_Boats_add_36 : decode b_Boats_add 36 = .ok (.getfield 24, 3) := by decide +kernel
theorem d_Boats_add_39 : decode b_Boats_add 39 = .ok (.iload_n 3, 1) := by decide +kernel
theorem d_Boats_add_40 : decode b_Boats_add 40 = .ok (.iastore, 1) := by decide +kernel
theorem d_Boats_add_41 : decode b_Boats_add 41 = .ok (.aload_n 0, 1) := by decide +kernel
theorem d_Boats_add_42 : decode b_Boats_add 42 = .ok (.getfield 21, 3) := by decide +kernel
theorem d_Boats_add_45 : decode b_Boats_add 45 = .ok (.aload_n 0, 1) := by decide +kernel
theorem d_Boats_add_46 : decode b_Boats_add 46 = .ok (.getfield 24, 3) := by decide +kernel
theorem d_Boats_add_49 : decode b_Boats_add 49 = .ok (.iload 4, 2) := by decide +kernel
theorem d_Boats_add_51 : decode b_Boats_add 51 = .ok (.iastore, 1) := by decide +kernel
theorem d_Boats_add_52 : decode b_Boats_add 52 = .ok (.aload_n 0, 1) := by decide +kernel
theorem d_Boats_add_53 : decode b_Boats_add 53 = .ok (.dup, 1) := by decide +kernel
theorem d_Boats_add_54 : decode b_Boats_add 54 = .ok (.getfield 24, 3) := by decide +kernel
theorem d_Boats_add_57 : decode b_Boats_add 57 = .ok (.dup_x1, 1) := by decide +kernel
theorem d_Boats_add_58 : decode b_Boats_add 58 = .ok (.iconst 1, 1) := by decide +kernel
theorem d_Boats_add_59 : decode b_Boats_add 59 = .ok (.iadd, 1) := by decide +kernel
theorem d_Boats_add_60 : decode b_Boats_add 60 = .ok (.putfield 24, 3) := by decide +kernel
theorem d_Boats_add_63 : decode b_Boats_add 63 = .ok (.ireturn, 1) := by decide +kernel
abbrev y_Boats_has : MethodName := ⟨"SmallHarbour$Boats", "has", "(I)Z"⟩
abbrev b_Boats_has : ByteArray := prog_3_method_2_code
theorem mi_Boats_has : MI y_Boats_has b_Boats_has 2 (some .boolean) 1 := ⟨w_468, w_4, by decide +kernel, by decide, by decide⟩
theorem mv_Boats_has : MV y_Boats_has := ⟨w_466, w_467⟩
theorem d_Boats_has_0 : decode b_Boats_has 0 = .ok (.iload_n 1, 1) := by decide +kernel
theorem d_Boats_has_1 : decode b_Boats_has 1 = .ok (.ifCond .lt 15, 3) := by decide +kernel
theorem d_Boats_has_4 : decode b_Boats_has 4 = .ok (.iload_n 1, 1) := by decide +kernel
theorem d_Boats_has_5 : decode b_Boats_has 5 = .ok (.aload_n 0, 1) := by decide +kernel
theorem d_Boats_has_6 : decode b_Boats_has 6 = .ok (.getfield 24, 3) := by decide +kernel
theorem d_Boats_has_9 : decode b_Boats_has 9 = .ok (.if_icmp .ge 7, 3) := by decide +kernel
theorem d_Boats_has_12 : decode b_Boats_has 12 = .ok (.iconst 1, 1) := by decide +kernel
theorem d_Boats_has_13 : decode b_Boats_has 13 = .ok (.goto 4, 3) := by decide +kernel
theorem d_Boats_has_16 : decode b_Boats_has 16 = .ok (.iconst 0, 1) := by decide +kernel
theorem d_Boats_has_17 : decode b_Boats_has 17 = .ok (.ireturn, 1) := by decide +kernel
abbrev y_Hb_about : MethodName := ⟨"SmallHarbour", "about", "(I)I"⟩
abbrev b_Hb_about : ByteArray := prog_1_method_29_code
theorem mi_Hb_about : MI y_Hb_about b_Hb_about 2 (some .int) 1 := ⟨w_829, w_1, by decide +kernel, by decide, by decide⟩
theorem mv_Hb_about : MV y_Hb_about := ⟨w_827, w_828⟩
theorem d_Hb_about_0 : decode b_Hb_about 0 = .ok (.iload_n 1, 1) := by decide +kernel
theorem d_Hb_about_1 : decode b_Hb_about 1 = .ok (.tableswitch 120 0 8 #[51, 59, 67, 75, 83, 91, 99, 107, 115], 51) := by decide +kernel
theorem d_Hb_about_52 : decode b_Hb_about 52 = .ok (.aload_n 0, 1) := by decide +kernel
theorem d_Hb_about_53 : decode b_Hb_about 53 = .ok (.getfield 19, 3) := by decide +kernel
theorem d_Hb_about_56 : decode b_Hb_about 56 = .ok (.getfield 177, 3) := by decide +kernel
theorem d_Hb_about_59 : decode b_Hb_about 59 = .ok (.ireturn, 1) := by decide +kernel
theorem d_Hb_about_60 : decode b_Hb_about 60 = .ok (.aload_n 0, 1) := by decide +kernel
theorem d_Hb_about_61 : decode b_Hb_about 61 = .ok (.getfield 26, 3) := by decide +kernel
theorem d_Hb_about_64 : decode b_Hb_about 64 = .ok (.getfield 117, 3) := by decide +kernel
theorem d_Hb_about_67 : decode b_Hb_about 67 = .ok (.ireturn, 1) := by decide +kernel
theorem d_Hb_about_68 : decode b_Hb_about 68 = .ok (.aload_n 0, 1) := by decide +kernel
theorem d_Hb_about_69 : decode b_Hb_about 69 = .ok (.getfield 40, 3) := by decide +kernel
theorem d_Hb_about_72 : decode b_Hb_about 72 = .ok (.getfield 260, 3) := by decide +kernel
theorem d_Hb_about_75 : decode b_Hb_about 75 = .ok (.ireturn, 1) := by decide +kernel
theorem d_Hb_about_76 : decode b_Hb_about 76 = .ok (.aload_n 0, 1) := by decide +kernel
theorem d_Hb_about_77 : decode b_Hb_about 77 = .ok (.getfield 33, 3) := by decide +kernel
theorem d_Hb_about_80 : decode b_Hb_about 80 = .ok (.getfield 261, 3) := by decide +kernel
theorem d_Hb_about_83 : decode b_Hb_about 83 = .ok (.ireturn, 1) := by decide +kernel
theorem d_Hb_about_84 : decode b_Hb_about 84 = .ok (.aload_n 0, 1) := by decide +kernel
theorem d_Hb_about_85 : decode b_Hb_about 85 = .ok (.getfield 54, 3) := by decide +kernel
theorem d_Hb_about_88 : decode b_Hb_about 88 = .ok (.getfield 262, 3) := by decide +kernel
theorem d_Hb_about_91 : decode b_Hb_about 91 = .ok (.ireturn, 1) := by decide +kernel
theorem d_Hb_about_92 : decode b_Hb_about 92 = .ok (.aload_n 0, 1) := by decide +kernel
theorem d_Hb_about_93 : decode b_Hb_about 93 = .ok (.getfield 61, 3) := by decide +kernel
theorem d_Hb_about_96 : decode b_Hb_about 96 = .ok (.getfield 230, 3) := by decide +kernel
theorem d_Hb_about_99 : decode b_Hb_about 99 = .ok (.ireturn, 1) := by decide +kernel
theorem d_Hb_about_100 : decode b_Hb_about 100 = .ok (.aload_n 0, 1) := by decide +kernel
theorem d_Hb_about_101 : decode b_Hb_about 101 = .ok (.getfield 84, 3) := by decide +kernel
theorem d_Hb_about_104 : decode b_Hb_about 104 = .ok (.getfield 238, 3) := by decide +kernel
theorem d_Hb_about_107 : decode b_Hb_about 107 = .ok (.ireturn, 1) := by decide +kernel
theorem d_Hb_about_108 : decode b_Hb_about 108 = .ok (.aload_n 0, 1) := by decide +kernel
theorem d_Hb_about_109 : decode b_Hb_about 109 = .ok (.getfield 68, 3) := by decide +kernel
theorem d_Hb_about_112 : decode b_Hb_about 112 = .ok (.getfield 234, 3) := by decide +kernel
theorem d_Hb_about_115 : decode b_Hb_about 115 = .ok (.ireturn, 1) := by decide +kernel
theorem d_Hb_about_116 : decode b_Hb_about 116 = .ok (.aload_n 0, 1) := by decide +kernel
theorem d_Hb_about_117 : decode b_Hb_about 117 = .ok (.getfield 93, 3) := by decide +kernel
theorem d_Hb_about_120 : decode b_Hb_about 120 = .ok (.ireturn, 1) := by decide +kernel
theorem d_Hb_about_121 : decode b_Hb_about 121 = .ok (.iconst (-1), 1) := by decide +kernel
theorem d_Hb_about_122 : decode b_Hb_about 122 = .ok (.ireturn, 1) := by decide +kernel
abbrev y_Hb_areNights : MethodName := ⟨"SmallHarbour", "areNights", "(II)Z"⟩
abbrev b_Hb_areNights : ByteArray := prog_1_method_32_code
theorem mi_Hb_areNights : MI y_Hb_areNights b_Hb_areNights 2 (some .boolean) 2 := ⟨w_514, w_1, by decide +kernel, by decide, by decide⟩
theorem d_Hb_areNights_0 : decode b_Hb_areNights 0 = .ok (.iload_n 0, 1) := by decide +kernel
theorem d_Hb_areNights_1 : decode b_Hb_areNights 1 = .ok (.ifCond .lt 19, 3) := by decide +kernel
theorem d_Hb_areNights_4 : decode b_Hb_areNights 4 = .ok (.iload_n 0, 1) := by decide +kernel
theorem d_Hb_areNights_5 : decode b_Hb_areNights 5 = .ok (.iload_n 1, 1) := by decide +kernel
theorem d_Hb_areNights_6 : decode b_Hb_areNights 6 = .ok (.if_icmp .ge 14, 3) := by decide +kernel
theorem d_Hb_areNights_9 : decode b_Hb_areNights 9 = .ok (.iload_n 1, 1) := by decide +kernel
theorem d_Hb_areNights_10 : decode b_Hb_areNights 10 = .ok (.sipush 400, 3) := by decide +kernel
theorem d_Hb_areNights_13 : decode b_Hb_areNights 13 = .ok (.if_icmp .gt 7, 3) := by decide +kernel
theorem d_Hb_areNights_16 : decode b_Hb_areNights 16 = .ok (.iconst 1, 1) := by decide +kernel
theorem d_Hb_areNights_17 : decode b_Hb_areNights 17 = .ok (.goto 4, 3) := by decide +kernel
theorem d_Hb_areNights_20 : decode b_Hb_areNights 20 = .ok (.iconst 0, 1) := by decide +kernel
theorem d_Hb_areNights_21 : decode b_Hb_areNights 21 = .ok (.ireturn, 1) := by decide +kernel
abbrev y_Spans_add : MethodName := ⟨"SmallHarbour$Spans", "add", "(III)Z"⟩
abbrev b_Spans_add : ByteArray := prog_8_method_2_code
theorem mi_Spans_add : MI y_Spans_add b_Spans_add 4 (some .boolean) 3 := ⟨w_518, w_5, by decide +kernel, by decide, by decide⟩
theorem mv_Spans_add : MV y_Spans_add := ⟨w_516, w_517⟩
theorem d_Spans_add_0 : decode b_Spans_add 0 = .ok (.aload_n 0, 1) := by decide +kernel
theorem d_Spans_add_1 : decode b_Spans_add 1 = .ok (.getfield 21, 3) := by decide +kernel
theorem d_Spans_add_4 : decode b_Spans_add 4 = .ok (.bipush 60, 2) := by decide +kernel
theorem d_Spans_add_6 : decode b_Spans_add 6 = .ok (.if_icmp .lt 5, 3) := by decide +kernel
theorem d_Spans_add_9 : decode b_Spans_add 9 = .ok (.iconst 0, 1) := by decide +kernel
theorem d_Spans_add_10 : decode b_Spans_add 10 = .ok (.ireturn, 1) := by decide +kernel
theorem d_Spans_add_11 : decode b_Spans_add 11 = .ok (.aload_n 0, 1) := by decide +kernel
theorem d_Spans_add_12 : decode b_Spans_add 12 = .ok (.getfield 9, 3) := by decide +kernel
theorem d_Spans_add_15 : decode b_Spans_add 15 = .ok (.aload_n 0, 1) := by decide +kernel
theorem d_Spans_add_16 : decode b_Spans_add 16 = .ok (.getfield 21, 3) := by decide +kernel
theorem d_Spans_add_19 : decode b_Spans_add 19 = .ok (.iload_n 1, 1) := by decide +kernel
theorem d_Spans_add_20 : decode b_Spans_add 20 = .ok (.iastore, 1) := by decide +kernel
theorem d_Spans_add_21 : decode b_Spans_add 21 = .ok (.aload_n 0, 1) := by decide +kernel
theorem d_Spans_add_22 : decode b_Spans_add 22 = .ok (.getfield 15, 3) := by decide +kernel
theorem d_Spans_add_25 : decode b_Spans_add 25 = .ok (.aload_n 0, 1) := by decide +kernel
theorem d_Spans_add_26 : decode b_Spans_add 26 = .ok (.getfield 21, 3) := by decide +kernel
theorem d_Spans_add_29 : decode b_Spans_add 29 = .ok (.iload_n 2, 1) := by decide +kernel
theorem d_Spans_add_30 : decode b_Spans_add 30 = .ok (.iastore, 1) := by decide +kernel
theorem d_Spans_add_31 : decode b_Spans_add 31 = .ok (.aload_n 0, 1) := by decide +kernel
theorem d_Spans_add_32 : decode b_Spans_add 32 = .ok (.getfield 18, 3) := by decide +kernel
theorem d_Spans_add_35 : decode b_Spans_add 35 = .ok (.aload_n 0, 1) := by decide +kernel
theorem d_Spans_add_36 : decode b_Spans_add 36 = .ok (.getfield 21, 3) := by decide +kernel
theorem d_Spans_add_39 : decode b_Spans_add 39 = .ok (.iload_n 3, 1) := by decide +kernel
theorem d_Spans_add_40 : decode b_Spans_add 40 = .ok (.iastore, 1) := by decide +kernel
theorem d_Spans_add_41 : decode b_Spans_add 41 = .ok (.aload_n 0, 1) := by decide +kernel
theorem d_Spans_add_42 : decode b_Spans_add 42 = .ok (.dup, 1) := by decide +kernel
theorem d_Spans_add_43 : decode b_Spans_add 43 = .ok (.getfield 21, 3) := by decide +kernel
theorem d_Spans_add_46 : decode b_Spans_add 46 = .ok (.iconst 1, 1) := by decide +kernel
theorem d_Spans_add_47 : decode b_Spans_add 47 = .ok (.iadd, 1) := by decide +kernel
theorem d_Spans_add_48 : decode b_Spans_add 48 = .ok (.putfield 21, 3) := by decide +kernel
theorem d_Spans_add_51 : decode b_Spans_add 51 = .ok (.iconst 1, 1) := by decide +kernel
theorem d_Spans_add_52 : decode b_Spans_add 52 = .ok (.ireturn, 1) := by decide +kernel
abbrev y_Spans_nightsAway : MethodName := ⟨"SmallHarbour$Spans", "nightsAway", "(III)I"⟩
abbrev b_Spans_nightsAway : ByteArray := prog_8_method_5_code
theorem mi_Spans_nightsAway : MI y_Spans_nightsAway b_Spans_nightsAway 6 (some .int) 3 := ⟨w_503, w_5, by decide +kernel, by decide, by decide⟩
theorem mv_Spans_nightsAway : MV y_Spans_nightsAway := ⟨w_501, w_502⟩
theorem d_Spans_nightsAway_0 : decode b_Spans_nightsAway 0 = .ok (.iconst 0, 1) := by decide +kernel
theorem d_Spans_nightsAway_1 : decode b_Spans_nightsAway 1 = .ok (.istore 4, 2) := by decide +kernel
theorem d_Spans_nightsAway_3 : decode b_Spans_nightsAway 3 = .ok (.iconst 0, 1) := by decide +kernel
theorem d_Spans_nightsAway_4 : decode b_Spans_nightsAway 4 = .ok (.istore 5, 2) := by decide +kernel
theorem d_Spans_nightsAway_6 : decode b_Spans_nightsAway 6 = .ok (.iload 5, 2) := by decide +kernel
theorem d_Spans_nightsAway_8 : decode b_Spans_nightsAway 8 = .ok (.aload_n 0, 1) := by decide +kernel
theorem d_Spans_nightsAway_9 : decode b_Spans_nightsAway 9 = .ok (.getfield 21, 3) := by decide +kernel
theorem d_Spans_nightsAway_12 : decode b_Spans_nightsAway 12 = .ok (.if_icmp .ge 52, 3) := by decide +kernel
theorem d_Spans_nightsAway_15 : decode b_Spans_nightsAway 15 = .ok (.aload_n 0, 1) := by decide +kernel
theorem d_Spans_nightsAway_16 : decode b_Spans_nightsAway 16 = .ok (.getfield 9, 3) := by decide +kernel
theorem d_Spans_nightsAway_19 : decode b_Spans_nightsAway 19 = .ok (.iload 5, 2) := by decide +kernel
theorem d_Spans_nightsAway_21 : decode b_Spans_nightsAway 21 = .ok (.iaload, 1) := by decide +kernel
theorem d_Spans_nightsAway_22 : decode b_Spans_nightsAway 22 = .ok (.iload_n 1, 1) := by decide +kernel
theorem d_Spans_nightsAway_23 : decode b_Spans_nightsAway 23 = .ok (.if_icmp .ne 35, 3) := by decide +kernel
theorem d_Spans_nightsAway_26 : decode b_Spans_nightsAway 26 = .ok (.iload 4, 2) := by decide +kernel
theorem d_Spans_nightsAway_28 : decode b_Spans_nightsAway 28 = .ok (.iconst 0, 1) := by decide +kernel
theorem d_Spans_nightsAway_29 : decode b_Spans_nightsAway 29 = .ok (.iload_n 3, 1) := by decide +kernel
theorem d_Spans_nightsAway_30 : decode b_Spans_nightsAway 30 = .ok (.aload_n 0, 1) := by decide +kernel
theorem d_Spans_nightsAway_31 : decode b_Spans_nightsAway 31 = .ok (.getfield 18, 3) := by decide +kernel
theorem d_Spans_nightsAway_34 : decode b_Spans_nightsAway 34 = .ok (.iload 5, 2) := by decide +kernel
theorem d_Spans_nightsAway_36 : decode b_Spans_nightsAway 36 = .ok (.iaload, 1) := by decide +kernel
theorem d_Spans_nightsAway_37 : decode b_Spans_nightsAway 37 = .ok (.invokestatic 25, 3) := by decide +kernel
theorem d_Spans_nightsAway_40 : decode b_Spans_nightsAway 40 = .ok (.iload_n 2, 1) := by decide +kernel
theorem d_Spans_nightsAway_41 : decode b_Spans_nightsAway 41 = .ok (.aload_n 0, 1) := by decide +kernel
theorem d_Spans_nightsAway_42 : decode b_Spans_nightsAway 42 = .ok (.getfield 15, 3) := by decide +kernel
theorem d_Spans_nightsAway_45 : decode b_Spans_nightsAway 45 = .ok (.iload 5, 2) := by decide +kernel
theorem d_Spans_nightsAway_47 : decode b_Spans_nightsAway 47 = .ok (.iaload, 1) := by decide +kernel
theorem d_Spans_nightsAway_48 : decode b_Spans_nightsAway 48 = .ok (.invokestatic 31, 3) := by decide +kernel
theorem d_Spans_nightsAway_51 : decode b_Spans_nightsAway 51 = .ok (.isub, 1) := by decide +kernel
theorem d_Spans_nightsAway_52 : decode b_Spans_nightsAway 52 = .ok (.invokestatic 31, 3) := by decide +kernel
theorem d_Spans_nightsAway_55 : decode b_Spans_nightsAway 55 = .ok (.iadd, 1) := by decide +kernel
theorem d_Spans_nightsAway_56 : decode b_Spans_nightsAway 56 = .ok (.istore 4, 2) := by decide +kernel
theorem d_Spans_nightsAway_58 : decode b_Spans_nightsAway 58 = .ok (.iinc 5 1, 3) := by decide +kernel
theorem d_Spans_nightsAway_61 : decode b_Spans_nightsAway 61 = .ok (.goto (-55), 3) := by decide +kernel
theorem d_Spans_nightsAway_64 : decode b_Spans_nightsAway 64 = .ok (.iload 4, 2) := by decide +kernel
theorem d_Spans_nightsAway_66 : decode b_Spans_nightsAway 66 = .ok (.ireturn, 1) := by decide +kernel
abbrev y_Hb_away : MethodName := ⟨"SmallHarbour", "away", "(III)Z"⟩
abbrev b_Hb_away : ByteArray := prog_1_method_9_code
theorem mi_Hb_away : MI y_Hb_away b_Hb_away 4 (some .boolean) 3 := ⟨w_511, w_1, by decide +kernel, by decide, by decide⟩
theorem mv_Hb_away : MV y_Hb_away := ⟨w_509, w_510⟩
theorem d_Hb_away_0 : decode b_Hb_away 0 = .ok (.aload_n 0, 1) := by decide +kernel
theorem d_Hb_away_1 : decode b_Hb_away 1 = .ok (.getfield 26, 3) := by decide +kernel
theorem d_Hb_away_4 : decode b_Hb_away 4 = .ok (.iload_n 1, 1) := by decide +kernel
theorem d_Hb_away_5 : decode b_Hb_away 5 = .ok (.invokevirtual 130, 3) := by decide +kernel
theorem d_Hb_away_8 : decode b_Hb_away 8 = .ok (.ifCond .eq 24, 3) := by decide +kernel
theorem d_Hb_away_11 : decode b_Hb_away 11 = .ok (.aload_n 0, 1) := by decide +kernel
theorem d_Hb_away_12 : decode b_Hb_away 12 = .ok (.getfield 26, 3) := by decide +kernel
theorem d_Hb_away_15 : decode b_Hb_away 15 = .ok (.getfield 142, 3) := by decide +kernel
theorem d_Hb_away_18 : decode b_Hb_away 18 = .ok (.iload_n 1, 1) := by decide +kernel
theorem d_Hb_away_19 : decode b_Hb_away 19 = .ok (.iaload, 1) := by decide +kernel
theorem d_Hb_away_20 : decode b_Hb_away 20 = .ok (.iconst (-1), 1) := by decide +kernel
theorem d_Hb_away_21 : decode b_Hb_away 21 = .ok (.if_icmp .eq 11, 3) := by decide +kernel
theorem d_Hb_away_24 : decode b_Hb_away 24 = .ok (.iload_n 2, 1) := by decide +kernel
theorem d_Hb_away_25 : decode b_Hb_away 25 = .ok (.iload_n 3, 1) := by decide +kernel
theorem d_Hb_away_26 : decode b_Hb_away 26 = .ok (.invokestatic 166, 3) := by decide +kernel
theorem d_Hb_away_29 : decode b_Hb_away 29 = .ok (.ifCond .ne 5, 3) := by decide +kernel
theorem d_Hb_away_32 : decode b_Hb_away 32 = .ok (.iconst 0, 1) := by decide +kernel
theorem d_Hb_away_33 : decode b_Hb_away 33 = .ok (.ireturn, 1) := by decide +kernel
theorem d_Hb_away_34 : decode b_Hb_away 34 = .ok (.aload_n 0, 1) := by decide +kernel
theorem d_Hb_away_35 : decode b_Hb_away 35 = .ok (.getfield 33, 3) := by decide +kernel
theorem d_Hb_away_38 : decode b_Hb_away 38 = .ok (.iload_n 1, 1) := by decide +kernel
theorem d_Hb_away_39 : decode b_Hb_away 39 = .ok (.iload_n 2, 1) := by decide +kernel
theorem d_Hb_away_40 : decode b_Hb_away 40 = .ok (.iload_n 3, 1) := by decide +kernel
theorem d_Hb_away_41 : decode b_Hb_away 41 = .ok (.invokevirtual 169, 3) := by decide +kernel
theorem d_Hb_away_44 : decode b_Hb_away 44 = .ok (.ifCond .ne 20, 3) := by decide +kernel
theorem d_Hb_away_47 : decode b_Hb_away 47 = .ok (.aload_n 0, 1) := by decide +kernel
theorem d_Hb_away_48 : decode b_Hb_away 48 = .ok (.getfield 33, 3) := by decide +kernel
theorem d_Hb_away_51 : decode b_Hb_away 51 = .ok (.iload_n 1, 1) := by decide +kernel
theorem d_Hb_away_52 : decode b_Hb_away 52 = .ok (.iload_n 2, 1) := by decide +kernel
theorem d_Hb_away_53 : decode b_Hb_away 53 = .ok (.iload_n 3, 1) := by decide +kernel
theorem d_Hb_away_54 : decode b_Hb_away 54 = .ok (.invokevirtual 172, 3) := by decide +kernel
theorem d_Hb_away_57 : decode b_Hb_away 57 = .ok (.ifCond .eq 7, 3) := by decide +kernel
theorem d_Hb_away_60 : decode b_Hb_away 60 = .ok (.iconst 1, 1) := by decide +kernel
theorem d_Hb_away_61 : decode b_Hb_away 61 = .ok (.goto 4, 3) := by decide +kernel
theorem d_Hb_away_64 : decode b_Hb_away 64 = .ok (.iconst 0, 1) := by decide +kernel
theorem d_Hb_away_65 : decode b_Hb_away 65 = .ok (.ireturn, 1) := by decide +kernel
abbrev y_Hb_berth : MethodName := ⟨"SmallHarbour", "berth", "(II)I"⟩
abbrev b_Hb_berth : ByteArray := prog_1_method_4_code
theorem mi_Hb_berth : MI y_Hb_berth b_Hb_berth 3 (some .int) 2 := ⟨w_417, w_1, by decide +kernel, by decide, by decide⟩
theorem mv_Hb_berth : MV y_Hb_berth := ⟨w_415, w_416⟩
theorem d_Hb_berth_0 : decode b_Hb_berth 0 = .ok (.aload_n 0, 1) := by decide +kernel
theorem d_Hb_berth_1 : decode b_Hb_berth 1 = .ok (.getfield 19, 3) := by decide +kernel
theorem d_Hb_berth_4 : decode b_Hb_berth 4 = .ok (.iload_n 1, 1) := by decide +kernel
theorem d_Hb_berth_5 : decode b_Hb_berth 5 = .ok (.iload_n 2, 1) := by decide +kernel
theorem d_Hb_berth_6 : decode b_Hb_berth 6 = .ok (.invokevirtual 109, 3) := by decide +kernel
theorem d_Hb_berth_9 : decode b_Hb_berth 9 = .ok (.ireturn, 1) := by decide +kernel
abbrev y_Hb_isDay : MethodName := ⟨"SmallHarbour", "isDay", "(I)Z"⟩
abbrev b_Hb_isDay : ByteArray := prog_1_method_31_code
theorem mi_Hb_isDay : MI y_Hb_isDay b_Hb_isDay 1 (some .boolean) 1 := ⟨w_475, w_1, by decide +kernel, by decide, by decide⟩
theorem d_Hb_isDay_0 : decode b_Hb_isDay 0 = .ok (.iload_n 0, 1) := by decide +kernel
theorem d_Hb_isDay_1 : decode b_Hb_isDay 1 = .ok (.ifCond .lt 14, 3) := by decide +kernel
theorem d_Hb_isDay_4 : decode b_Hb_isDay 4 = .ok (.iload_n 0, 1) := by decide +kernel
theorem d_Hb_isDay_5 : decode b_Hb_isDay 5 = .ok (.sipush 400, 3) := by decide +kernel
theorem d_Hb_isDay_8 : decode b_Hb_isDay 8 = .ok (.if_icmp .ge 7, 3) := by decide +kernel
theorem d_Hb_isDay_11 : decode b_Hb_isDay 11 = .ok (.iconst 1, 1) := by decide +kernel
theorem d_Hb_isDay_12 : decode b_Hb_isDay 12 = .ok (.goto 4, 3) := by decide +kernel
theorem d_Hb_isDay_15 : decode b_Hb_isDay 15 = .ok (.iconst 0, 1) := by decide +kernel
theorem d_Hb_isDay_16 : decode b_Hb_isDay 16 = .ok (.ireturn, 1) := by decide +kernel
abbrev y_Spans_find : MethodName := ⟨"SmallHarbour$Spans", "find", "(II)I"⟩
abbrev b_Spans_find : ByteArray := prog_8_method_4_code
theorem mi_Spans_find : MI y_Spans_find b_Spans_find 4 (some .int) 2 := ⟨w_479, w_5, by decide +kernel, by decide, by decide⟩
theorem mv_Spans_find : MV y_Spans_find := ⟨w_477, w_478⟩
theorem d_Spans_find_0 : decode b_Spans_find 0 = .ok (.iconst 0, 1) := by decide +kernel
theorem d_Spans_find_1 : decode b_Spans_find 1 = .ok (.istore_n 3, 1) := by decide +kernel
theorem d_Spans_find_2 : decode b_Spans_find 2 = .ok (.iload_n 3, 1) := by decide +kernel
theorem d_Spans_find_3 : decode b_Spans_find 3 = .ok (.aload_n 0, 1) := by decide +kernel
theorem d_Spans_find_4 : decode b_Spans_find 4 = .ok (.getfield 21, 3) := by decide +kernel
theorem d_Spans_find_7 : decode b_Spans_find 7 = .ok (.if_icmp .ge 41, 3) := by decide +kernel
theorem d_Spans_find_10 : decode b_Spans_find 10 = .ok (.aload_n 0, 1) := by decide +kernel
theorem d_Spans_find_11 : decode b_Spans_find 11 = .ok (.getfield 9, 3) := by decide +kernel
theorem d_Spans_find_14 : decode b_Spans_find 14 = .ok (.iload_n 3, 1) := by decide +kernel
theorem d_Spans_find_15 : decode b_Spans_find 15 = .ok (.iaload, 1) := by decide +kernel
theorem d_Spans_find_16 : decode b_Spans_find 16 = .ok (.iload_n 1, 1) := by decide +kernel
theorem d_Spans_find_17 : decode b_Spans_find 17 = .ok (.if_icmp .ne 25, 3) := by decide +kernel
theorem d_Spans_find_20 : decode b_Spans_find 20 = .ok (.aload_n 0, 1) := by decide +kernel
theorem d_Spans_find_21 : decode b_Spans_find 21 = .ok (.getfield 15, 3) := by decide +kernel
theorem d_Spans_find_24 : decode b_Spans_find 24 = .ok (.iload_n 3, 1) := by decide +kernel
theorem d_Spans_find_25 : decode b_Spans_find 25 = .ok (.iaload, 1) := by decide +kernel
theorem d_Spans_find_26 : decode b_Spans_find 26 = .ok (.iload_n 2, 1) := by decide +kernel
theorem d_Spans_find_27 : decode b_Spans_find 27 = .ok (.if_icmp .gt 15, 3) := by decide +kernel
theorem d_Spans_find_30 : decode b_Spans_find 30 = .ok (.iload_n 2, 1) := by decide +kernel
theorem d_Spans_find_31 : decode b_Spans_find 31 = .ok (.aload_n 0, 1) := by decide +kernel
theorem d_Spans_find_32 : decode b_Spans_find 32 = .ok (.getfield 18, 3) := by decide +kernel
theorem d_Spans_find_35 : decode b_Spans_find 35 = .ok (.iload_n 3, 1) := by decide +kernel
theorem d_Spans_find_36 : decode b_Spans_find 36 = .ok (.iaload, 1) := by decide +kernel
theorem d_Spans_find_37 : decode b_Spans_find 37 = .ok (.if_icmp .ge 5, 3) := by decide +kernel
theorem d_Spans_find_40 : decode b_Spans_find 40 = .ok (.iload_n 3, 1) := by decide +kernel
theorem d_Spans_find_41 : decode b_Spans_find 41 = .ok (.ireturn, 1) := by decide +kernel
theorem d_Spans_find_42 : decode b_Spans_find 42 = .ok (.iinc 3 1, 3) := by decide +kernel
theorem d_Spans_find_45 : decode b_Spans_find 45 = .ok (.goto (-43), 3) := by decide +kernel
theorem d_Spans_find_48 : decode b_Spans_find 48 = .ok (.iconst (-1), 1) := by decide +kernel
theorem d_Spans_find_49 : decode b_Spans_find 49 = .ok (.ireturn, 1) := by decide +kernel
abbrev y_Stays_ofBoat : MethodName := ⟨"SmallHarbour$Stays", "ofBoat", "(III)I"⟩
abbrev b_Stays_ofBoat : ByteArray := prog_9_method_5_code
theorem mi_Stays_ofBoat : MI y_Stays_ofBoat b_Stays_ofBoat 5 (some .int) 3 := ⟨w_483, w_6, by decide +kernel, by decide, by decide⟩
theorem mv_Stays_ofBoat : MV y_Stays_ofBoat := ⟨w_481, w_482⟩
theorem d_Stays_ofBoat_0 : decode b_Stays_ofBoat 0 = .ok (.iconst 0, 1) := by decide +kernel
theorem d_Stays_ofBoat_1 : decode b_Stays_ofBoat 1 = .ok (.istore 4, 2) := by decide +kernel
theorem d_Stays_ofBoat_3 : decode b_Stays_ofBoat 3 = .ok (.iload 4, 2) := by decide +kernel
theorem d_Stays_ofBoat_5 : decode b_Stays_ofBoat 5 = .ok (.aload_n 0, 1) := by decide +kernel
theorem d_Stays_ofBoat_6 : decode b_Stays_ofBoat 6 = .ok (.getfield 24, 3) := by decide +kernel
theorem d_Stays_ofBoat_9 : decode b_Stays_ofBoat 9 = .ok (.if_icmp .ge 45, 3) := by decide +kernel
theorem d_Stays_ofBoat_12 : decode b_Stays_ofBoat 12 = .ok (.aload_n 0, 1) := by decide +kernel
theorem d_Stays_ofBoat_13 : decode b_Stays_ofBoat 13 = .ok (.getfield 9, 3) := by decide +kernel
theorem d_Stays_ofBoat_16 : decode b_Stays_ofBoat 16 = .ok (.iload 4, 2) := by decide +kernel
theorem d_Stays_ofBoat_18 : decode b_Stays_ofBoat 18 = .ok (.iaload, 1) := by decide +kernel
theorem d_Stays_ofBoat_19 : decode b_Stays_ofBoat 19 = .ok (.iload_n 1, 1) := by decide +kernel
theorem d_Stays_ofBoat_20 : decode b_Stays_ofBoat 20 = .ok (.if_icmp .ne 28, 3) := by decide +kernel
theorem d_Stays_ofBoat_23 : decode b_Stays_ofBoat 23 = .ok (.aload_n 0, 1) := by decide +kernel
theorem d_Stays_ofBoat_24 : decode b_Stays_ofBoat 24 = .ok (.getfield 18, 3) := by decide +kernel
theorem d_Stays_ofBoat_27 : decode b_Stays_ofBoat 27 = .ok (.iload 4, 2) := by decide +kernel
theorem d_Stays_ofBoat_29 : decode b_Stays_ofBoat 29 = .ok (.iaload, 1) := by decide +kernel
theorem d_Stays_ofBoat_30 : decode b_Stays_ofBoat 30 = .ok (.iload_n 3, 1) := by decide +kernel
theorem d_Stays_ofBoat_31 : decode b_Stays_ofBoat 31 = .ok (.if_icmp .ge 17, 3) := by decide +kernel
theorem d_Stays_ofBoat_34 : decode b_Stays_ofBoat 34 = .ok (.iload_n 2, 1) := by decide +kernel
theorem d_Stays_ofBoat_35 : decode b_Stays_ofBoat 35 = .ok (.aload_n 0, 1) := by decide +kernel
theorem d_Stays_ofBoat_36 : decode b_Stays_ofBoat 36 = .ok (.getfield 21, 3) := by decide +kernel
theorem d_Stays_ofBoat_39 : decode b_Stays_ofBoat 39 = .ok (.iload 4, 2) := by decide +kernel
theorem d_Stays_ofBoat_41 : decode b_Stays_ofBoat 41 = .ok (.iaload, 1) := by decide +kernel
theorem d_Stays_ofBoat_42 : decode b_Stays_ofBoat 42 = .ok (.if_icmp .ge 6, 3) := by decide +kernel
theorem d_Stays_ofBoat_45 : decode b_Stays_ofBoat 45 = .ok (.iload 4, 2) := by decide +kernel
theorem d_Stays_ofBoat_47 : decode b_Stays_ofBoat 47 = .ok (.ireturn, 1) := by decide +kernel
theorem d_Stays_ofBoat_48 : decode b_Stays_ofBoat 48 = .ok (.iinc 4 1, 3) := by decide +kernel
theorem d_Stays_ofBoat_51 : decode b_Stays_ofBoat 51 = .ok (.goto (-48), 3) := by decide +kernel
theorem d_Stays_ofBoat_54 : decode b_Stays_ofBoat 54 = .ok (.iconst (-1), 1) := by decide +kernel
theorem d_Stays_ofBoat_55 : decode b_Stays_ofBoat 55 = .ok (.ireturn, 1) := by decide +kernel
