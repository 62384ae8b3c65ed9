abbrev y_Md_movesTo : MethodName := ⟨"SmallHarbourModel", "movesTo", "(I)I"⟩
abbrev b_Md_movesTo : ByteArray := prog_14_method_24_code
theorem mi_Md_movesTo : MI y_Md_movesTo b_Md_movesTo 4 (some .int) 1 := ⟨w_1135, w_13, by decide +kernel, by decide, by decide⟩
theorem mv_Md_movesTo : MV y_Md_movesTo := ⟨w_1134, w_s3_13⟩
theorem d_Md_movesTo_0 : decode b_Md_movesTo 0 = .ok (.iconst 0, 1) := by decide +kernel
theorem d_Md_movesTo_1 : decode b_Md_movesTo 1 = .ok (.istore_n 2, 1) := by decide +kernel
theorem d_Md_movesTo_2 : decode b_Md_movesTo 2 = .ok (.iconst 0, 1) := by decide +kernel
theorem d_Md_movesTo_3 : decode b_Md_movesTo 3 = .ok (.istore_n 3, 1) := by decide +kernel
theorem d_Md_movesTo_4 : decode b_Md_movesTo 4 = .ok (.iload_n 3, 1) := by decide +kernel
theorem d_Md_movesTo_5 : decode b_Md_movesTo 5 = .ok (.iload_n 1, 1) := by decide +kernel
theorem d_Md_movesTo_6 : decode b_Md_movesTo 6 = .ok (.if_icmp .gt 37, 3) := by decide +kernel
theorem d_Md_movesTo_9 : decode b_Md_movesTo 9 = .ok (.iload_n 2, 1) := by decide +kernel
theorem d_Md_movesTo_10 : decode b_Md_movesTo 10 = .ok (.aload_n 0, 1) := by decide +kernel
theorem d_Md_movesTo_11 : decode b_Md_movesTo 11 = .ok (.getfield 59, 3) := by decide +kernel
theorem d_Md_movesTo_14 : decode b_Md_movesTo 14 = .ok (.iload_n 3, 1) := by decide +kernel
theorem d_Md_movesTo_15 : decode b_Md_movesTo 15 = .ok (.iaload, 1) := by decide +kernel
theorem d_Md_movesTo_16 : decode b_Md_movesTo 16 = .ok (.aload_n 0, 1) := by decide +kernel
theorem d_Md_movesTo_17 : decode b_Md_movesTo 17 = .ok (.getfield 47, 3) := by decide +kernel
theorem d_Md_movesTo_20 : decode b_Md_movesTo 20 = .ok (.aload_n 0, 1) := by decide +kernel
theorem d_Md_movesTo_21 : decode b_Md_movesTo 21 = .ok (.getfield 56, 3) := by decide +kernel
theorem d_Md_movesTo_24 : decode b_Md_movesTo 24 = .ok (.iload_n 3, 1) := by decide +kernel
theorem d_Md_movesTo_25 : decode b_Md_movesTo 25 = .ok (.iaload, 1) := by decide +kernel
theorem d_Md_movesTo_26 : decode b_Md_movesTo 26 = .ok (.iaload, 1) := by decide +kernel
theorem d_Md_movesTo_27 : decode b_Md_movesTo 27 = .ok (.if_icmp .eq 7, 3) := by decide +kernel
theorem d_Md_movesTo_30 : decode b_Md_movesTo 30 = .ok (.iconst 1, 1) := by decide +kernel
theorem d_Md_movesTo_31 : decode b_Md_movesTo 31 = .ok (.goto 4, 3) := by decide +kernel
theorem d_Md_movesTo_34 : decode b_Md_movesTo 34 = .ok (.iconst 0, 1) := by decide +kernel
theorem d_Md_movesTo_35 : decode b_Md_movesTo 35 = .ok (.iadd, 1) := by decide +kernel
theorem d_Md_movesTo_36 : decode b_Md_movesTo 36 = .ok (.istore_n 2, 1) := by decide +kernel
theorem d_Md_movesTo_37 : decode b_Md_movesTo 37 = .ok (.iinc 3 1, 3) := by decide +kernel
theorem d_Md_movesTo_40 : decode b_Md_movesTo 40 = .ok (.goto (-36), 3) := by decide +kernel
theorem d_Md_movesTo_43 : decode b_Md_movesTo 43 = .ok (.iload_n 2, 1) := by decide +kernel
theorem d_Md_movesTo_44 : decode b_Md_movesTo 44 = .ok (.ireturn, 1) := by decide +kernel
abbrev y_Md_keep : MethodName := ⟨"SmallHarbourModel", "keep", "()V"⟩
abbrev b_Md_keep : ByteArray := prog_14_method_25_code
theorem mi_Md_keep : MI y_Md_keep b_Md_keep 2 none 0 := ⟨w_1131, w_13, by decide +kernel, by decide, by decide⟩
theorem mv_Md_keep : MV y_Md_keep := ⟨w_1130, w_s3_12⟩
theorem d_Md_keep_0 : decode b_Md_keep 0 = .ok (.aload_n 0, 1) := by decide +kernel
theorem d_Md_keep_1 : decode b_Md_keep 1 = .ok (.aload_n 0, 1) := by decide +kernel
theorem d_Md_keep_2 : decode b_Md_keep 2 = .ok (.aload_n 0, 1) := by decide +kernel
theorem d_Md_keep_3 : decode b_Md_keep 3 = .ok (.getfield 212, 3) := by decide +kernel
theorem d_Md_keep_6 : decode b_Md_keep 6 = .ok (.iconst 1, 1) := by decide +kernel
theorem d_Md_keep_7 : decode b_Md_keep 7 = .ok (.isub, 1) := by decide +kernel
theorem d_Md_keep_8 : decode b_Md_keep 8 = .ok (.invokevirtual 215, 3) := by decide +kernel
theorem d_Md_keep_11 : decode b_Md_keep 11 = .ok (.putfield 218, 3) := by decide +kernel
theorem d_Md_keep_14 : decode b_Md_keep 14 = .ok (.iconst 0, 1) := by decide +kernel
theorem d_Md_keep_15 : decode b_Md_keep 15 = .ok (.istore_n 1, 1) := by decide +kernel
theorem d_Md_keep_16 : decode b_Md_keep 16 = .ok (.iload_n 1, 1) := by decide +kernel
theorem d_Md_keep_17 : decode b_Md_keep 17 = .ok (.aload_n 0, 1) := by decide +kernel
theorem d_Md_keep_18 : decode b_Md_keep 18 = .ok (.getfield 212, 3) := by decide +kernel
theorem d_Md_keep_21 : decode b_Md_keep 21 = .ok (.if_icmp .ge 21, 3) := by decide +kernel
theorem d_Md_keep_24 : decode b_Md_keep 24 = .ok (.aload_n 0, 1) := by decide +kernel
theorem d_Md_keep_25 : decode b_Md_keep 25 = .ok (.getfield 62, 3) := by decide +kernel
theorem d_Md_keep_28 : decode b_Md_keep 28 = .ok (.iload_n 1, 1) := by decide +kernel
theorem d_Md_keep_29 : decode b_Md_keep 29 = .ok (.aload_n 0, 1) := by decide +kernel
theorem d_Md_keep_30 : decode b_Md_keep 30 = .ok (.getfield 59, 3) := by decide +kernel
theorem d_Md_keep_33 : decode b_Md_keep 33 = .ok (.iload_n 1, 1) := by decide +kernel
theorem d_Md_keep_34 : decode b_Md_keep 34 = .ok (.iaload, 1) := by decide +kernel
theorem d_Md_keep_35 : decode b_Md_keep 35 = .ok (.iastore, 1) := by decide +kernel
theorem d_Md_keep_36 : decode b_Md_keep 36 = .ok (.iinc 1 1, 3) := by decide +kernel
theorem d_Md_keep_39 : decode b_Md_keep 39 = .ok (.goto (-23), 3) := by decide +kernel
theorem d_Md_keep_42 : decode b_Md_keep 42 = .ok (.return_, 1) := by decide +kernel
abbrev y_Md_walk : MethodName := ⟨"SmallHarbourModel", "walk", "()Z"⟩
abbrev b_Md_walk : ByteArray := prog_14_method_26_code
theorem mi_Md_walk : MI y_Md_walk b_Md_walk 2 (some .boolean) 0 := ⟨w_1127, w_13, by decide +kernel, by decide, by decide⟩
theorem mv_Md_walk : MV y_Md_walk := ⟨w_1126, w_s3_11⟩
theorem d_Md_walk_0 : decode b_Md_walk 0 = .ok (.aload_n 0, 1) := by decide +kernel
theorem d_Md_walk_1 : decode b_Md_walk 1 = .ok (.iconst (-1), 1) := by decide +kernel
theorem d_Md_walk_2 : decode b_Md_walk 2 = .ok (.putfield 218, 3) := by decide +kernel
theorem d_Md_walk_5 : decode b_Md_walk 5 = .ok (.aload_n 0, 1) := by decide +kernel
theorem d_Md_walk_6 : decode b_Md_walk 6 = .ok (.iconst 0, 1) := by decide +kernel
theorem d_Md_walk_7 : decode b_Md_walk 7 = .ok (.putfield 221, 3) := by decide +kernel
theorem d_Md_walk_10 : decode b_Md_walk 10 = .ok (.aload_n 0, 1) := by decide +kernel
theorem d_Md_walk_11 : decode b_Md_walk 11 = .ok (.getfield 212, 3) := by decide +kernel
theorem d_Md_walk_14 : decode b_Md_walk 14 = .ok (.ifCond .ne 9, 3) := by decide +kernel
theorem d_Md_walk_17 : decode b_Md_walk 17 = .ok (.aload_n 0, 1) := by decide +kernel
theorem d_Md_walk_18 : decode b_Md_walk 18 = .ok (.invokevirtual 224, 3) := by decide +kernel
theorem d_Md_walk_21 : decode b_Md_walk 21 = .ok (.iconst 1, 1) := by decide +kernel
theorem d_Md_walk_22 : decode b_Md_walk 22 = .ok (.ireturn, 1) := by decide +kernel
theorem d_Md_walk_23 : decode b_Md_walk 23 = .ok (.iconst 0, 1) := by decide +kernel
theorem d_Md_walk_24 : decode b_Md_walk 24 = .ok (.istore_n 1, 1) := by decide +kernel
theorem d_Md_walk_25 : decode b_Md_walk 25 = .ok (.aload_n 0, 1) := by decide +kernel
theorem d_Md_walk_26 : decode b_Md_walk 26 = .ok (.getfield 59, 3) := by decide +kernel
theorem d_Md_walk_29 : decode b_Md_walk 29 = .ok (.iconst 0, 1) := by decide +kernel
theorem d_Md_walk_30 : decode b_Md_walk 30 = .ok (.iconst (-1), 1) := by decide +kernel
theorem d_Md_walk_31 : decode b_Md_walk 31 = .ok (.iastore, 1) := by decide +kernel
theorem d_Md_walk_32 : decode b_Md_walk 32 = .ok (.iload_n 1, 1) := by decide +kernel
theorem d_Md_walk_33 : decode b_Md_walk 33 = .ok (.ifCond .lt 122, 3) := by decide +kernel
theorem d_Md_walk_36 : decode b_Md_walk 36 = .ok (.aload_n 0, 1) := by decide +kernel
theorem d_Md_walk_37 : decode b_Md_walk 37 = .ok (.getfield 59, 3) := by decide +kernel
theorem d_Md_walk_40 : decode b_Md_walk 40 = .ok (.iload_n 1, 1) := by decide +kernel
theorem d_Md_walk_41 : decode b_Md_walk 41 = .ok (.dup2, 1) := by decide +kernel
theorem d_Md_walk_42 : decode b_Md_walk 42 = .ok (.iaload, 1) := by decide +kernel
theorem d_Md_walk_43 : decode b_Md_walk 43 = .ok (.iconst 1, 1) := by decide +kernel
theorem d_Md_walk_44 : decode b_Md_walk 44 = .ok (.iadd, 1) := by decide +kernel
theorem d_Md_walk_45 : decode b_Md_walk 45 = .ok (.iastore, 1) := by decide +kernel
theorem d_Md_walk_46 : decode b_Md_walk 46 = .ok (.aload_n 0, 1) := by decide +kernel
theorem d_Md_walk_47 : decode b_Md_walk 47 = .ok (.getfield 59, 3) := by decide +kernel
theorem d_Md_walk_50 : decode b_Md_walk 50 = .ok (.iload_n 1, 1) := by decide +kernel
theorem d_Md_walk_51 : decode b_Md_walk 51 = .ok (.iaload, 1) := by decide +kernel
theorem d_Md_walk_52 : decode b_Md_walk 52 = .ok (.aload_n 0, 1) := by decide +kernel
theorem d_Md_walk_53 : decode b_Md_walk 53 = .ok (.getfield 155, 3) := by decide +kernel
theorem d_Md_walk_56 : decode b_Md_walk 56 = .ok (.if_icmp .lt 9, 3) := by decide +kernel
theorem d_Md_walk_59 : decode b_Md_walk 59 = .ok (.iinc 1 (-1), 3) := by decide +kernel
theorem d_Md_walk_62 : decode b_Md_walk 62 = .ok (.goto (-30), 3) := by decide +kernel
theorem d_Md_walk_65 : decode b_Md_walk 65 = .ok (.aload_n 0, 1) := by decide +kernel
theorem d_Md_walk_66 : decode b_Md_walk 66 = .ok (.iload_n 1, 1) := by decide +kernel
theorem d_Md_walk_67 : decode b_Md_walk 67 = .ok (.aload_n 0, 1) := by decide +kernel
theorem d_Md_walk_68 : decode b_Md_walk 68 = .ok (.getfield 59, 3) := by decide +kernel
theorem d_Md_walk_71 : decode b_Md_walk 71 = .ok (.iload_n 1, 1) := by decide +kernel
theorem d_Md_walk_72 : decode b_Md_walk 72 = .ok (.iaload, 1) := by decide +kernel
theorem d_Md_walk_73 : decode b_Md_walk 73 = .ok (.invokevirtual 227, 3) := by decide +kernel
theorem d_Md_walk_76 : decode b_Md_walk 76 = .ok (.ifCond .ne 6, 3) := by decide +kernel
theorem d_Md_walk_79 : decode b_Md_walk 79 = .ok (.goto (-47), 3) := by decide +kernel
theorem d_Md_walk_82 : decode b_Md_walk 82 = .ok (.aload_n 0, 1) := by decide +kernel
theorem d_Md_walk_83 : decode b_Md_walk 83 = .ok (.getfield 221, 3) := by decide +kernel
theorem d_Md_walk_86 : decode b_Md_walk 86 = .ok (.ldc 230, 2) := by decide +kernel
theorem d_Md_walk_88 : decode b_Md_walk 88 = .ok (.if_icmp .ne 5, 3) := by decide +kernel
theorem d_Md_walk_91 : decode b_Md_walk 91 = .ok (.iconst 0, 1) := by decide +kernel
theorem d_Md_walk_92 : decode b_Md_walk 92 = .ok (.ireturn, 1) := by decide +kernel
theorem d_Md_walk_93 : decode b_Md_walk 93 = .ok (.aload_n 0, 1) := by decide +kernel
theorem d_Md_walk_94 : decode b_Md_walk 94 = .ok (.dup, 1) := by decide +kernel
theorem d_Md_walk_95 : decode b_Md_walk 95 = .ok (.getfield 221, 3) := by decide +kernel
theorem d_Md_walk_98 : decode b_Md_walk 98 = .ok (.iconst 1, 1) := by decide +kernel
theorem d_Md_walk_99 : decode b_Md_walk 99 = .ok (.iadd, 1) := by decide +kernel
theorem d_Md_walk_100 : decode b_Md_walk 100 = .ok (.putfield 221, 3) := by decide +kernel
theorem d_Md_walk_103 : decode b_Md_walk 103 = .ok (.aload_n 0, 1) := by decide +kernel
theorem d_Md_walk_104 : decode b_Md_walk 104 = .ok (.getfield 218, 3) := by decide +kernel
theorem d_Md_walk_107 : decode b_Md_walk 107 = .ok (.ifCond .lt 18, 3) := by decide +kernel
theorem d_Md_walk_110 : decode b_Md_walk 110 = .ok (.aload_n 0, 1) := by decide +kernel
theorem d_Md_walk_111 : decode b_Md_walk 111 = .ok (.iload_n 1, 1) := by decide +kernel
theorem d_Md_walk_112 : decode b_Md_walk 112 = .ok (.invokevirtual 215, 3) := by decide +kernel
theorem d_Md_walk_115 : decode b_Md_walk 115 = .ok (.aload_n 0, 1) := by decide +kernel
theorem d_Md_walk_116 : decode b_Md_walk 116 = .ok (.getfield 218, 3) := by decide +kernel
theorem d_Md_walk_119 : decode b_Md_walk 119 = .ok (.if_icmp .lt 6, 3) := by decide +kernel
theorem d_Md_walk_122 : decode b_Md_walk 122 = .ok (.goto (-90), 3) := by decide +kernel
theorem d_Md_walk_125 : decode b_Md_walk 125 = .ok (.iload_n 1, 1) := by decide +kernel
theorem d_Md_walk_126 : decode b_Md_walk 126 = .ok (.aload_n 0, 1) := by decide +kernel
theorem d_Md_walk_127 : decode b_Md_walk 127 = .ok (.getfield 212, 3) := by decide +kernel
theorem d_Md_walk_130 : decode b_Md_walk 130 = .ok (.iconst 1, 1) := by decide +kernel
theorem d_Md_walk_131 : decode b_Md_walk 131 = .ok (.isub, 1) := by decide +kernel
theorem d_Md_walk_132 : decode b_Md_walk 132 = .ok (.if_icmp .ne 10, 3) := by decide +kernel
theorem d_Md_walk_135 : decode b_Md_walk 135 = .ok (.aload_n 0, 1) := by decide +kernel
theorem d_Md_walk_136 : decode b_Md_walk 136 = .ok (.invokevirtual 224, 3) := by decide +kernel
theorem d_Md_walk_139 : decode b_Md_walk 139 = .ok (.goto (-107), 3) := by decide +kernel
theorem d_Md_walk_142 : decode b_Md_walk 142 = .ok (.iinc 1 1, 3) := by decide +kernel
theorem d_Md_walk_145 : decode b_Md_walk 145 = .ok (.aload_n 0, 1) := by decide +kernel
theorem d_Md_walk_146 : decode b_Md_walk 146 = .ok (.getfield 59, 3) := by decide +kernel
theorem d_Md_walk_149 : decode b_Md_walk 149 = .ok (.iload_n 1, 1) := by decide +kernel
theorem d_Md_walk_150 : decode b_Md_walk 150 = .ok (.iconst (-1), 1) := by decide +kernel
theorem d_Md_walk_151 : decode b_Md_walk 151 = .ok (.iastore, 1) := by decide +kernel
theorem d_Md_walk_152 : decode b_Md_walk 152 = .ok (.goto (-120), 3) := by decide +kernel
theorem d_Md_walk_155 : decode b_Md_walk 155 = .ok (.iconst 1, 1) := by decide +kernel
theorem d_Md_walk_156 : decode b_Md_walk 156 = .ok (.ireturn, 1) := by decide +kernel
abbrev y_Md_home : MethodName := ⟨"SmallHarbourModel", "home", "(II)I"⟩
abbrev b_Md_home : ByteArray := prog_14_method_27_code
theorem mi_Md_home : MI y_Md_home b_Md_home 6 (some .int) 2 := ⟨w_1123, w_13, by decide +kernel, by decide, by decide⟩
theorem mv_Md_home : MV y_Md_home := ⟨w_1121, w_1122⟩
theorem d_Md_home_0 : decode b_Md_home 0 = .ok (.aload_n 0, 1) := by decide +kernel
theorem d_Md_home_1 : decode b_Md_home 1 = .ok (.iload_n 1, 1) := by decide +kernel
theorem d_Md_home_2 : decode b_Md_home 2 = .ok (.invokevirtual 179, 3) := by decide +kernel
theorem d_Md_home_5 : decode b_Md_home 5 = .ok (.ifCond .eq 32, 3) := by decide +kernel
theorem d_Md_home_8 : decode b_Md_home 8 = .ok (.aload_n 0, 1) := by decide +kernel
theorem d_Md_home_9 : decode b_Md_home 9 = .ok (.getfield 32, 3) := by decide +kernel
theorem d_Md_home_12 : decode b_Md_home 12 = .ok (.iload_n 1, 1) := by decide +kernel
theorem d_Md_home_13 : decode b_Md_home 13 = .ok (.iaload, 1) := by decide +kernel
theorem d_Md_home_14 : decode b_Md_home 14 = .ok (.ifCond .lt 23, 3) := by decide +kernel
theorem d_Md_home_17 : decode b_Md_home 17 = .ok (.iload_n 2, 1) := by decide +kernel
theorem d_Md_home_18 : decode b_Md_home 18 = .ok (.iconst 0, 1) := by decide +kernel
theorem d_Md_home_19 : decode b_Md_home 19 = .ok (.sipush 399, 3) := by decide +kernel
theorem d_Md_home_22 : decode b_Md_home 22 = .ok (.invokestatic 144, 3) := by decide +kernel
theorem d_Md_home_25 : decode b_Md_home 25 = .ok (.ifCond .eq 12, 3) := by decide +kernel
theorem d_Md_home_28 : decode b_Md_home 28 = .ok (.aload_n 0, 1) := by decide +kernel
theorem d_Md_home_29 : decode b_Md_home 29 = .ok (.iload_n 1, 1) := by decide +kernel
theorem d_Md_home_30 : decode b_Md_home 30 = .ok (.iload_n 2, 1) := by decide +kernel
theorem d_Md_home_31 : decode b_Md_home 31 = .ok (.invokevirtual 168, 3) := by decide +kernel
theorem d_Md_home_34 : decode b_Md_home 34 = .ok (.ifCond .ne 5, 3) := by decide +kernel
theorem d_Md_home_37 : decode b_Md_home 37 = .ok (.iconst (-1), 1) := by decide +kernel
theorem d_Md_home_38 : decode b_Md_home 38 = .ok (.ireturn, 1) := by decide +kernel
theorem d_Md_home_39 : decode b_Md_home 39 = .ok (.iconst 0, 1) := by decide +kernel
theorem d_Md_home_40 : decode b_Md_home 40 = .ok (.istore_n 3, 1) := by decide +kernel
theorem d_Md_home_41 : decode b_Md_home 41 = .ok (.aload_n 0, 1) := by decide +kernel
theorem d_Md_home_42 : decode b_Md_home 42 = .ok (.getfield 35, 3) := by decide +kernel
theorem d_Md_home_45 : decode b_Md_home 45 = .ok (.iload_n 3, 1) := by decide +kernel
theorem d_Md_home_46 : decode b_Md_home 46 = .ok (.iaload, 1) := by decide +kernel
theorem d_Md_home_47 : decode b_Md_home 47 = .ok (.iload_n 1, 1) := by decide +kernel
theorem d_Md_home_48 : decode b_Md_home 48 = .ok (.if_icmp .ne 23, 3) := by decide +kernel
theorem d_Md_home_51 : decode b_Md_home 51 = .ok (.iload_n 2, 1) := by decide +kernel
theorem d_Md_home_52 : decode b_Md_home 52 = .ok (.aload_n 0, 1) := by decide +kernel
theorem d_Md_home_53 : decode b_Md_home 53 = .ok (.getfield 38, 3) := by decide +kernel
theorem d_Md_home_56 : decode b_Md_home 56 = .ok (.iload_n 3, 1) := by decide +kernel
theorem d_Md_home_57 : decode b_Md_home 57 = .ok (.iaload, 1) := by decide +kernel
theorem d_Md_home_58 : decode b_Md_home 58 = .ok (.if_icmp .lt 13, 3) := by decide +kernel
theorem d_Md_home_61 : decode b_Md_home 61 = .ok (.iload_n 2, 1) := by decide +kernel
theorem d_Md_home_62 : decode b_Md_home 62 = .ok (.aload_n 0, 1) := by decide +kernel
theorem d_Md_home_63 : decode b_Md_home 63 = .ok (.getfield 41, 3) := by decide +kernel
theorem d_Md_home_66 : decode b_Md_home 66 = .ok (.iload_n 3, 1) := by decide +kernel
theorem d_Md_home_67 : decode b_Md_home 67 = .ok (.iaload, 1) := by decide +kernel
theorem d_Md_home_68 : decode b_Md_home 68 = .ok (.if_icmp .lt 9, 3) := by decide +kernel
theorem d_Md_home_71 : decode b_Md_home 71 = .ok (.iinc 3 1, 3) := by decide +kernel
theorem d_Md_home_74 : decode b_Md_home 74 = .ok (.goto (-33), 3) := by decide +kernel
theorem d_Md_home_77 : decode b_Md_home 77 = .ok (.aload_n 0, 1) := by decide +kernel
theorem d_Md_home_78 : decode b_Md_home 78 = .ok (.iconst 0, 1) := by decide +kernel
theorem d_Md_home_79 : decode b_Md_home 79 = .ok (.putfield 212, 3) := by decide +kernel
theorem d_Md_home_82 : decode b_Md_home 82 = .ok (.iconst 0, 1) := by decide +kernel
theorem d_Md_home_83 : decode b_Md_home 83 = .ok (.istore 4, 2) := by decide +kernel
theorem d_Md_home_85 : decode b_Md_home 85 = .ok (.iload 4, 2) := by decide +kernel
theorem d_Md_home_87 : decode b_Md_home 87 = .ok (.aload_n 0, 1) := by decide +kernel
theorem d_Md_home_88 : decode b_Md_home 88 = .ok (.getfield 148, 3) := by decide +kernel
theorem d_Md_home_91 : decode b_Md_home 91 = .ok (.if_icmp .ge 56, 3) := by decide +kernel
theorem d_Md_home_94 : decode b_Md_home 94 = .ok (.aload_n 0, 1) := by decide +kernel
theorem d_Md_home_95 : decode b_Md_home 95 = .ok (.getfield 53, 3) := by decide +kernel
theorem d_Md_home_98 : decode b_Md_home 98 = .ok (.iload 4, 2) := by decide +kernel
theorem d_Md_home_100 : decode b_Md_home 100 = .ok (.iaload, 1) := by decide +kernel
theorem d_Md_home_101 : decode b_Md_home 101 = .ok (.iload_n 2, 1) := by decide +kernel
theorem d_Md_home_102 : decode b_Md_home 102 = .ok (.if_icmp .gt 6, 3) := by decide +kernel
theorem d_Md_home_105 : decode b_Md_home 105 = .ok (.goto 36, 3) := by decide +kernel
theorem d_Md_home_108 : decode b_Md_home 108 = .ok (.aload_n 0, 1) := by decide +kernel
theorem d_Md_home_109 : decode b_Md_home 109 = .ok (.getfield 212, 3) := by decide +kernel
theorem d_Md_home_112 : decode b_Md_home 112 = .ok (.bipush 12, 2) := by decide +kernel
theorem d_Md_home_114 : decode b_Md_home 114 = .ok (.if_icmp .ne 6, 3) := by decide +kernel
theorem d_Md_home_117 : decode b_Md_home 117 = .ok (.bipush (-2), 2) := by decide +kernel
theorem d_Md_home_119 : decode b_Md_home 119 = .ok (.ireturn, 1) := by decide +kernel
theorem d_Md_home_120 : decode b_Md_home 120 = .ok (.aload_n 0, 1) := by decide +kernel
theorem d_Md_home_121 : decode b_Md_home 121 = .ok (.getfield 56, 3) := by decide +kernel
theorem d_Md_home_124 : decode b_Md_home 124 = .ok (.aload_n 0, 1) := by decide +kernel
theorem d_Md_home_125 : decode b_Md_home 125 = .ok (.getfield 212, 3) := by decide +kernel
theorem d_Md_home_128 : decode b_Md_home 128 = .ok (.iload 4, 2) := by decide +kernel
theorem d_Md_home_130 : decode b_Md_home 130 = .ok (.iastore, 1) := by decide +kernel
theorem d_Md_home_131 : decode b_Md_home 131 = .ok (.aload_n 0, 1) := by decide +kernel
theorem d_Md_home_132 : decode b_Md_home 132 = .ok (.dup, 1) := by decide +kernel
theorem d_Md_home_133 : decode b_Md_home 133 = .ok (.getfield 212, 3) := by decide +kernel
theorem d_Md_home_136 : decode b_Md_home 136 = .ok (.iconst 1, 1) := by decide +kernel
theorem d_Md_home_137 : decode b_Md_home 137 = .ok (.iadd, 1) := by decide +kernel
theorem d_Md_home_138 : decode b_Md_home 138 = .ok (.putfield 212, 3) := by decide +kernel
theorem d_Md_home_141 : decode b_Md_home 141 = .ok (.iinc 4 1, 3) := by decide +kernel
theorem d_Md_home_144 : decode b_Md_home 144 = .ok (.goto (-59), 3) := by decide +kernel
theorem d_Md_home_147 : decode b_Md_home 147 = .ok (.aload_n 0, 1) := by decide +kernel
theorem d_Md_home_148 : decode b_Md_home 148 = .ok (.iload_n 2, 1) := by decide +kernel
theorem d_Md_home_149 : decode b_Md_home 149 = .ok (.putfield 199, 3) := by decide +kernel
theorem d_Md_home_152 : decode b_Md_home 152 = .ok (.aload_n 0, 1) := by decide +kernel
theorem d_Md_home_153 : decode b_Md_home 153 = .ok (.iload_n 1, 1) := by decide +kernel
theorem d_Md_home_154 : decode b_Md_home 154 = .ok (.putfield 206, 3) := by decide +kernel
theorem d_Md_home_157 : decode b_Md_home 157 = .ok (.aload_n 0, 1) := by decide +kernel
theorem d_Md_home_158 : decode b_Md_home 158 = .ok (.aload_n 0, 1) := by decide +kernel
theorem d_Md_home_159 : decode b_Md_home 159 = .ok (.getfield 41, 3) := by decide +kernel
theorem d_Md_home_162 : decode b_Md_home 162 = .ok (.iload_n 3, 1) := by decide +kernel
theorem d_Md_home_163 : decode b_Md_home 163 = .ok (.iaload, 1) := by decide +kernel
theorem d_Md_home_164 : decode b_Md_home 164 = .ok (.putfield 209, 3) := by decide +kernel
theorem d_Md_home_167 : decode b_Md_home 167 = .ok (.aload_n 0, 1) := by decide +kernel
theorem d_Md_home_168 : decode b_Md_home 168 = .ok (.invokevirtual 231, 3) := by decide +kernel
theorem d_Md_home_171 : decode b_Md_home 171 = .ok (.ifCond .ne 6, 3) := by decide +kernel
theorem d_Md_home_174 : decode b_Md_home 174 = .ok (.bipush (-2), 2) := by decide +kernel
theorem d_Md_home_176 : decode b_Md_home 176 = .ok (.ireturn, 1) := by decide +kernel
theorem d_Md_home_177 : decode b_Md_home 177 = .ok (.aload_n 0, 1) := by decide +kernel
theorem d_Md_home_178 : decode b_Md_home 178 = .ok (.getfield 218, 3) := by decide +kernel
theorem d_Md_home_181 : decode b_Md_home 181 = .ok (.ifCond .ge 5, 3) := by decide +kernel
theorem d_Md_home_184 : decode b_Md_home 184 = .ok (.iconst (-1), 1) := by decide +kernel
theorem d_Md_home_185 : decode b_Md_home 185 = .ok (.ireturn, 1) := by decide +kernel
theorem d_Md_home_186 : decode b_Md_home 186 = .ok (.iconst 0, 1) := by decide +kernel
theorem d_Md_home_187 : decode b_Md_home 187 = .ok (.istore 4, 2) := by decide +kernel
theorem d_Md_home_189 : decode b_Md_home 189 = .ok (.iconst 0, 1) := by decide +kernel
theorem d_Md_home_190 : decode b_Md_home 190 = .ok (.istore 5, 2) := by decide +kernel
theorem d_Md_home_192 : decode b_Md_home 192 = .ok (.iload 5, 2) := by decide +kernel
theorem d_Md_home_194 : decode b_Md_home 194 = .ok (.aload_n 0, 1) := by decide +kernel
theorem d_Md_home_195 : decode b_Md_home 195 = .ok (.getfield 212, 3) := by decide +kernel
theorem d_Md_home_198 : decode b_Md_home 198 = .ok (.if_icmp .ge 57, 3) := by decide +kernel
theorem d_Md_home_201 : decode b_Md_home 201 = .ok (.iload 4, 2) := by decide +kernel
theorem d_Md_home_203 : decode b_Md_home 203 = .ok (.aload_n 0, 1) := by decide +kernel
theorem d_Md_home_204 : decode b_Md_home 204 = .ok (.getfield 62, 3) := by decide +kernel
theorem d_Md_home_207 : decode b_Md_home 207 = .ok (.iload 5, 2) := by decide +kernel
theorem d_Md_home_209 : decode b_Md_home 209 = .ok (.iaload, 1) := by decide +kernel
theorem d_Md_home_210 : decode b_Md_home 210 = .ok (.aload_n 0, 1) := by decide +kernel
theorem d_Md_home_211 : decode b_Md_home 211 = .ok (.getfield 47, 3) := by decide +kernel
theorem d_Md_home_214 : decode b_Md_home 214 = .ok (.aload_n 0, 1) := by decide +kernel
theorem d_Md_home_215 : decode b_Md_home 215 = .ok (.getfield 56, 3) := by decide +kernel
theorem d_Md_home_218 : decode b_Md_home 218 = .ok (.iload 5, 2) := by decide +kernel
theorem d_Md_home_220 : decode b_Md_home 220 = .ok (.iaload, 1) := by decide +kernel
theorem d_Md_home_221 : decode b_Md_home 221 = .ok (.iaload, 1) := by decide +kernel
theorem d_Md_home_222 : decode b_Md_home 222 = .ok (.if_icmp .eq 23, 3) := by decide +kernel
theorem d_Md_home_225 : decode b_Md_home 225 = .ok (.aload_n 0, 1) := by decide +kernel
theorem d_Md_home_226 : decode b_Md_home 226 = .ok (.getfield 50, 3) := by decide +kernel
theorem d_Md_home_229 : decode b_Md_home 229 = .ok (.aload_n 0, 1) := by decide +kernel
theorem d_Md_home_230 : decode b_Md_home 230 = .ok (.getfield 56, 3) := by decide +kernel
theorem d_Md_home_233 : decode b_Md_home 233 = .ok (.iload 5, 2) := by decide +kernel
theorem d_Md_home_235 : decode b_Md_home 235 = .ok (.iaload, 1) := by decide +kernel
theorem d_Md_home_236 : decode b_Md_home 236 = .ok (.iaload, 1) := by decide +kernel
theorem d_Md_home_237 : decode b_Md_home 237 = .ok (.iload_n 2, 1) := by decide +kernel
theorem d_Md_home_238 : decode b_Md_home 238 = .ok (.if_icmp .ge 7, 3) := by decide +kernel
theorem d_Md_home_241 : decode b_Md_home 241 = .ok (.iconst 1, 1) := by decide +kernel
theorem d_Md_home_242 : decode b_Md_home 242 = .ok (.goto 4, 3) := by decide +kernel
theorem d_Md_home_245 : decode b_Md_home 245 = .ok (.iconst 0, 1) := by decide +kernel
theorem d_Md_home_246 : decode b_Md_home 246 = .ok (.iadd, 1) := by decide +kernel
theorem d_Md_home_247 : decode b_Md_home 247 = .ok (.istore 4, 2) := by decide +kernel
theorem d_Md_home_249 : decode b_Md_home 249 = .ok (.iinc 5 1, 3) := by decide +kernel
theorem d_Md_home_252 : decode b_Md_home 252 = .ok (.goto (-60), 3) := by decide +kernel
theorem d_Md_home_255 : decode b_Md_home 255 = .ok (.aload_n 0, 1) := by decide +kernel
theorem d_Md_home_256 : decode b_Md_home 256 = .ok (.getfield 148, 3) := by decide +kernel
theorem d_Md_home_259 : decode b_Md_home 259 = .ok (.iload 4, 2) := by decide +kernel
theorem d_Md_home_261 : decode b_Md_home 261 = .ok (.iadd, 1) := by decide +kernel
theorem d_Md_home_262 : decode b_Md_home 262 = .ok (.bipush 40, 2) := by decide +kernel
theorem d_Md_home_264 : decode b_Md_home 264 = .ok (.if_icmp .le 6, 3) := by decide +kernel
theorem d_Md_home_267 : decode b_Md_home 267 = .ok (.bipush (-3), 2) := by decide +kernel
theorem d_Md_home_269 : decode b_Md_home 269 = .ok (.ireturn, 1) := by decide +kernel
theorem d_Md_home_270 : decode b_Md_home 270 = .ok (.aload_n 0, 1) := by decide +kernel
theorem d_Md_home_271 : decode b_Md_home 271 = .ok (.iload_n 3, 1) := by decide +kernel
theorem d_Md_home_272 : decode b_Md_home 272 = .ok (.iload_n 2, 1) := by decide +kernel
theorem d_Md_home_273 : decode b_Md_home 273 = .ok (.invokevirtual 234, 3) := by decide +kernel
theorem d_Md_home_276 : decode b_Md_home 276 = .ok (.aload_n 0, 1) := by decide +kernel
theorem d_Md_home_277 : decode b_Md_home 277 = .ok (.iload_n 2, 1) := by decide +kernel
theorem d_Md_home_278 : decode b_Md_home 278 = .ok (.invokevirtual 238, 3) := by decide +kernel
theorem d_Md_home_281 : decode b_Md_home 281 = .ok (.ireturn, 1) := by decide +kernel
abbrev y_Md_isBound : MethodName := ⟨"SmallHarbourModel", "isBound", "()Z"⟩
abbrev b_Md_isBound : ByteArray := prog_14_method_4_code
theorem mi_Md_isBound : MI y_Md_isBound b_Md_isBound 2 (some .boolean) 0 := ⟨w_1051, w_13, by decide +kernel, by decide, by decide⟩
theorem mv_Md_isBound : MV y_Md_isBound := ⟨w_1050, w_s2_15⟩
theorem d_Md_isBound_0 : decode b_Md_isBound 0 = .ok (.iconst 0, 1) := by decide +kernel
theorem d_Md_isBound_1 : decode b_Md_isBound 1 = .ok (.istore_n 1, 1) := by decide +kernel
theorem d_Md_isBound_2 : decode b_Md_isBound 2 = .ok (.iload_n 1, 1) := by decide +kernel
theorem d_Md_isBound_3 : decode b_Md_isBound 3 = .ok (.aload_n 0, 1) := by decide +kernel
theorem d_Md_isBound_4 : decode b_Md_isBound 4 = .ok (.getfield 141, 3) := by decide +kernel
theorem d_Md_isBound_7 : decode b_Md_isBound 7 = .ok (.if_icmp .ge 20, 3) := by decide +kernel
theorem d_Md_isBound_10 : decode b_Md_isBound 10 = .ok (.aload_n 0, 1) := by decide +kernel
theorem d_Md_isBound_11 : decode b_Md_isBound 11 = .ok (.getfield 32, 3) := by decide +kernel
theorem d_Md_isBound_14 : decode b_Md_isBound 14 = .ok (.iload_n 1, 1) := by decide +kernel
theorem d_Md_isBound_15 : decode b_Md_isBound 15 = .ok (.iaload, 1) := by decide +kernel
theorem d_Md_isBound_16 : decode b_Md_isBound 16 = .ok (.ifCond .lt 5, 3) := by decide +kernel
theorem d_Md_isBound_19 : decode b_Md_isBound 19 = .ok (.iconst 1, 1) := by decide +kernel
theorem d_Md_isBound_20 : decode b_Md_isBound 20 = .ok (.ireturn, 1) := by decide +kernel
theorem d_Md_isBound_21 : decode b_Md_isBound 21 = .ok (.iinc 1 1, 3) := by decide +kernel
theorem d_Md_isBound_24 : decode b_Md_isBound 24 = .ok (.goto (-22), 3) := by decide +kernel
theorem d_Md_isBound_27 : decode b_Md_isBound 27 = .ok (.aload_n 0, 1) := by decide +kernel
theorem d_Md_isBound_28 : decode b_Md_isBound 28 = .ok (.getfield 148, 3) := by decide +kernel
theorem d_Md_isBound_31 : decode b_Md_isBound 31 = .ok (.ifCond .le 7, 3) := by decide +kernel
theorem d_Md_isBound_34 : decode b_Md_isBound 34 = .ok (.iconst 1, 1) := by decide +kernel
theorem d_Md_isBound_35 : decode b_Md_isBound 35 = .ok (.goto 4, 3) := by decide +kernel
theorem d_Md_isBound_38 : decode b_Md_isBound 38 = .ok (.iconst 0, 1) := by decide +kernel
theorem d_Md_isBound_39 : decode b_Md_isBound 39 = .ok (.ireturn, 1) := by decide +kernel
abbrev y_Md_isDigit : MethodName := ⟨"SmallHarbourModel", "isDigit", "(I)Z"⟩
abbrev b_Md_isDigit : ByteArray := prog_14_method_52_code
theorem mi_Md_isDigit : MI y_Md_isDigit b_Md_isDigit 1 (some .boolean) 1 := ⟨w_1258, w_13, by decide +kernel, by decide, by decide⟩
theorem d_Md_isDigit_0 : decode b_Md_isDigit 0 = .ok (.iload_n 0, 1) := by decide +kernel
theorem d_Md_isDigit_1 : decode b_Md_isDigit 1 = .ok (.bipush 48, 2) := by decide +kernel
theorem d_Md_isDigit_3 : decode b_Md_isDigit 3 = .ok (.bipush 57, 2) := by decide +kernel
theorem d_Md_isDigit_5 : decode b_Md_isDigit 5 = .ok (.invokestatic 144, 3) := by decide +kernel
theorem d_Md_isDigit_8 : decode b_Md_isDigit 8 = .ok (.ireturn, 1) := by decide +kernel
abbrev y_Md_isEmpty : MethodName := ⟨"SmallHarbourModel", "isEmpty", "(III)Z"⟩
abbrev b_Md_isEmpty : ByteArray := prog_14_method_18_code
theorem mi_Md_isEmpty : MI y_Md_isEmpty b_Md_isEmpty 5 (some .boolean) 3 := ⟨w_1099, w_13, by decide +kernel, by decide, by decide⟩
theorem mv_Md_isEmpty : MV y_Md_isEmpty := ⟨w_1098, w_s3_6⟩
theorem d_Md_isEmpty_0 : decode b_Md_isEmpty 0 = .ok (.iload_n 2, 1) := by decide +kernel
theorem d_Md_isEmpty_1 : decode b_Md_isEmpty 1 = .ok (.istore 4, 2) := by decide +kernel
theorem d_Md_isEmpty_3 : decode b_Md_isEmpty 3 = .ok (.iload 4, 2) := by decide +kernel
theorem d_Md_isEmpty_5 : decode b_Md_isEmpty 5 = .ok (.iload_n 3, 1) := by decide +kernel
theorem d_Md_isEmpty_6 : decode b_Md_isEmpty 6 = .ok (.if_icmp .ge 21, 3) := by decide +kernel
theorem d_Md_isEmpty_9 : decode b_Md_isEmpty 9 = .ok (.aload_n 0, 1) := by decide +kernel
theorem d_Md_isEmpty_10 : decode b_Md_isEmpty 10 = .ok (.iload_n 1, 1) := by decide +kernel
theorem d_Md_isEmpty_11 : decode b_Md_isEmpty 11 = .ok (.iload 4, 2) := by decide +kernel
theorem d_Md_isEmpty_13 : decode b_Md_isEmpty 13 = .ok (.invokevirtual 183, 3) := by decide +kernel
theorem d_Md_isEmpty_16 : decode b_Md_isEmpty 16 = .ok (.ifCond .lt 5, 3) := by decide +kernel
theorem d_Md_isEmpty_19 : decode b_Md_isEmpty 19 = .ok (.iconst 0, 1) := by decide +kernel
theorem d_Md_isEmpty_20 : decode b_Md_isEmpty 20 = .ok (.ireturn, 1) := by decide +kernel
theorem d_Md_isEmpty_21 : decode b_Md_isEmpty 21 = .ok (.iinc 4 1, 3) := by decide +kernel
theorem d_Md_isEmpty_24 : decode b_Md_isEmpty 24 = .ok (.goto (-21), 3) := by decide +kernel
theorem d_Md_isEmpty_27 : decode b_Md_isEmpty 27 = .ok (.iconst 1, 1) := by decide +kernel
theorem d_Md_isEmpty_28 : decode b_Md_isEmpty 28 = .ok (.ireturn, 1) := by decide +kernel
abbrev y_Md_isLetter : MethodName := ⟨"SmallHarbourModel", "isLetter", "(I)Z"⟩
abbrev b_Md_isLetter : ByteArray := prog_14_method_51_code
theorem mi_Md_isLetter : MI y_Md_isLetter b_Md_isLetter 1 (some .boolean) 1 := ⟨w_1262, w_13, by decide +kernel, by decide, by decide⟩
theorem d_Md_isLetter_0 : decode b_Md_isLetter 0 = .ok (.iload_n 0, 1) := by decide +kernel
theorem d_Md_isLetter_1 : decode b_Md_isLetter 1 = .ok (.bipush 97, 2) := by decide +kernel
theorem d_Md_isLetter_3 : decode b_Md_isLetter 3 = .ok (.bipush 122, 2) := by decide +kernel
theorem d_Md_isLetter_5 : decode b_Md_isLetter 5 = .ok (.invokestatic 144, 3) := by decide +kernel
theorem d_Md_isLetter_8 : decode b_Md_isLetter 8 = .ok (.ifCond .ne 14, 3) := by decide +kernel
theorem d_Md_isLetter_11 : decode b_Md_isLetter 11 = .ok (.iload_n 0, 1) := by decide +kernel
theorem d_Md_isLetter_12 : decode b_Md_isLetter 12 = .ok (.bipush 65, 2) := by decide +kernel
theorem d_Md_isLetter_14 : decode b_Md_isLetter 14 = .ok (.bipush 90, 2) := by decide +kernel
theorem d_Md_isLetter_16 : decode b_Md_isLetter 16 = .ok (.invokestatic 144, 3) := by decide +kernel
theorem d_Md_isLetter_19 : decode b_Md_isLetter 19 = .ok (.ifCond .eq 7, 3) := by decide +kernel
theorem d_Md_isLetter_22 : decode b_Md_isLetter 22 = .ok (.iconst 1, 1) := by decide +kernel
theorem d_Md_isLetter_23 : decode b_Md_isLetter 23 = .ok (.goto 4, 3) := by decide +kernel
theorem d_Md_isLetter_26 : decode b_Md_isLetter 26 = .ok (.iconst 0, 1) := by decide +kernel
theorem d_Md_isLetter_27 : decode b_Md_isLetter 27 = .ok (.ireturn, 1) := by decide +kernel
abbrev y_Md_lane : MethodName := ⟨"SmallHarbourModel", "lane", "(I)I"⟩
abbrev b_Md_lane : ByteArray := prog_14_method_46_code
theorem mi_Md_lane : MI y_Md_lane b_Md_lane 2 (some .int) 1 := ⟨w_1227, w_13, by decide +kernel, by decide, by decide⟩
theorem mv_Md_lane : MV y_Md_lane := ⟨w_1225, w_1226⟩
theorem d_Md_lane_0 : decode b_Md_lane 0 = .ok (.iload_n 1, 1) := by decide +kernel
theorem d_Md_lane_1 : decode b_Md_lane 1 = .ok (.iconst 0, 1) := by decide +kernel
theorem d_Md_lane_2 : decode b_Md_lane 2 = .ok (.aload_n 0, 1) := by decide +kernel
theorem d_Md_lane_3 : decode b_Md_lane 3 = .ok (.getfield 263, 3) := by decide +kernel
theorem d_Md_lane_6 : decode b_Md_lane 6 = .ok (.iconst 1, 1) := by decide +kernel
theorem d_Md_lane_7 : decode b_Md_lane 7 = .ok (.isub, 1) := by decide +kernel
theorem d_Md_lane_8 : decode b_Md_lane 8 = .ok (.invokestatic 144, 3) := by decide +kernel
theorem d_Md_lane_11 : decode b_Md_lane 11 = .ok (.ifCond .eq 19, 3) := by decide +kernel
theorem d_Md_lane_14 : decode b_Md_lane 14 = .ok (.aload_n 0, 1) := by decide +kernel
theorem d_Md_lane_15 : decode b_Md_lane 15 = .ok (.invokevirtual 270, 3) := by decide +kernel
theorem d_Md_lane_18 : decode b_Md_lane 18 = .ok (.ifCond .lt 12, 3) := by decide +kernel
theorem d_Md_lane_21 : decode b_Md_lane 21 = .ok (.aload_n 0, 1) := by decide +kernel
theorem d_Md_lane_22 : decode b_Md_lane 22 = .ok (.getfield 111, 3) := by decide +kernel
theorem d_Md_lane_25 : decode b_Md_lane 25 = .ok (.iload_n 1, 1) := by decide +kernel
theorem d_Md_lane_26 : decode b_Md_lane 26 = .ok (.iaload, 1) := by decide +kernel
theorem d_Md_lane_27 : decode b_Md_lane 27 = .ok (.goto 4, 3) := by decide +kernel
theorem d_Md_lane_30 : decode b_Md_lane 30 = .ok (.iconst (-1), 1) := by decide +kernel
theorem d_Md_lane_31 : decode b_Md_lane 31 = .ok (.ireturn, 1) := by decide +kernel
abbrev y_Md_leaves : MethodName := ⟨"SmallHarbourModel", "leaves", "(II)Z"⟩
abbrev b_Md_leaves : ByteArray := prog_14_method_21_code
theorem mi_Md_leaves : MI y_Md_leaves b_Md_leaves 3 (some .boolean) 2 := ⟨w_1119, w_13, by decide +kernel, by decide, by decide⟩
theorem mv_Md_leaves : MV y_Md_leaves := ⟨w_1117, w_1118⟩
theorem d_Md_leaves_0 : decode b_Md_leaves 0 = .ok (.iload_n 1, 1) := by decide +kernel
theorem d_Md_leaves_1 : decode b_Md_leaves 1 = .ok (.iconst 0, 1) := by decide +kernel
theorem d_Md_leaves_2 : decode b_Md_leaves 2 = .ok (.aload_n 0, 1) := by decide +kernel
theorem d_Md_leaves_3 : decode b_Md_leaves 3 = .ok (.getfield 148, 3) := by decide +kernel
theorem d_Md_leaves_6 : decode b_Md_leaves 6 = .ok (.iconst 1, 1) := by decide +kernel
theorem d_Md_leaves_7 : decode b_Md_leaves 7 = .ok (.isub, 1) := by decide +kernel
theorem d_Md_leaves_8 : decode b_Md_leaves 8 = .ok (.invokestatic 144, 3) := by decide +kernel
theorem d_Md_leaves_11 : decode b_Md_leaves 11 = .ok (.ifCond .eq 23, 3) := by decide +kernel
theorem d_Md_leaves_14 : decode b_Md_leaves 14 = .ok (.iload_n 2, 1) := by decide +kernel
theorem d_Md_leaves_15 : decode b_Md_leaves 15 = .ok (.aload_n 0, 1) := by decide +kernel
theorem d_Md_leaves_16 : decode b_Md_leaves 16 = .ok (.getfield 50, 3) := by decide +kernel
theorem d_Md_leaves_19 : decode b_Md_leaves 19 = .ok (.iload_n 1, 1) := by decide +kernel
theorem d_Md_leaves_20 : decode b_Md_leaves 20 = .ok (.iaload, 1) := by decide +kernel
theorem d_Md_leaves_21 : decode b_Md_leaves 21 = .ok (.if_icmp .le 13, 3) := by decide +kernel
theorem d_Md_leaves_24 : decode b_Md_leaves 24 = .ok (.iload_n 2, 1) := by decide +kernel
theorem d_Md_leaves_25 : decode b_Md_leaves 25 = .ok (.aload_n 0, 1) := by decide +kernel
theorem d_Md_leaves_26 : decode b_Md_leaves 26 = .ok (.getfield 53, 3) := by decide +kernel
theorem d_Md_leaves_29 : decode b_Md_leaves 29 = .ok (.iload_n 1, 1) := by decide +kernel
theorem d_Md_leaves_30 : decode b_Md_leaves 30 = .ok (.iaload, 1) := by decide +kernel
theorem d_Md_leaves_31 : decode b_Md_leaves 31 = .ok (.if_icmp .lt 5, 3) := by decide +kernel
theorem d_Md_leaves_34 : decode b_Md_leaves 34 = .ok (.iconst 0, 1) := by decide +kernel
theorem d_Md_leaves_35 : decode b_Md_leaves 35 = .ok (.ireturn, 1) := by decide +kernel
theorem d_Md_leaves_36 : decode b_Md_leaves 36 = .ok (.aload_n 0, 1) := by decide +kernel
theorem d_Md_leaves_37 : decode b_Md_leaves 37 = .ok (.getfield 53, 3) := by decide +kernel
theorem d_Md_leaves_40 : decode b_Md_leaves 40 = .ok (.iload_n 1, 1) := by decide +kernel
theorem d_Md_leaves_41 : decode b_Md_leaves 41 = .ok (.iload_n 2, 1) := by decide +kernel
theorem d_Md_leaves_42 : decode b_Md_leaves 42 = .ok (.iastore, 1) := by decide +kernel
theorem d_Md_leaves_43 : decode b_Md_leaves 43 = .ok (.iconst 1, 1) := by decide +kernel
theorem d_Md_leaves_44 : decode b_Md_leaves 44 = .ok (.ireturn, 1) := by decide +kernel
abbrev y_Md_left : MethodName := ⟨"SmallHarbourModel", "left", "(II)I"⟩
abbrev b_Md_left : ByteArray := prog_14_method_39_code
theorem mi_Md_left : MI y_Md_left b_Md_left 5 (some .int) 2 := ⟨w_1203, w_13, by decide +kernel, by decide, by decide⟩
theorem mv_Md_left : MV y_Md_left := ⟨w_1202, w_s4_4⟩
theorem d_Md_left_0 : decode b_Md_left 0 = .ok (.aload_n 0, 1) := by decide +kernel
theorem d_Md_left_1 : decode b_Md_left 1 = .ok (.getfield 77, 3) := by decide +kernel
theorem d_Md_left_4 : decode b_Md_left 4 = .ok (.istore_n 3, 1) := by decide +kernel
theorem d_Md_left_5 : decode b_Md_left 5 = .ok (.iconst 0, 1) := by decide +kernel
theorem d_Md_left_6 : decode b_Md_left 6 = .ok (.istore 4, 2) := by decide +kernel
theorem d_Md_left_8 : decode b_Md_left 8 = .ok (.iload 4, 2) := by decide +kernel
theorem d_Md_left_10 : decode b_Md_left 10 = .ok (.iload_n 2, 1) := by decide +kernel
theorem d_Md_left_11 : decode b_Md_left 11 = .ok (.if_icmp .ge 34, 3) := by decide +kernel
theorem d_Md_left_14 : decode b_Md_left 14 = .ok (.iload_n 3, 1) := by decide +kernel
theorem d_Md_left_15 : decode b_Md_left 15 = .ok (.aload_n 0, 1) := by decide +kernel
theorem d_Md_left_16 : decode b_Md_left 16 = .ok (.getfield 93, 3) := by decide +kernel
theorem d_Md_left_19 : decode b_Md_left 19 = .ok (.iload 4, 2) := by decide +kernel
theorem d_Md_left_21 : decode b_Md_left 21 = .ok (.iaload, 1) := by decide +kernel
theorem d_Md_left_22 : decode b_Md_left 22 = .ok (.iload_n 1, 1) := by decide +kernel
theorem d_Md_left_23 : decode b_Md_left 23 = .ok (.if_icmp .ne 13, 3) := by decide +kernel
theorem d_Md_left_26 : decode b_Md_left 26 = .ok (.aload_n 0, 1) := by decide +kernel
theorem d_Md_left_27 : decode b_Md_left 27 = .ok (.getfield 90, 3) := by decide +kernel
theorem d_Md_left_30 : decode b_Md_left 30 = .ok (.iload 4, 2) := by decide +kernel
theorem d_Md_left_32 : decode b_Md_left 32 = .ok (.iaload, 1) := by decide +kernel
theorem d_Md_left_33 : decode b_Md_left 33 = .ok (.goto 4, 3) := by decide +kernel
theorem d_Md_left_36 : decode b_Md_left 36 = .ok (.iconst 0, 1) := by decide +kernel
theorem d_Md_left_37 : decode b_Md_left 37 = .ok (.isub, 1) := by decide +kernel
theorem d_Md_left_38 : decode b_Md_left 38 = .ok (.istore_n 3, 1) := by decide +kernel
theorem d_Md_left_39 : decode b_Md_left 39 = .ok (.iinc 4 1, 3) := by decide +kernel
theorem d_Md_left_42 : decode b_Md_left 42 = .ok (.goto (-34), 3) := by decide +kernel
theorem d_Md_left_45 : decode b_Md_left 45 = .ok (.iload_n 3, 1) := by decide +kernel
theorem d_Md_left_46 : decode b_Md_left 46 = .ok (.ireturn, 1) := by decide +kernel
abbrev y_Md_level : MethodName := ⟨"SmallHarbourModel", "level", "(II)Z"⟩
abbrev b_Md_level : ByteArray := prog_14_method_6_code
theorem mi_Md_level : MI y_Md_level b_Md_level 3 (some .boolean) 2 := ⟨w_1055, w_13, by decide +kernel, by decide, by decide⟩
theorem mv_Md_level : MV y_Md_level := ⟨w_1053, w_1054⟩
theorem d_Md_level_0 : decode b_Md_level 0 = .ok (.iload_n 1, 1) := by decide +kernel
theorem d_Md_level_1 : decode b_Md_level 1 = .ok (.iconst 0, 1) := by decide +kernel
theorem d_Md_level_2 : decode b_Md_level 2 = .ok (.aload_n 0, 1) := by decide +kernel
theorem d_Md_level_3 : decode b_Md_level 3 = .ok (.getfield 7, 3) := by decide +kernel
theorem d_Md_level_6 : decode b_Md_level 6 = .ok (.iconst 1, 1) := by decide +kernel
theorem d_Md_level_7 : decode b_Md_level 7 = .ok (.isub, 1) := by decide +kernel
theorem d_Md_level_8 : decode b_Md_level 8 = .ok (.invokestatic 144, 3) := by decide +kernel
theorem d_Md_level_11 : decode b_Md_level 11 = .ok (.ifCond .eq 20, 3) := by decide +kernel
theorem d_Md_level_14 : decode b_Md_level 14 = .ok (.iload_n 2, 1) := by decide +kernel
theorem d_Md_level_15 : decode b_Md_level 15 = .ok (.iconst 0, 1) := by decide +kernel
theorem d_Md_level_16 : decode b_Md_level 16 = .ok (.bipush 40, 2) := by decide +kernel
theorem d_Md_level_18 : decode b_Md_level 18 = .ok (.invokestatic 144, 3) := by decide +kernel
theorem d_Md_level_21 : decode b_Md_level 21 = .ok (.ifCond .eq 10, 3) := by decide +kernel
theorem d_Md_level_24 : decode b_Md_level 24 = .ok (.aload_n 0, 1) := by decide +kernel
theorem d_Md_level_25 : decode b_Md_level 25 = .ok (.invokevirtual 151, 3) := by decide +kernel
theorem d_Md_level_28 : decode b_Md_level 28 = .ok (.ifCond .eq 5, 3) := by decide +kernel
theorem d_Md_level_31 : decode b_Md_level 31 = .ok (.iconst 0, 1) := by decide +kernel
theorem d_Md_level_32 : decode b_Md_level 32 = .ok (.ireturn, 1) := by decide +kernel
theorem d_Md_level_33 : decode b_Md_level 33 = .ok (.aload_n 0, 1) := by decide +kernel
theorem d_Md_level_34 : decode b_Md_level 34 = .ok (.getfield 13, 3) := by decide +kernel
theorem d_Md_level_37 : decode b_Md_level 37 = .ok (.iload_n 1, 1) := by decide +kernel
theorem d_Md_level_38 : decode b_Md_level 38 = .ok (.iload_n 2, 1) := by decide +kernel
theorem d_Md_level_39 : decode b_Md_level 39 = .ok (.iastore, 1) := by decide +kernel
theorem d_Md_level_40 : decode b_Md_level 40 = .ok (.iconst 1, 1) := by decide +kernel
theorem d_Md_level_41 : decode b_Md_level 41 = .ok (.ireturn, 1) := by decide +kernel
abbrev y_Md_levels : MethodName := ⟨"SmallHarbourModel", "levels", "(I)Z"⟩
abbrev b_Md_levels : ByteArray := prog_14_method_5_code
theorem mi_Md_levels : MI y_Md_levels b_Md_levels 3 (some .boolean) 1 := ⟨w_1044, w_13, by decide +kernel, by decide, by decide⟩
theorem mv_Md_levels : MV y_Md_levels := ⟨w_1042, w_1043⟩
theorem d_Md_levels_0 : decode b_Md_levels 0 = .ok (.iload_n 1, 1) := by decide +kernel
theorem d_Md_levels_1 : decode b_Md_levels 1 = .ok (.iconst 1, 1) := by decide +kernel
theorem d_Md_levels_2 : decode b_Md_levels 2 = .ok (.bipush 30, 2) := by decide +kernel
theorem d_Md_levels_4 : decode b_Md_levels 4 = .ok (.invokestatic 144, 3) := by decide +kernel
theorem d_Md_levels_7 : decode b_Md_levels 7 = .ok (.ifCond .eq 10, 3) := by decide +kernel
theorem d_Md_levels_10 : decode b_Md_levels 10 = .ok (.aload_n 0, 1) := by decide +kernel
theorem d_Md_levels_11 : decode b_Md_levels 11 = .ok (.invokevirtual 151, 3) := by decide +kernel
theorem d_Md_levels_14 : decode b_Md_levels 14 = .ok (.ifCond .eq 5, 3) := by decide +kernel
theorem d_Md_levels_17 : decode b_Md_levels 17 = .ok (.iconst 0, 1) := by decide +kernel
theorem d_Md_levels_18 : decode b_Md_levels 18 = .ok (.ireturn, 1) := by decide +kernel
theorem d_Md_levels_19 : decode b_Md_levels 19 = .ok (.aload_n 0, 1) := by decide +kernel
theorem d_Md_levels_20 : decode b_Md_levels 20 = .ok (.iload_n 1, 1) := by decide +kernel
theorem d_Md_levels_21 : decode b_Md_levels 21 = .ok (.putfield 7, 3) := by decide +kernel
theorem d_Md_levels_24 : decode b_Md_levels 24 = .ok (.iconst 0, 1) := by decide +kernel
theorem d_Md_levels_25 : decode b_Md_levels 25 = .ok (.istore_n 2, 1) := by decide +kernel
theorem d_Md_levels_26 : decode b_Md_levels 26 = .ok (.iload_n 2, 1) := by decide +kernel
theorem d_Md_levels_27 : decode b_Md_levels 27 = .ok (.bipush 30, 2) := by decide +kernel
theorem d_Md_levels_29 : decode b_Md_levels 29 = .ok (.if_icmp .ge 16, 3) := by decide +kernel
theorem d_Md_levels_32 : decode b_Md_levels 32 = .ok (.aload_n 0, 1) := by decide +kernel
theorem d_Md_levels_33 : decode b_Md_levels 33 = .ok (.getfield 13, 3) := by decide +kernel
theorem d_Md_levels_36 : decode b_Md_levels 36 = .ok (.iload_n 2, 1) := by decide +kernel
theorem d_Md_levels_37 : decode b_Md_levels 37 = .ok (.iconst 0, 1) := by decide +kernel
theorem d_Md_levels_38 : decode b_Md_levels 38 = .ok (.iastore, 1) := by decide +kernel
theorem d_Md_levels_39 : decode b_Md_levels 39 = .ok (.iinc 2 1, 3) := by decide +kernel
theorem d_Md_levels_42 : decode b_Md_levels 42 = .ok (.goto (-16), 3) := by decide +kernel
theorem d_Md_levels_45 : decode b_Md_levels 45 = .ok (.iconst 1, 1) := by decide +kernel
theorem d_Md_levels_46 : decode b_Md_levels 46 = .ok (.ireturn, 1) := by decide +kernel
abbrev y_Md_lies : MethodName := ⟨"SmallHarbourModel", "lies", "(II)I"⟩
abbrev b_Md_lies : ByteArray := prog_14_method_33_code
theorem mi_Md_lies : MI y_Md_lies b_Md_lies 3 (some .int) 2 := ⟨w_1175, w_13, by decide +kernel, by decide, by decide⟩
theorem mv_Md_lies : MV y_Md_lies := ⟨w_1173, w_1174⟩
theorem d_Md_lies_0 : decode b_Md_lies 0 = .ok (.iload_n 1, 1) := by decide +kernel
theorem d_Md_lies_1 : decode b_Md_lies 1 = .ok (.iconst 0, 1) := by decide +kernel
theorem d_Md_lies_2 : decode b_Md_lies 2 = .ok (.aload_n 0, 1) := by decide +kernel
theorem d_Md_lies_3 : decode b_Md_lies 3 = .ok (.getfield 155, 3) := by decide +kernel
theorem d_Md_lies_6 : decode b_Md_lies 6 = .ok (.iconst 1, 1) := by decide +kernel
theorem d_Md_lies_7 : decode b_Md_lies 7 = .ok (.isub, 1) := by decide +kernel
theorem d_Md_lies_8 : decode b_Md_lies 8 = .ok (.invokestatic 144, 3) := by decide +kernel
theorem d_Md_lies_11 : decode b_Md_lies 11 = .ok (.ifCond .eq 23, 3) := by decide +kernel
theorem d_Md_lies_14 : decode b_Md_lies 14 = .ok (.iload_n 2, 1) := by decide +kernel
theorem d_Md_lies_15 : decode b_Md_lies 15 = .ok (.iconst 0, 1) := by decide +kernel
theorem d_Md_lies_16 : decode b_Md_lies 16 = .ok (.sipush 399, 3) := by decide +kernel
theorem d_Md_lies_19 : decode b_Md_lies 19 = .ok (.invokestatic 144, 3) := by decide +kernel
theorem d_Md_lies_22 : decode b_Md_lies 22 = .ok (.ifCond .eq 12, 3) := by decide +kernel
theorem d_Md_lies_25 : decode b_Md_lies 25 = .ok (.aload_n 0, 1) := by decide +kernel
theorem d_Md_lies_26 : decode b_Md_lies 26 = .ok (.iload_n 1, 1) := by decide +kernel
theorem d_Md_lies_27 : decode b_Md_lies 27 = .ok (.iload_n 2, 1) := by decide +kernel
theorem d_Md_lies_28 : decode b_Md_lies 28 = .ok (.invokevirtual 183, 3) := by decide +kernel
theorem d_Md_lies_31 : decode b_Md_lies 31 = .ok (.goto 4, 3) := by decide +kernel
theorem d_Md_lies_34 : decode b_Md_lies 34 = .ok (.iconst (-1), 1) := by decide +kernel
theorem d_Md_lies_35 : decode b_Md_lies 35 = .ok (.ireturn, 1) := by decide +kernel
abbrev y_Md_lift : MethodName := ⟨"SmallHarbourModel", "lift", "(III)I"⟩
abbrev b_Md_lift : ByteArray := prog_14_method_38_code
theorem mi_Md_lift : MI y_Md_lift b_Md_lift 4 (some .int) 3 := ⟨w_1195, w_13, by decide +kernel, by decide, by decide⟩
theorem mv_Md_lift : MV y_Md_lift := ⟨w_1193, w_1194⟩
theorem d_Md_lift_0 : decode b_Md_lift 0 = .ok (.aload_n 0, 1) := by decide +kernel
theorem d_Md_lift_1 : decode b_Md_lift 1 = .ok (.iload_n 1, 1) := by decide +kernel
theorem d_Md_lift_2 : decode b_Md_lift 2 = .ok (.invokevirtual 179, 3) := by decide +kernel
theorem d_Md_lift_5 : decode b_Md_lift 5 = .ok (.ifCond .eq 34, 3) := by decide +kernel
theorem d_Md_lift_8 : decode b_Md_lift 8 = .ok (.iload_n 2, 1) := by decide +kernel
theorem d_Md_lift_9 : decode b_Md_lift 9 = .ok (.iconst 0, 1) := by decide +kernel
theorem d_Md_lift_10 : decode b_Md_lift 10 = .ok (.sipush 399, 3) := by decide +kernel
theorem d_Md_lift_13 : decode b_Md_lift 13 = .ok (.invokestatic 144, 3) := by decide +kernel
theorem d_Md_lift_16 : decode b_Md_lift 16 = .ok (.ifCond .eq 23, 3) := by decide +kernel
theorem d_Md_lift_19 : decode b_Md_lift 19 = .ok (.iload_n 3, 1) := by decide +kernel
theorem d_Md_lift_20 : decode b_Md_lift 20 = .ok (.iconst 1, 1) := by decide +kernel
theorem d_Md_lift_21 : decode b_Md_lift 21 = .ok (.sipush 600, 3) := by decide +kernel
theorem d_Md_lift_24 : decode b_Md_lift 24 = .ok (.invokestatic 144, 3) := by decide +kernel
theorem d_Md_lift_27 : decode b_Md_lift 27 = .ok (.ifCond .eq 12, 3) := by decide +kernel
theorem d_Md_lift_30 : decode b_Md_lift 30 = .ok (.aload_n 0, 1) := by decide +kernel
theorem d_Md_lift_31 : decode b_Md_lift 31 = .ok (.getfield 257, 3) := by decide +kernel
theorem d_Md_lift_34 : decode b_Md_lift 34 = .ok (.bipush 40, 2) := by decide +kernel
theorem d_Md_lift_36 : decode b_Md_lift 36 = .ok (.if_icmp .ne 5, 3) := by decide +kernel
theorem d_Md_lift_39 : decode b_Md_lift 39 = .ok (.iconst (-1), 1) := by decide +kernel
theorem d_Md_lift_40 : decode b_Md_lift 40 = .ok (.ireturn, 1) := by decide +kernel
theorem d_Md_lift_41 : decode b_Md_lift 41 = .ok (.aload_n 0, 1) := by decide +kernel
theorem d_Md_lift_42 : decode b_Md_lift 42 = .ok (.getfield 84, 3) := by decide +kernel
theorem d_Md_lift_45 : decode b_Md_lift 45 = .ok (.aload_n 0, 1) := by decide +kernel
theorem d_Md_lift_46 : decode b_Md_lift 46 = .ok (.getfield 257, 3) := by decide +kernel
theorem d_Md_lift_49 : decode b_Md_lift 49 = .ok (.iload_n 1, 1) := by decide +kernel
theorem d_Md_lift_50 : decode b_Md_lift 50 = .ok (.iastore, 1) := by decide +kernel
theorem d_Md_lift_51 : decode b_Md_lift 51 = .ok (.aload_n 0, 1) := by decide +kernel
theorem d_Md_lift_52 : decode b_Md_lift 52 = .ok (.getfield 87, 3) := by decide +kernel
theorem d_Md_lift_55 : decode b_Md_lift 55 = .ok (.aload_n 0, 1) := by decide +kernel
theorem d_Md_lift_56 : decode b_Md_lift 56 = .ok (.getfield 257, 3) := by decide +kernel
theorem d_Md_lift_59 : decode b_Md_lift 59 = .ok (.iload_n 2, 1) := by decide +kernel
theorem d_Md_lift_60 : decode b_Md_lift 60 = .ok (.iastore, 1) := by decide +kernel
theorem d_Md_lift_61 : decode b_Md_lift 61 = .ok (.aload_n 0, 1) := by decide +kernel
theorem d_Md_lift_62 : decode b_Md_lift 62 = .ok (.getfield 90, 3) := by decide +kernel
theorem d_Md_lift_65 : decode b_Md_lift 65 = .ok (.aload_n 0, 1) := by decide +kernel
theorem d_Md_lift_66 : decode b_Md_lift 66 = .ok (.getfield 257, 3) := by decide +kernel
theorem d_Md_lift_69 : decode b_Md_lift 69 = .ok (.iload_n 3, 1) := by decide +kernel
theorem d_Md_lift_70 : decode b_Md_lift 70 = .ok (.iastore, 1) := by decide +kernel
theorem d_Md_lift_71 : decode b_Md_lift 71 = .ok (.aload_n 0, 1) := by decide +kernel
theorem d_Md_lift_72 : decode b_Md_lift 72 = .ok (.dup, 1) := by decide +kernel
theorem d_Md_lift_73 : decode b_Md_lift 73 = .ok (.getfield 257, 3) := by decide +kernel
theorem d_Md_lift_76 : decode b_Md_lift 76 = .ok (.iconst 1, 1) := by decide +kernel
theorem d_Md_lift_77 : decode b_Md_lift 77 = .ok (.iadd, 1) := by decide +kernel
theorem d_Md_lift_78 : decode b_Md_lift 78 = .ok (.putfield 257, 3) := by decide +kernel
theorem d_Md_lift_81 : decode b_Md_lift 81 = .ok (.aload_n 0, 1) := by decide +kernel
theorem d_Md_lift_82 : decode b_Md_lift 82 = .ok (.getfield 257, 3) := by decide +kernel
theorem d_Md_lift_85 : decode b_Md_lift 85 = .ok (.iconst 1, 1) := by decide +kernel
theorem d_Md_lift_86 : decode b_Md_lift 86 = .ok (.isub, 1) := by decide +kernel
theorem d_Md_lift_87 : decode b_Md_lift 87 = .ok (.ireturn, 1) := by decide +kernel
abbrev y_Md_lifted : MethodName := ⟨"SmallHarbourModel", "lifted", "(I)I"⟩
abbrev b_Md_lifted : ByteArray := prog_14_method_40_code
theorem mi_Md_lifted : MI y_Md_lifted b_Md_lifted 5 (some .int) 1 := ⟨w_1199, w_13, by decide +kernel, by decide, by decide⟩
theorem mv_Md_lifted : MV y_Md_lifted := ⟨w_1197, w_1198⟩
theorem d_Md_lifted_0 : decode b_Md_lifted 0 = .ok (.iload_n 1, 1) := by decide +kernel
theorem d_Md_lifted_1 : decode b_Md_lifted 1 = .ok (.iconst 0, 1) := by decide +kernel
theorem d_Md_lifted_2 : decode b_Md_lifted 2 = .ok (.aload_n 0, 1) := by decide +kernel
theorem d_Md_lifted_3 : decode b_Md_lifted 3 = .ok (.getfield 257, 3) := by decide +kernel
theorem d_Md_lifted_6 : decode b_Md_lifted 6 = .ok (.iconst 1, 1) := by decide +kernel
theorem d_Md_lifted_7 : decode b_Md_lifted 7 = .ok (.isub, 1) := by decide +kernel
theorem d_Md_lifted_8 : decode b_Md_lifted 8 = .ok (.invokestatic 144, 3) := by decide +kernel
theorem d_Md_lifted_11 : decode b_Md_lifted 11 = .ok (.ifCond .ne 5, 3) := by decide +kernel
theorem d_Md_lifted_14 : decode b_Md_lifted 14 = .ok (.iconst (-1), 1) := by decide +kernel
theorem d_Md_lifted_15 : decode b_Md_lifted 15 = .ok (.ireturn, 1) := by decide +kernel
theorem d_Md_lifted_16 : decode b_Md_lifted 16 = .ok (.iconst 0, 1) := by decide +kernel
theorem d_Md_lifted_17 : decode b_Md_lifted 17 = .ok (.istore_n 2, 1) := by decide +kernel
theorem d_Md_lifted_18 : decode b_Md_lifted 18 = .ok (.iconst 0, 1) := by decide +kernel
theorem d_Md_lifted_19 : decode b_Md_lifted 19 = .ok (.istore_n 3, 1) := by decide +kernel
theorem d_Md_lifted_20 : decode b_Md_lifted 20 = .ok (.iload_n 3, 1) := by decide +kernel
theorem d_Md_lifted_21 : decode b_Md_lifted 21 = .ok (.iload_n 1, 1) := by decide +kernel
theorem d_Md_lifted_22 : decode b_Md_lifted 22 = .ok (.if_icmp .gt 144, 3) := by decide +kernel
theorem d_Md_lifted_25 : decode b_Md_lifted 25 = .ok (.aload_n 0, 1) := by decide +kernel
theorem d_Md_lifted_26 : decode b_Md_lifted 26 = .ok (.getfield 87, 3) := by decide +kernel
theorem d_Md_lifted_29 : decode b_Md_lifted 29 = .ok (.iload_n 3, 1) := by decide +kernel
theorem d_Md_lifted_30 : decode b_Md_lifted 30 = .ok (.iaload, 1) := by decide +kernel
theorem d_Md_lifted_31 : decode b_Md_lifted 31 = .ok (.iload_n 2, 1) := by decide +kernel
theorem d_Md_lifted_32 : decode b_Md_lifted 32 = .ok (.if_icmp .ge 7, 3) := by decide +kernel
theorem d_Md_lifted_35 : decode b_Md_lifted 35 = .ok (.iload_n 2, 1) := by decide +kernel
theorem d_Md_lifted_36 : decode b_Md_lifted 36 = .ok (.goto 9, 3) := by decide +kernel
theorem d_Md_lifted_39 : decode b_Md_lifted 39 = .ok (.aload_n 0, 1) := by decide +kernel
theorem d_Md_lifted_40 : decode b_Md_lifted 40 = .ok (.getfield 87, 3) := by decide +kernel
theorem d_Md_lifted_43 : decode b_Md_lifted 43 = .ok (.iload_n 3, 1) := by decide +kernel
theorem d_Md_lifted_44 : decode b_Md_lifted 44 = .ok (.iaload, 1) := by decide +kernel
theorem d_Md_lifted_45 : decode b_Md_lifted 45 = .ok (.istore 4, 2) := by decide +kernel
theorem d_Md_lifted_47 : decode b_Md_lifted 47 = .ok (.iload 4, 2) := by decide +kernel
theorem d_Md_lifted_49 : decode b_Md_lifted 49 = .ok (.sipush 400, 3) := by decide +kernel
theorem d_Md_lifted_52 : decode b_Md_lifted 52 = .ok (.if_icmp .ge 54, 3) := by decide +kernel
theorem d_Md_lifted_55 : decode b_Md_lifted 55 = .ok (.aload_n 0, 1) := by decide +kernel
theorem d_Md_lifted_56 : decode b_Md_lifted 56 = .ok (.getfield 80, 3) := by decide +kernel
theorem d_Md_lifted_59 : decode b_Md_lifted 59 = .ok (.iload 4, 2) := by decide +kernel
theorem d_Md_lifted_61 : decode b_Md_lifted 61 = .ok (.baload, 1) := by decide +kernel
theorem d_Md_lifted_62 : decode b_Md_lifted 62 = .ok (.ifCond .ne 38, 3) := by decide +kernel
theorem d_Md_lifted_65 : decode b_Md_lifted 65 = .ok (.aload_n 0, 1) := by decide +kernel
theorem d_Md_lifted_66 : decode b_Md_lifted 66 = .ok (.getfield 13, 3) := by decide +kernel
theorem d_Md_lifted_69 : decode b_Md_lifted 69 = .ok (.iload 4, 2) := by decide +kernel
theorem d_Md_lifted_71 : decode b_Md_lifted 71 = .ok (.aload_n 0, 1) := by decide +kernel
theorem d_Md_lifted_72 : decode b_Md_lifted 72 = .ok (.getfield 7, 3) := by decide +kernel
theorem d_Md_lifted_75 : decode b_Md_lifted 75 = .ok (.irem, 1) := by decide +kernel
theorem d_Md_lifted_76 : decode b_Md_lifted 76 = .ok (.iaload, 1) := by decide +kernel
theorem d_Md_lifted_77 : decode b_Md_lifted 77 = .ok (.aload_n 0, 1) := by decide +kernel
theorem d_Md_lifted_78 : decode b_Md_lifted 78 = .ok (.getfield 254, 3) := by decide +kernel
theorem d_Md_lifted_81 : decode b_Md_lifted 81 = .ok (.if_icmp .lt 19, 3) := by decide +kernel
theorem d_Md_lifted_84 : decode b_Md_lifted 84 = .ok (.aload_n 0, 1) := by decide +kernel
theorem d_Md_lifted_85 : decode b_Md_lifted 85 = .ok (.iload 4, 2) := by decide +kernel
theorem d_Md_lifted_87 : decode b_Md_lifted 87 = .ok (.iload_n 3, 1) := by decide +kernel
theorem d_Md_lifted_88 : decode b_Md_lifted 88 = .ok (.invokevirtual 260, 3) := by decide +kernel
theorem d_Md_lifted_91 : decode b_Md_lifted 91 = .ok (.aload_n 0, 1) := by decide +kernel
theorem d_Md_lifted_92 : decode b_Md_lifted 92 = .ok (.getfield 90, 3) := by decide +kernel
theorem d_Md_lifted_95 : decode b_Md_lifted 95 = .ok (.iload_n 3, 1) := by decide +kernel
theorem d_Md_lifted_96 : decode b_Md_lifted 96 = .ok (.iaload, 1) := by decide +kernel
theorem d_Md_lifted_97 : decode b_Md_lifted 97 = .ok (.if_icmp .ge 9, 3) := by decide +kernel
theorem d_Md_lifted_100 : decode b_Md_lifted 100 = .ok (.iinc 4 1, 3) := by decide +kernel
theorem d_Md_lifted_103 : decode b_Md_lifted 103 = .ok (.goto (-56), 3) := by decide +kernel
theorem d_Md_lifted_106 : decode b_Md_lifted 106 = .ok (.aload_n 0, 1) := by decide +kernel
theorem d_Md_lifted_107 : decode b_Md_lifted 107 = .ok (.getfield 93, 3) := by decide +kernel
theorem d_Md_lifted_110 : decode b_Md_lifted 110 = .ok (.iload_n 3, 1) := by decide +kernel
theorem d_Md_lifted_111 : decode b_Md_lifted 111 = .ok (.iload 4, 2) := by decide +kernel
theorem d_Md_lifted_113 : decode b_Md_lifted 113 = .ok (.sipush 400, 3) := by decide +kernel
theorem d_Md_lifted_116 : decode b_Md_lifted 116 = .ok (.if_icmp .ge 26, 3) := by decide +kernel
theorem d_Md_lifted_119 : decode b_Md_lifted 119 = .ok (.aload_n 0, 1) := by decide +kernel
theorem d_Md_lifted_120 : decode b_Md_lifted 120 = .ok (.getfield 29, 3) := by decide +kernel
theorem d_Md_lifted_123 : decode b_Md_lifted 123 = .ok (.aload_n 0, 1) := by decide +kernel
theorem d_Md_lifted_124 : decode b_Md_lifted 124 = .ok (.getfield 84, 3) := by decide +kernel
theorem d_Md_lifted_127 : decode b_Md_lifted 127 = .ok (.iload_n 3, 1) := by decide +kernel
theorem d_Md_lifted_128 : decode b_Md_lifted 128 = .ok (.iaload, 1) := by decide +kernel
theorem d_Md_lifted_129 : decode b_Md_lifted 129 = .ok (.iaload, 1) := by decide +kernel
theorem d_Md_lifted_130 : decode b_Md_lifted 130 = .ok (.aload_n 0, 1) := by decide +kernel
theorem d_Md_lifted_131 : decode b_Md_lifted 131 = .ok (.getfield 74, 3) := by decide +kernel
theorem d_Md_lifted_134 : decode b_Md_lifted 134 = .ok (.if_icmp .gt 8, 3) := by decide +kernel
theorem d_Md_lifted_137 : decode b_Md_lifted 137 = .ok (.iload 4, 2) := by decide +kernel
theorem d_Md_lifted_139 : decode b_Md_lifted 139 = .ok (.goto 4, 3) := by decide +kernel
theorem d_Md_lifted_142 : decode b_Md_lifted 142 = .ok (.iconst (-1), 1) := by decide +kernel
theorem d_Md_lifted_143 : decode b_Md_lifted 143 = .ok (.iastore, 1) := by decide +kernel
theorem d_Md_lifted_144 : decode b_Md_lifted 144 = .ok (.aload_n 0, 1) := by decide +kernel
theorem d_Md_lifted_145 : decode b_Md_lifted 145 = .ok (.getfield 93, 3) := by decide +kernel
theorem d_Md_lifted_148 : decode b_Md_lifted 148 = .ok (.iload_n 3, 1) := by decide +kernel
theorem d_Md_lifted_149 : decode b_Md_lifted 149 = .ok (.iaload, 1) := by decide +kernel
theorem d_Md_lifted_150 : decode b_Md_lifted 150 = .ok (.ifCond .lt 10, 3) := by decide +kernel
theorem d_Md_lifted_153 : decode b_Md_lifted 153 = .ok (.aload_n 0, 1) := by decide +kernel
theorem d_Md_lifted_154 : decode b_Md_lifted 154 = .ok (.getfield 93, 3) := by decide +kernel
theorem d_Md_lifted_157 : decode b_Md_lifted 157 = .ok (.iload_n 3, 1) := by decide +kernel
theorem d_Md_lifted_158 : decode b_Md_lifted 158 = .ok (.iaload, 1) := by decide +kernel
theorem d_Md_lifted_159 : decode b_Md_lifted 159 = .ok (.istore_n 2, 1) := by decide +kernel
theorem d_Md_lifted_160 : decode b_Md_lifted 160 = .ok (.iinc 3 1, 3) := by decide +kernel
theorem d_Md_lifted_163 : decode b_Md_lifted 163 = .ok (.goto (-143), 3) := by decide +kernel
theorem d_Md_lifted_166 : decode b_Md_lifted 166 = .ok (.aload_n 0, 1) := by decide +kernel
theorem d_Md_lifted_167 : decode b_Md_lifted 167 = .ok (.getfield 93, 3) := by decide +kernel
theorem d_Md_lifted_170 : decode b_Md_lifted 170 = .ok (.iload_n 1, 1) := by decide +kernel
theorem d_Md_lifted_171 : decode b_Md_lifted 171 = .ok (.iaload, 1) := by decide +kernel
theorem d_Md_lifted_172 : decode b_Md_lifted 172 = .ok (.ireturn, 1) := by decide +kernel
abbrev y_Md_moved : MethodName := ⟨"SmallHarbourModel", "moved", "(II)I"⟩
abbrev b_Md_moved : ByteArray := prog_14_method_30_code
theorem mi_Md_moved : MI y_Md_moved b_Md_moved 3 (some .int) 2 := ⟨w_1156, w_13, by decide +kernel, by decide, by decide⟩
theorem mv_Md_moved : MV y_Md_moved := ⟨w_1154, w_1155⟩
theorem d_Md_moved_0 : decode b_Md_moved 0 = .ok (.iload_n 1, 1) := by decide +kernel
theorem d_Md_moved_1 : decode b_Md_moved 1 = .ok (.iconst 0, 1) := by decide +kernel
theorem d_Md_moved_2 : decode b_Md_moved 2 = .ok (.aload_n 0, 1) := by decide +kernel
theorem d_Md_moved_3 : decode b_Md_moved 3 = .ok (.getfield 241, 3) := by decide +kernel
theorem d_Md_moved_6 : decode b_Md_moved 6 = .ok (.iconst 1, 1) := by decide +kernel
theorem d_Md_moved_7 : decode b_Md_moved 7 = .ok (.isub, 1) := by decide +kernel
theorem d_Md_moved_8 : decode b_Md_moved 8 = .ok (.invokestatic 144, 3) := by decide +kernel
theorem d_Md_moved_11 : decode b_Md_moved 11 = .ok (.ifCond .ne 5, 3) := by decide +kernel
theorem d_Md_moved_14 : decode b_Md_moved 14 = .ok (.iconst (-1), 1) := by decide +kernel
theorem d_Md_moved_15 : decode b_Md_moved 15 = .ok (.ireturn, 1) := by decide +kernel
theorem d_Md_moved_16 : decode b_Md_moved 16 = .ok (.iload_n 2, 1) := by decide +kernel
theorem d_Md_moved_17 : decode b_Md_moved 17 = .ok (.ifCond .ne 12, 3) := by decide +kernel
theorem d_Md_moved_20 : decode b_Md_moved 20 = .ok (.aload_n 0, 1) := by decide +kernel
theorem d_Md_moved_21 : decode b_Md_moved 21 = .ok (.getfield 65, 3) := by decide +kernel
theorem d_Md_moved_24 : decode b_Md_moved 24 = .ok (.iload_n 1, 1) := by decide +kernel
theorem d_Md_moved_25 : decode b_Md_moved 25 = .ok (.iaload, 1) := by decide +kernel
theorem d_Md_moved_26 : decode b_Md_moved 26 = .ok (.goto 32, 3) := by decide +kernel
theorem d_Md_moved_29 : decode b_Md_moved 29 = .ok (.iload_n 2, 1) := by decide +kernel
theorem d_Md_moved_30 : decode b_Md_moved 30 = .ok (.iconst 1, 1) := by decide +kernel
theorem d_Md_moved_31 : decode b_Md_moved 31 = .ok (.if_icmp .ne 12, 3) := by decide +kernel
theorem d_Md_moved_34 : decode b_Md_moved 34 = .ok (.aload_n 0, 1) := by decide +kernel
theorem d_Md_moved_35 : decode b_Md_moved 35 = .ok (.getfield 68, 3) := by decide +kernel
theorem d_Md_moved_38 : decode b_Md_moved 38 = .ok (.iload_n 1, 1) := by decide +kernel
theorem d_Md_moved_39 : decode b_Md_moved 39 = .ok (.iaload, 1) := by decide +kernel
theorem d_Md_moved_40 : decode b_Md_moved 40 = .ok (.goto 18, 3) := by decide +kernel
theorem d_Md_moved_43 : decode b_Md_moved 43 = .ok (.iload_n 2, 1) := by decide +kernel
theorem d_Md_moved_44 : decode b_Md_moved 44 = .ok (.iconst 2, 1) := by decide +kernel
theorem d_Md_moved_45 : decode b_Md_moved 45 = .ok (.if_icmp .ne 12, 3) := by decide +kernel
theorem d_Md_moved_48 : decode b_Md_moved 48 = .ok (.aload_n 0, 1) := by decide +kernel
theorem d_Md_moved_49 : decode b_Md_moved 49 = .ok (.getfield 71, 3) := by decide +kernel
theorem d_Md_moved_52 : decode b_Md_moved 52 = .ok (.iload_n 1, 1) := by decide +kernel
theorem d_Md_moved_53 : decode b_Md_moved 53 = .ok (.iaload, 1) := by decide +kernel
theorem d_Md_moved_54 : decode b_Md_moved 54 = .ok (.goto 4, 3) := by decide +kernel
theorem d_Md_moved_57 : decode b_Md_moved 57 = .ok (.iconst (-1), 1) := by decide +kernel
theorem d_Md_moved_58 : decode b_Md_moved 58 = .ok (.ireturn, 1) := by decide +kernel
abbrev y_Md_moves : MethodName := ⟨"SmallHarbourModel", "moves", "()I"⟩
abbrev b_Md_moves : ByteArray := prog_14_method_45_code
theorem mi_Md_moves : MI y_Md_moves b_Md_moves 1 (some .int) 0 := ⟨w_1215, w_13, by decide +kernel, by decide, by decide⟩
theorem mv_Md_moves : MV y_Md_moves := ⟨w_1213, w_1214⟩
theorem d_Md_moves_0 : decode b_Md_moves 0 = .ok (.aload_n 0, 1) := by decide +kernel
theorem d_Md_moves_1 : decode b_Md_moves 1 = .ok (.invokevirtual 270, 3) := by decide +kernel
theorem d_Md_moves_4 : decode b_Md_moves 4 = .ok (.ireturn, 1) := by decide +kernel
abbrev y_Md_see : MethodName := ⟨"SmallHarbourModel", "see", "(I)I"⟩
abbrev b_Md_see : ByteArray := prog_14_method_50_code
theorem mi_Md_see : MI y_Md_see b_Md_see 2 (some .int) 1 := ⟨w_1255, w_13, by decide +kernel, by decide, by decide⟩
theorem mv_Md_see : MV y_Md_see := ⟨w_1254, w_s4_10⟩
theorem d_Md_see_0 : decode b_Md_see 0 = .ok (.iload_n 1, 1) := by decide +kernel
theorem d_Md_see_1 : decode b_Md_see 1 = .ok (.aload_n 0, 1) := by decide +kernel
theorem d_Md_see_2 : decode b_Md_see 2 = .ok (.getfield 273, 3) := by decide +kernel
theorem d_Md_see_5 : decode b_Md_see 5 = .ok (.if_icmp .ge 12, 3) := by decide +kernel
theorem d_Md_see_8 : decode b_Md_see 8 = .ok (.aload_n 0, 1) := by decide +kernel
theorem d_Md_see_9 : decode b_Md_see 9 = .ok (.getfield 114, 3) := by decide +kernel
theorem d_Md_see_12 : decode b_Md_see 12 = .ok (.iload_n 1, 1) := by decide +kernel
theorem d_Md_see_13 : decode b_Md_see 13 = .ok (.iaload, 1) := by decide +kernel
theorem d_Md_see_14 : decode b_Md_see 14 = .ok (.goto 4, 3) := by decide +kernel
theorem d_Md_see_17 : decode b_Md_see 17 = .ok (.iconst (-1), 1) := by decide +kernel
theorem d_Md_see_18 : decode b_Md_see 18 = .ok (.ireturn, 1) := by decide +kernel
abbrev y_Md_signOf : MethodName := ⟨"SmallHarbourModel", "signOf", "(I)I"⟩
abbrev b_Md_signOf : ByteArray := prog_14_method_53_code
theorem mi_Md_signOf : MI y_Md_signOf b_Md_signOf 1 (some .int) 1 := ⟨w_1271, w_13, by decide +kernel, by decide, by decide⟩
theorem d_Md_signOf_0 : decode b_Md_signOf 0 = .ok (.iload_n 0, 1) := by decide +kernel
theorem d_Md_signOf_1 : decode b_Md_signOf 1 = .ok (.tableswitch 142 37 61 #[133, 142, 142, 115, 118, 127, 121, 142, 124, 142, 130, 142, 142, 142, 142, 142, 142, 142, 142, 142, 142, 142, 142, 136, 139], 115) := by decide +kernel
theorem d_Md_signOf_116 : decode b_Md_signOf 116 = .ok (.bipush 8, 2) := by decide +kernel
theorem d_Md_signOf_118 : decode b_Md_signOf 118 = .ok (.ireturn, 1) := by decide +kernel
theorem d_Md_signOf_119 : decode b_Md_signOf 119 = .ok (.bipush 9, 2) := by decide +kernel
theorem d_Md_signOf_121 : decode b_Md_signOf 121 = .ok (.ireturn, 1) := by decide +kernel
theorem d_Md_signOf_122 : decode b_Md_signOf 122 = .ok (.bipush 10, 2) := by decide +kernel
theorem d_Md_signOf_124 : decode b_Md_signOf 124 = .ok (.ireturn, 1) := by decide +kernel
theorem d_Md_signOf_125 : decode b_Md_signOf 125 = .ok (.bipush 11, 2) := by decide +kernel
theorem d_Md_signOf_127 : decode b_Md_signOf 127 = .ok (.ireturn, 1) := by decide +kernel
theorem d_Md_signOf_128 : decode b_Md_signOf 128 = .ok (.bipush 12, 2) := by decide +kernel
theorem d_Md_signOf_130 : decode b_Md_signOf 130 = .ok (.ireturn, 1) := by decide +kernel
theorem d_Md_signOf_131 : decode b_Md_signOf 131 = .ok (.bipush 13, 2) := by decide +kernel
theorem d_Md_signOf_133 : decode b_Md_signOf 133 = .ok (.ireturn, 1) := by decide +kernel
theorem d_Md_signOf_134 : decode b_Md_signOf 134 = .ok (.bipush 14, 2) := by decide +kernel
theorem d_Md_signOf_136 : decode b_Md_signOf 136 = .ok (.ireturn, 1) := by decide +kernel
theorem d_Md_signOf_137 : decode b_Md_signOf 137 = .ok (.bipush 15, 2) := by decide +kernel
theorem d_Md_signOf_139 : decode b_Md_signOf 139 = .ok (.ireturn, 1) := by decide +kernel
theorem d_Md_signOf_140 : decode b_Md_signOf 140 = .ok (.bipush 16, 2) := by decide +kernel
theorem d_Md_signOf_142 : decode b_Md_signOf 142 = .ok (.ireturn, 1) := by decide +kernel
theorem d_Md_signOf_143 : decode b_Md_signOf 143 = .ok (.bipush 17, 2) := by decide +kernel
theorem d_Md_signOf_145 : decode b_Md_signOf 145 = .ok (.ireturn, 1) := by decide +kernel
abbrev y_Md_wordOf : MethodName := ⟨"SmallHarbourModel", "wordOf", "(I)I"⟩
abbrev b_Md_wordOf : ByteArray := prog_14_method_55_code
theorem mi_Md_wordOf : MI y_Md_wordOf b_Md_wordOf 1 (some .int) 1 := ⟨w_1266, w_13, by decide +kernel, by decide, by decide⟩
theorem d_Md_wordOf_0 : decode b_Md_wordOf 0 = .ok (.iload_n 0, 1) := by decide +kernel
theorem d_Md_wordOf_1 : decode b_Md_wordOf 1 = .ok (.bipush 102, 2) := by decide +kernel
theorem d_Md_wordOf_3 : decode b_Md_wordOf 3 = .ok (.if_icmp .ne 5, 3) := by decide +kernel
theorem d_Md_wordOf_6 : decode b_Md_wordOf 6 = .ok (.iconst 1, 1) := by decide +kernel
theorem d_Md_wordOf_7 : decode b_Md_wordOf 7 = .ok (.ireturn, 1) := by decide +kernel
theorem d_Md_wordOf_8 : decode b_Md_wordOf 8 = .ok (.iload_n 0, 1) := by decide +kernel
theorem d_Md_wordOf_9 : decode b_Md_wordOf 9 = .ok (.bipush 110, 2) := by decide +kernel
theorem d_Md_wordOf_11 : decode b_Md_wordOf 11 = .ok (.if_icmp .ne 5, 3) := by decide +kernel
theorem d_Md_wordOf_14 : decode b_Md_wordOf 14 = .ok (.iconst 2, 1) := by decide +kernel
theorem d_Md_wordOf_15 : decode b_Md_wordOf 15 = .ok (.ireturn, 1) := by decide +kernel
theorem d_Md_wordOf_16 : decode b_Md_wordOf 16 = .ok (.iload_n 0, 1) := by decide +kernel
theorem d_Md_wordOf_17 : decode b_Md_wordOf 17 = .ok (.bipush 100, 2) := by decide +kernel
theorem d_Md_wordOf_19 : decode b_Md_wordOf 19 = .ok (.if_icmp .ne 5, 3) := by decide +kernel
theorem d_Md_wordOf_22 : decode b_Md_wordOf 22 = .ok (.iconst 3, 1) := by decide +kernel
theorem d_Md_wordOf_23 : decode b_Md_wordOf 23 = .ok (.ireturn, 1) := by decide +kernel
theorem d_Md_wordOf_24 : decode b_Md_wordOf 24 = .ok (.iload_n 0, 1) := by decide +kernel
theorem d_Md_wordOf_25 : decode b_Md_wordOf 25 = .ok (.sipush 26982, 3) := by decide +kernel
theorem d_Md_wordOf_28 : decode b_Md_wordOf 28 = .ok (.if_icmp .ne 5, 3) := by decide +kernel
theorem d_Md_wordOf_31 : decode b_Md_wordOf 31 = .ok (.iconst 5, 1) := by decide +kernel
theorem d_Md_wordOf_32 : decode b_Md_wordOf 32 = .ok (.ireturn, 1) := by decide +kernel
theorem d_Md_wordOf_33 : decode b_Md_wordOf 33 = .ok (.iload_n 0, 1) := by decide +kernel
theorem d_Md_wordOf_34 : decode b_Md_wordOf 34 = .ok (.ldc_w 308, 3) := by decide +kernel
theorem d_Md_wordOf_37 : decode b_Md_wordOf 37 = .ok (.if_icmp .ne 6, 3) := by decide +kernel
theorem d_Md_wordOf_40 : decode b_Md_wordOf 40 = .ok (.bipush 6, 2) := by decide +kernel
theorem d_Md_wordOf_42 : decode b_Md_wordOf 42 = .ok (.ireturn, 1) := by decide +kernel
theorem d_Md_wordOf_43 : decode b_Md_wordOf 43 = .ok (.iload_n 0, 1) := by decide +kernel
theorem d_Md_wordOf_44 : decode b_Md_wordOf 44 = .ok (.ldc_w 309, 3) := by decide +kernel
theorem d_Md_wordOf_47 : decode b_Md_wordOf 47 = .ok (.if_icmp .ne 8, 3) := by decide +kernel
theorem d_Md_wordOf_50 : decode b_Md_wordOf 50 = .ok (.bipush 7, 2) := by decide +kernel
theorem d_Md_wordOf_52 : decode b_Md_wordOf 52 = .ok (.goto 5, 3) := by decide +kernel
theorem d_Md_wordOf_55 : decode b_Md_wordOf 55 = .ok (.bipush 17, 2) := by decide +kernel
theorem d_Md_wordOf_57 : decode b_Md_wordOf 57 = .ok (.ireturn, 1) := by decide +kernel
abbrev y_Md_nextToken : MethodName := ⟨"SmallHarbourModel", "nextToken", "()V"⟩
abbrev b_Md_nextToken : ByteArray := prog_14_method_54_code
theorem mi_Md_nextToken : MI y_Md_nextToken b_Md_nextToken 3 none 0 := ⟨w_1251, w_13, by decide +kernel, by decide, by decide⟩
theorem mv_Md_nextToken : MV y_Md_nextToken := ⟨w_1250, w_s4_9⟩
theorem d_Md_nextToken_0 : decode b_Md_nextToken 0 = .ok (.aload_n 0, 1) := by decide +kernel
theorem d_Md_nextToken_1 : decode b_Md_nextToken 1 = .ok (.aload_n 0, 1) := by decide +kernel
theorem d_Md_nextToken_2 : decode b_Md_nextToken 2 = .ok (.getfield 280, 3) := by decide +kernel
theorem d_Md_nextToken_5 : decode b_Md_nextToken 5 = .ok (.invokevirtual 282, 3) := by decide +kernel
theorem d_Md_nextToken_8 : decode b_Md_nextToken 8 = .ok (.bipush 32, 2) := by decide +kernel
theorem d_Md_nextToken_10 : decode b_Md_nextToken 10 = .ok (.if_icmp .ne 16, 3) := by decide +kernel
theorem d_Md_nextToken_13 : decode b_Md_nextToken 13 = .ok (.aload_n 0, 1) := by decide +kernel
theorem d_Md_nextToken_14 : decode b_Md_nextToken 14 = .ok (.dup, 1) := by decide +kernel
theorem d_Md_nextToken_15 : decode b_Md_nextToken 15 = .ok (.getfield 280, 3) := by decide +kernel
theorem d_Md_nextToken_18 : decode b_Md_nextToken 18 = .ok (.iconst 1, 1) := by decide +kernel
theorem d_Md_nextToken_19 : decode b_Md_nextToken 19 = .ok (.iadd, 1) := by decide +kernel
theorem d_Md_nextToken_20 : decode b_Md_nextToken 20 = .ok (.putfield 280, 3) := by decide +kernel
theorem d_Md_nextToken_23 : decode b_Md_nextToken 23 = .ok (.goto (-23), 3) := by decide +kernel
theorem d_Md_nextToken_26 : decode b_Md_nextToken 26 = .ok (.aload_n 0, 1) := by decide +kernel
theorem d_Md_nextToken_27 : decode b_Md_nextToken 27 = .ok (.aload_n 0, 1) := by decide +kernel
theorem d_Md_nextToken_28 : decode b_Md_nextToken 28 = .ok (.getfield 280, 3) := by decide +kernel
theorem d_Md_nextToken_31 : decode b_Md_nextToken 31 = .ok (.putfield 285, 3) := by decide +kernel
theorem d_Md_nextToken_34 : decode b_Md_nextToken 34 = .ok (.aload_n 0, 1) := by decide +kernel
theorem d_Md_nextToken_35 : decode b_Md_nextToken 35 = .ok (.aload_n 0, 1) := by decide +kernel
theorem d_Md_nextToken_36 : decode b_Md_nextToken 36 = .ok (.getfield 280, 3) := by decide +kernel
theorem d_Md_nextToken_39 : decode b_Md_nextToken 39 = .ok (.invokevirtual 282, 3) := by decide +kernel
theorem d_Md_nextToken_42 : decode b_Md_nextToken 42 = .ok (.istore_n 1, 1) := by decide +kernel
theorem d_Md_nextToken_43 : decode b_Md_nextToken 43 = .ok (.iload_n 1, 1) := by decide +kernel
theorem d_Md_nextToken_44 : decode b_Md_nextToken 44 = .ok (.ifCond .ge 11, 3) := by decide +kernel
theorem d_Md_nextToken_47 : decode b_Md_nextToken 47 = .ok (.aload_n 0, 1) := by decide +kernel
theorem d_Md_nextToken_48 : decode b_Md_nextToken 48 = .ok (.iconst 0, 1) := by decide +kernel
theorem d_Md_nextToken_49 : decode b_Md_nextToken 49 = .ok (.putfield 288, 3) := by decide +kernel
theorem d_Md_nextToken_52 : decode b_Md_nextToken 52 = .ok (.goto 178, 3) := by decide +kernel
theorem d_Md_nextToken_55 : decode b_Md_nextToken 55 = .ok (.iload_n 1, 1) := by decide +kernel
theorem d_Md_nextToken_56 : decode b_Md_nextToken 56 = .ok (.invokestatic 291, 3) := by decide +kernel
theorem d_Md_nextToken_59 : decode b_Md_nextToken 59 = .ok (.ifCond .eq 73, 3) := by decide +kernel
theorem d_Md_nextToken_62 : decode b_Md_nextToken 62 = .ok (.aload_n 0, 1) := by decide +kernel
theorem d_Md_nextToken_63 : decode b_Md_nextToken 63 = .ok (.iconst 4, 1) := by decide +kernel
theorem d_Md_nextToken_64 : decode b_Md_nextToken 64 = .ok (.putfield 288, 3) := by decide +kernel
theorem d_Md_nextToken_67 : decode b_Md_nextToken 67 = .ok (.aload_n 0, 1) := by decide +kernel
theorem d_Md_nextToken_68 : decode b_Md_nextToken 68 = .ok (.iconst 0, 1) := by decide +kernel
theorem d_Md_nextToken_69 : decode b_Md_nextToken 69 = .ok (.putfield 294, 3) := by decide +kernel
theorem d_Md_nextToken_72 : decode b_Md_nextToken 72 = .ok (.aload_n 0, 1) := by decide +kernel
theorem d_Md_nextToken_73 : decode b_Md_nextToken 73 = .ok (.aload_n 0, 1) := by decide +kernel
theorem d_Md_nextToken_74 : decode b_Md_nextToken 74 = .ok (.getfield 280, 3) := by decide +kernel
theorem d_Md_nextToken_77 : decode b_Md_nextToken 77 = .ok (.invokevirtual 282, 3) := by decide +kernel
theorem d_Md_nextToken_80 : decode b_Md_nextToken 80 = .ok (.invokestatic 291, 3) := by decide +kernel
theorem d_Md_nextToken_83 : decode b_Md_nextToken 83 = .ok (.ifCond .eq 147, 3) := by decide +kernel
theorem d_Md_nextToken_86 : decode b_Md_nextToken 86 = .ok (.aload_n 0, 1) := by decide +kernel
theorem d_Md_nextToken_87 : decode b_Md_nextToken 87 = .ok (.getfield 294, 3) := by decide +kernel
theorem d_Md_nextToken_90 : decode b_Md_nextToken 90 = .ok (.ldc_w 297, 3) := by decide +kernel
theorem d_Md_nextToken_93 : decode b_Md_nextToken 93 = .ok (.if_icmp .ge 26, 3) := by decide +kernel
theorem d_Md_nextToken_96 : decode b_Md_nextToken 96 = .ok (.aload_n 0, 1) := by decide +kernel
theorem d_Md_nextToken_97 : decode b_Md_nextToken 97 = .ok (.bipush 10, 2) := by decide +kernel
theorem d_Md_nextToken_99 : decode b_Md_nextToken 99 = .ok (.aload_n 0, 1) := by decide +kernel
theorem d_Md_nextToken_100 : decode b_Md_nextToken 100 = .ok (.getfield 294, 3) := by decide +kernel
theorem d_Md_nextToken_103 : decode b_Md_nextToken 103 = .ok (.imul, 1) := by decide +kernel
theorem d_Md_nextToken_104 : decode b_Md_nextToken 104 = .ok (.aload_n 0, 1) := by decide +kernel
theorem d_Md_nextToken_105 : decode b_Md_nextToken 105 = .ok (.aload_n 0, 1) := by decide +kernel
theorem d_Md_nextToken_106 : decode b_Md_nextToken 106 = .ok (.getfield 280, 3) := by decide +kernel
theorem d_Md_nextToken_109 : decode b_Md_nextToken 109 = .ok (.invokevirtual 282, 3) := by decide +kernel
theorem d_Md_nextToken_112 : decode b_Md_nextToken 112 = .ok (.iadd, 1) := by decide +kernel
theorem d_Md_nextToken_113 : decode b_Md_nextToken 113 = .ok (.bipush 48, 2) := by decide +kernel
theorem d_Md_nextToken_115 : decode b_Md_nextToken 115 = .ok (.isub, 1) := by decide +kernel
theorem d_Md_nextToken_116 : decode b_Md_nextToken 116 = .ok (.putfield 294, 3) := by decide +kernel
theorem d_Md_nextToken_119 : decode b_Md_nextToken 119 = .ok (.aload_n 0, 1) := by decide +kernel
theorem d_Md_nextToken_120 : decode b_Md_nextToken 120 = .ok (.dup, 1) := by decide +kernel
theorem d_Md_nextToken_121 : decode b_Md_nextToken 121 = .ok (.getfield 280, 3) := by decide +kernel
theorem d_Md_nextToken_124 : decode b_Md_nextToken 124 = .ok (.iconst 1, 1) := by decide +kernel
theorem d_Md_nextToken_125 : decode b_Md_nextToken 125 = .ok (.iadd, 1) := by decide +kernel
theorem d_Md_nextToken_126 : decode b_Md_nextToken 126 = .ok (.putfield 280, 3) := by decide +kernel
theorem d_Md_nextToken_129 : decode b_Md_nextToken 129 = .ok (.goto (-57), 3) := by decide +kernel
theorem d_Md_nextToken_132 : decode b_Md_nextToken 132 = .ok (.iload_n 1, 1) := by decide +kernel
theorem d_Md_nextToken_133 : decode b_Md_nextToken 133 = .ok (.invokestatic 298, 3) := by decide +kernel
theorem d_Md_nextToken_136 : decode b_Md_nextToken 136 = .ok (.ifCond .eq 76, 3) := by decide +kernel
theorem d_Md_nextToken_139 : decode b_Md_nextToken 139 = .ok (.iconst 0, 1) := by decide +kernel
theorem d_Md_nextToken_140 : decode b_Md_nextToken 140 = .ok (.istore_n 2, 1) := by decide +kernel
theorem d_Md_nextToken_141 : decode b_Md_nextToken 141 = .ok (.aload_n 0, 1) := by decide +kernel
theorem d_Md_nextToken_142 : decode b_Md_nextToken 142 = .ok (.aload_n 0, 1) := by decide +kernel
theorem d_Md_nextToken_143 : decode b_Md_nextToken 143 = .ok (.getfield 280, 3) := by decide +kernel
theorem d_Md_nextToken_146 : decode b_Md_nextToken 146 = .ok (.invokevirtual 282, 3) := by decide +kernel
theorem d_Md_nextToken_149 : decode b_Md_nextToken 149 = .ok (.invokestatic 298, 3) := by decide +kernel
theorem d_Md_nextToken_152 : decode b_Md_nextToken 152 = .ok (.ifCond .eq 49, 3) := by decide +kernel
theorem d_Md_nextToken_155 : decode b_Md_nextToken 155 = .ok (.iload_n 2, 1) := by decide +kernel
theorem d_Md_nextToken_156 : decode b_Md_nextToken 156 = .ok (.ldc_w 301, 3) := by decide +kernel
theorem d_Md_nextToken_159 : decode b_Md_nextToken 159 = .ok (.if_icmp .lt 7, 3) := by decide +kernel
theorem d_Md_nextToken_162 : decode b_Md_nextToken 162 = .ok (.iconst (-1), 1) := by decide +kernel
theorem d_Md_nextToken_163 : decode b_Md_nextToken 163 = .ok (.goto 24, 3) := by decide +kernel
theorem d_Md_nextToken_166 : decode b_Md_nextToken 166 = .ok (.iload_n 2, 1) := by decide +kernel
theorem d_Md_nextToken_167 : decode b_Md_nextToken 167 = .ok (.ifCond .ge 7, 3) := by decide +kernel
theorem d_Md_nextToken_170 : decode b_Md_nextToken 170 = .ok (.iload_n 2, 1) := by decide +kernel
theorem d_Md_nextToken_171 : decode b_Md_nextToken 171 = .ok (.goto 16, 3) := by decide +kernel
theorem d_Md_nextToken_174 : decode b_Md_nextToken 174 = .ok (.iload_n 2, 1) := by decide +kernel
theorem d_Md_nextToken_175 : decode b_Md_nextToken 175 = .ok (.bipush 8, 2) := by decide +kernel
theorem d_Md_nextToken_177 : decode b_Md_nextToken 177 = .ok (.ishl, 1) := by decide +kernel
theorem d_Md_nextToken_178 : decode b_Md_nextToken 178 = .ok (.aload_n 0, 1) := by decide +kernel
theorem d_Md_nextToken_179 : decode b_Md_nextToken 179 = .ok (.aload_n 0, 1) := by decide +kernel
theorem d_Md_nextToken_180 : decode b_Md_nextToken 180 = .ok (.getfield 280, 3) := by decide +kernel
theorem d_Md_nextToken_183 : decode b_Md_nextToken 183 = .ok (.invokevirtual 282, 3) := by decide +kernel
theorem d_Md_nextToken_186 : decode b_Md_nextToken 186 = .ok (.ior, 1) := by decide +kernel
theorem d_Md_nextToken_187 : decode b_Md_nextToken 187 = .ok (.istore_n 2, 1) := by decide +kernel
theorem d_Md_nextToken_188 : decode b_Md_nextToken 188 = .ok (.aload_n 0, 1) := by decide +kernel
theorem d_Md_nextToken_189 : decode b_Md_nextToken 189 = .ok (.dup, 1) := by decide +kernel
theorem d_Md_nextToken_190 : decode b_Md_nextToken 190 = .ok (.getfield 280, 3) := by decide +kernel
theorem d_Md_nextToken_193 : decode b_Md_nextToken 193 = .ok (.iconst 1, 1) := by decide +kernel
theorem d_Md_nextToken_194 : decode b_Md_nextToken 194 = .ok (.iadd, 1) := by decide +kernel
theorem d_Md_nextToken_195 : decode b_Md_nextToken 195 = .ok (.putfield 280, 3) := by decide +kernel
theorem d_Md_nextToken_198 : decode b_Md_nextToken 198 = .ok (.goto (-57), 3) := by decide +kernel
theorem d_Md_nextToken_201 : decode b_Md_nextToken 201 = .ok (.aload_n 0, 1) := by decide +kernel
theorem d_Md_nextToken_202 : decode b_Md_nextToken 202 = .ok (.iload_n 2, 1) := by decide +kernel
theorem d_Md_nextToken_203 : decode b_Md_nextToken 203 = .ok (.invokestatic 302, 3) := by decide +kernel
theorem d_Md_nextToken_206 : decode b_Md_nextToken 206 = .ok (.putfield 288, 3) := by decide +kernel
theorem d_Md_nextToken_209 : decode b_Md_nextToken 209 = .ok (.goto 21, 3) := by decide +kernel
theorem d_Md_nextToken_212 : decode b_Md_nextToken 212 = .ok (.aload_n 0, 1) := by decide +kernel
theorem d_Md_nextToken_213 : decode b_Md_nextToken 213 = .ok (.iload_n 1, 1) := by decide +kernel
theorem d_Md_nextToken_214 : decode b_Md_nextToken 214 = .ok (.invokestatic 305, 3) := by decide +kernel
theorem d_Md_nextToken_217 : decode b_Md_nextToken 217 = .ok (.putfield 288, 3) := by decide +kernel
theorem d_Md_nextToken_220 : decode b_Md_nextToken 220 = .ok (.aload_n 0, 1) := by decide +kernel
theorem d_Md_nextToken_221 : decode b_Md_nextToken 221 = .ok (.dup, 1) := by decide +kernel
theorem d_Md_nextToken_222 : decode b_Md_nextToken 222 = .ok (.getfield 280, 3) := by decide +kernel
theorem d_Md_nextToken_225 : decode b_Md_nextToken 225 = .ok (.iconst 1, 1) := by decide +kernel
theorem d_Md_nextToken_226 : decode b_Md_nextToken 226 = .ok (.iadd, 1) := by decide +kernel
theorem d_Md_nextToken_227 : decode b_Md_nextToken 227 = .ok (.putfield 280, 3) := by decide +kernel
theorem d_Md_nextToken_230 : decode b_Md_nextToken 230 = .ok (.return_, 1) := by decide +kernel
