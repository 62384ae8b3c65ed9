abbrev y_Md_boat : MethodName := ⟨"SmallHarbourModel", "boat", "(IIII)I"⟩
abbrev b_Md_boat : ByteArray := prog_14_method_11_code
theorem mi_Md_boat : MI y_Md_boat b_Md_boat 5 (some .int) 4 := ⟨w_1063, w_13, by decide +kernel, by decide, by decide⟩
theorem mv_Md_boat : MV y_Md_boat := ⟨w_1061, w_1062⟩
theorem d_Md_boat_0 : decode b_Md_boat 0 = .ok (.iload_n 1, 1) := by decide +kernel
theorem d_Md_boat_1 : decode b_Md_boat 1 = .ok (.bipush 10, 2) := by decide +kernel
theorem d_Md_boat_3 : decode b_Md_boat 3 = .ok (.sipush 400, 3) := by decide +kernel
theorem d_Md_boat_6 : decode b_Md_boat 6 = .ok (.invokestatic 144, 3) := by decide +kernel
theorem d_Md_boat_9 : decode b_Md_boat 9 = .ok (.ifCond .eq 48, 3) := by decide +kernel
theorem d_Md_boat_12 : decode b_Md_boat 12 = .ok (.iload_n 2, 1) := by decide +kernel
theorem d_Md_boat_13 : decode b_Md_boat 13 = .ok (.iconst 0, 1) := by decide +kernel
theorem d_Md_boat_14 : decode b_Md_boat 14 = .ok (.bipush 60, 2) := by decide +kernel
theorem d_Md_boat_16 : decode b_Md_boat 16 = .ok (.invokestatic 144, 3) := by decide +kernel
theorem d_Md_boat_19 : decode b_Md_boat 19 = .ok (.ifCond .eq 38, 3) := by decide +kernel
theorem d_Md_boat_22 : decode b_Md_boat 22 = .ok (.iload_n 3, 1) := by decide +kernel
theorem d_Md_boat_23 : decode b_Md_boat 23 = .ok (.iconst 1, 1) := by decide +kernel
theorem d_Md_boat_24 : decode b_Md_boat 24 = .ok (.sipush 500, 3) := by decide +kernel
theorem d_Md_boat_27 : decode b_Md_boat 27 = .ok (.invokestatic 144, 3) := by decide +kernel
theorem d_Md_boat_30 : decode b_Md_boat 30 = .ok (.ifCond .eq 27, 3) := by decide +kernel
theorem d_Md_boat_33 : decode b_Md_boat 33 = .ok (.iload 4, 2) := by decide +kernel
theorem d_Md_boat_35 : decode b_Md_boat 35 = .ok (.iconst (-1), 1) := by decide +kernel
theorem d_Md_boat_36 : decode b_Md_boat 36 = .ok (.aload_n 0, 1) := by decide +kernel
theorem d_Md_boat_37 : decode b_Md_boat 37 = .ok (.getfield 155, 3) := by decide +kernel
theorem d_Md_boat_40 : decode b_Md_boat 40 = .ok (.iconst 1, 1) := by decide +kernel
theorem d_Md_boat_41 : decode b_Md_boat 41 = .ok (.isub, 1) := by decide +kernel
theorem d_Md_boat_42 : decode b_Md_boat 42 = .ok (.invokestatic 144, 3) := by decide +kernel
theorem d_Md_boat_45 : decode b_Md_boat 45 = .ok (.ifCond .eq 12, 3) := by decide +kernel
theorem d_Md_boat_48 : decode b_Md_boat 48 = .ok (.aload_n 0, 1) := by decide +kernel
theorem d_Md_boat_49 : decode b_Md_boat 49 = .ok (.getfield 141, 3) := by decide +kernel
theorem d_Md_boat_52 : decode b_Md_boat 52 = .ok (.bipush 30, 2) := by decide +kernel
theorem d_Md_boat_54 : decode b_Md_boat 54 = .ok (.if_icmp .ne 5, 3) := by decide +kernel
theorem d_Md_boat_57 : decode b_Md_boat 57 = .ok (.iconst (-1), 1) := by decide +kernel
theorem d_Md_boat_58 : decode b_Md_boat 58 = .ok (.ireturn, 1) := by decide +kernel
theorem d_Md_boat_59 : decode b_Md_boat 59 = .ok (.iload 4, 2) := by decide +kernel
theorem d_Md_boat_61 : decode b_Md_boat 61 = .ok (.ifCond .lt 16, 3) := by decide +kernel
theorem d_Md_boat_64 : decode b_Md_boat 64 = .ok (.aload_n 0, 1) := by decide +kernel
theorem d_Md_boat_65 : decode b_Md_boat 65 = .ok (.iload_n 1, 1) := by decide +kernel
theorem d_Md_boat_66 : decode b_Md_boat 66 = .ok (.iload_n 2, 1) := by decide +kernel
theorem d_Md_boat_67 : decode b_Md_boat 67 = .ok (.iload 4, 2) := by decide +kernel
theorem d_Md_boat_69 : decode b_Md_boat 69 = .ok (.invokevirtual 162, 3) := by decide +kernel
theorem d_Md_boat_72 : decode b_Md_boat 72 = .ok (.ifCond .ne 5, 3) := by decide +kernel
theorem d_Md_boat_75 : decode b_Md_boat 75 = .ok (.iconst (-1), 1) := by decide +kernel
theorem d_Md_boat_76 : decode b_Md_boat 76 = .ok (.ireturn, 1) := by decide +kernel
theorem d_Md_boat_77 : decode b_Md_boat 77 = .ok (.aload_n 0, 1) := by decide +kernel
theorem d_Md_boat_78 : decode b_Md_boat 78 = .ok (.getfield 23, 3) := by decide +kernel
theorem d_Md_boat_81 : decode b_Md_boat 81 = .ok (.aload_n 0, 1) := by decide +kernel
theorem d_Md_boat_82 : decode b_Md_boat 82 = .ok (.getfield 141, 3) := by decide +kernel
theorem d_Md_boat_85 : decode b_Md_boat 85 = .ok (.iload_n 1, 1) := by decide +kernel
theorem d_Md_boat_86 : decode b_Md_boat 86 = .ok (.iastore, 1) := by decide +kernel
theorem d_Md_boat_87 : decode b_Md_boat 87 = .ok (.aload_n 0, 1) := by decide +kernel
theorem d_Md_boat_88 : decode b_Md_boat 88 = .ok (.getfield 26, 3) := by decide +kernel
theorem d_Md_boat_91 : decode b_Md_boat 91 = .ok (.aload_n 0, 1) := by decide +kernel
theorem d_Md_boat_92 : decode b_Md_boat 92 = .ok (.getfield 141, 3) := by decide +kernel
theorem d_Md_boat_95 : decode b_Md_boat 95 = .ok (.iload_n 2, 1) := by decide +kernel
theorem d_Md_boat_96 : decode b_Md_boat 96 = .ok (.iastore, 1) := by decide +kernel
theorem d_Md_boat_97 : decode b_Md_boat 97 = .ok (.aload_n 0, 1) := by decide +kernel
theorem d_Md_boat_98 : decode b_Md_boat 98 = .ok (.getfield 29, 3) := by decide +kernel
theorem d_Md_boat_101 : decode b_Md_boat 101 = .ok (.aload_n 0, 1) := by decide +kernel
theorem d_Md_boat_102 : decode b_Md_boat 102 = .ok (.getfield 141, 3) := by decide +kernel
theorem d_Md_boat_105 : decode b_Md_boat 105 = .ok (.iload_n 3, 1) := by decide +kernel
theorem d_Md_boat_106 : decode b_Md_boat 106 = .ok (.iastore, 1) := by decide +kernel
theorem d_Md_boat_107 : decode b_Md_boat 107 = .ok (.aload_n 0, 1) := by decide +kernel
theorem d_Md_boat_108 : decode b_Md_boat 108 = .ok (.getfield 32, 3) := by decide +kernel
theorem d_Md_boat_111 : decode b_Md_boat 111 = .ok (.aload_n 0, 1) := by decide +kernel
theorem d_Md_boat_112 : decode b_Md_boat 112 = .ok (.getfield 141, 3) := by decide +kernel
theorem d_Md_boat_115 : decode b_Md_boat 115 = .ok (.iload 4, 2) := by decide +kernel
theorem d_Md_boat_117 : decode b_Md_boat 117 = .ok (.iastore, 1) := by decide +kernel
theorem d_Md_boat_118 : decode b_Md_boat 118 = .ok (.aload_n 0, 1) := by decide +kernel
theorem d_Md_boat_119 : decode b_Md_boat 119 = .ok (.dup, 1) := by decide +kernel
theorem d_Md_boat_120 : decode b_Md_boat 120 = .ok (.getfield 141, 3) := by decide +kernel
theorem d_Md_boat_123 : decode b_Md_boat 123 = .ok (.iconst 1, 1) := by decide +kernel
theorem d_Md_boat_124 : decode b_Md_boat 124 = .ok (.iadd, 1) := by decide +kernel
theorem d_Md_boat_125 : decode b_Md_boat 125 = .ok (.putfield 141, 3) := by decide +kernel
theorem d_Md_boat_128 : decode b_Md_boat 128 = .ok (.aload_n 0, 1) := by decide +kernel
theorem d_Md_boat_129 : decode b_Md_boat 129 = .ok (.getfield 141, 3) := by decide +kernel
theorem d_Md_boat_132 : decode b_Md_boat 132 = .ok (.iconst 1, 1) := by decide +kernel
theorem d_Md_boat_133 : decode b_Md_boat 133 = .ok (.isub, 1) := by decide +kernel
theorem d_Md_boat_134 : decode b_Md_boat 134 = .ok (.ireturn, 1) := by decide +kernel
abbrev y_Md_boatOf : MethodName := ⟨"SmallHarbourModel", "boatOf", "(II)I"⟩
abbrev b_Md_boatOf : ByteArray := prog_14_method_34_code
theorem mi_Md_boatOf : MI y_Md_boatOf b_Md_boatOf 5 (some .int) 2 := ⟨w_1179, w_13, by decide +kernel, by decide, by decide⟩
theorem mv_Md_boatOf : MV y_Md_boatOf := ⟨w_1177, w_1178⟩
theorem d_Md_boatOf_0 : decode b_Md_boatOf 0 = .ok (.aload_n 0, 1) := by decide +kernel
theorem d_Md_boatOf_1 : decode b_Md_boatOf 1 = .ok (.iload_n 1, 1) := by decide +kernel
theorem d_Md_boatOf_2 : decode b_Md_boatOf 2 = .ok (.invokevirtual 179, 3) := by decide +kernel
theorem d_Md_boatOf_5 : decode b_Md_boatOf 5 = .ok (.ifCond .ne 5, 3) := by decide +kernel
theorem d_Md_boatOf_8 : decode b_Md_boatOf 8 = .ok (.iconst (-1), 1) := by decide +kernel
theorem d_Md_boatOf_9 : decode b_Md_boatOf 9 = .ok (.ireturn, 1) := by decide +kernel
theorem d_Md_boatOf_10 : decode b_Md_boatOf 10 = .ok (.iload_n 2, 1) := by decide +kernel
theorem d_Md_boatOf_11 : decode b_Md_boatOf 11 = .ok (.bipush 100, 2) := by decide +kernel
theorem d_Md_boatOf_13 : decode b_Md_boatOf 13 = .ok (.sipush 499, 3) := by decide +kernel
theorem d_Md_boatOf_16 : decode b_Md_boatOf 16 = .ok (.invokestatic 144, 3) := by decide +kernel
theorem d_Md_boatOf_19 : decode b_Md_boatOf 19 = .ok (.ifCond .eq 86, 3) := by decide +kernel
theorem d_Md_boatOf_22 : decode b_Md_boatOf 22 = .ok (.iload_n 2, 1) := by decide +kernel
theorem d_Md_boatOf_23 : decode b_Md_boatOf 23 = .ok (.bipush 100, 2) := by decide +kernel
theorem d_Md_boatOf_25 : decode b_Md_boatOf 25 = .ok (.isub, 1) := by decide +kernel
theorem d_Md_boatOf_26 : decode b_Md_boatOf 26 = .ok (.istore_n 3, 1) := by decide +kernel
theorem d_Md_boatOf_27 : decode b_Md_boatOf 27 = .ok (.aload_n 0, 1) := by decide +kernel
theorem d_Md_boatOf_28 : decode b_Md_boatOf 28 = .ok (.getfield 32, 3) := by decide +kernel
theorem d_Md_boatOf_31 : decode b_Md_boatOf 31 = .ok (.iload_n 1, 1) := by decide +kernel
theorem d_Md_boatOf_32 : decode b_Md_boatOf 32 = .ok (.iaload, 1) := by decide +kernel
theorem d_Md_boatOf_33 : decode b_Md_boatOf 33 = .ok (.ifCond .lt 23, 3) := by decide +kernel
theorem d_Md_boatOf_36 : decode b_Md_boatOf 36 = .ok (.aload_n 0, 1) := by decide +kernel
theorem d_Md_boatOf_37 : decode b_Md_boatOf 37 = .ok (.iload_n 1, 1) := by decide +kernel
theorem d_Md_boatOf_38 : decode b_Md_boatOf 38 = .ok (.iload_n 3, 1) := by decide +kernel
theorem d_Md_boatOf_39 : decode b_Md_boatOf 39 = .ok (.invokevirtual 168, 3) := by decide +kernel
theorem d_Md_boatOf_42 : decode b_Md_boatOf 42 = .ok (.ifCond .eq 7, 3) := by decide +kernel
theorem d_Md_boatOf_45 : decode b_Md_boatOf 45 = .ok (.iconst (-1), 1) := by decide +kernel
theorem d_Md_boatOf_46 : decode b_Md_boatOf 46 = .ok (.goto 9, 3) := by decide +kernel
theorem d_Md_boatOf_49 : decode b_Md_boatOf 49 = .ok (.aload_n 0, 1) := by decide +kernel
theorem d_Md_boatOf_50 : decode b_Md_boatOf 50 = .ok (.getfield 32, 3) := by decide +kernel
theorem d_Md_boatOf_53 : decode b_Md_boatOf 53 = .ok (.iload_n 1, 1) := by decide +kernel
theorem d_Md_boatOf_54 : decode b_Md_boatOf 54 = .ok (.iaload, 1) := by decide +kernel
theorem d_Md_boatOf_55 : decode b_Md_boatOf 55 = .ok (.ireturn, 1) := by decide +kernel
theorem d_Md_boatOf_56 : decode b_Md_boatOf 56 = .ok (.iconst 0, 1) := by decide +kernel
theorem d_Md_boatOf_57 : decode b_Md_boatOf 57 = .ok (.istore 4, 2) := by decide +kernel
theorem d_Md_boatOf_59 : decode b_Md_boatOf 59 = .ok (.iload 4, 2) := by decide +kernel
theorem d_Md_boatOf_61 : decode b_Md_boatOf 61 = .ok (.aload_n 0, 1) := by decide +kernel
theorem d_Md_boatOf_62 : decode b_Md_boatOf 62 = .ok (.getfield 148, 3) := by decide +kernel
theorem d_Md_boatOf_65 : decode b_Md_boatOf 65 = .ok (.if_icmp .ge 38, 3) := by decide +kernel
theorem d_Md_boatOf_68 : decode b_Md_boatOf 68 = .ok (.aload_n 0, 1) := by decide +kernel
theorem d_Md_boatOf_69 : decode b_Md_boatOf 69 = .ok (.getfield 44, 3) := by decide +kernel
theorem d_Md_boatOf_72 : decode b_Md_boatOf 72 = .ok (.iload 4, 2) := by decide +kernel
theorem d_Md_boatOf_74 : decode b_Md_boatOf 74 = .ok (.iaload, 1) := by decide +kernel
theorem d_Md_boatOf_75 : decode b_Md_boatOf 75 = .ok (.iload_n 1, 1) := by decide +kernel
theorem d_Md_boatOf_76 : decode b_Md_boatOf 76 = .ok (.if_icmp .ne 21, 3) := by decide +kernel
theorem d_Md_boatOf_79 : decode b_Md_boatOf 79 = .ok (.aload_n 0, 1) := by decide +kernel
theorem d_Md_boatOf_80 : decode b_Md_boatOf 80 = .ok (.iload 4, 2) := by decide +kernel
theorem d_Md_boatOf_82 : decode b_Md_boatOf 82 = .ok (.iload_n 3, 1) := by decide +kernel
theorem d_Md_boatOf_83 : decode b_Md_boatOf 83 = .ok (.invokevirtual 176, 3) := by decide +kernel
theorem d_Md_boatOf_86 : decode b_Md_boatOf 86 = .ok (.ifCond .eq 11, 3) := by decide +kernel
theorem d_Md_boatOf_89 : decode b_Md_boatOf 89 = .ok (.aload_n 0, 1) := by decide +kernel
theorem d_Md_boatOf_90 : decode b_Md_boatOf 90 = .ok (.getfield 47, 3) := by decide +kernel
theorem d_Md_boatOf_93 : decode b_Md_boatOf 93 = .ok (.iload 4, 2) := by decide +kernel
theorem d_Md_boatOf_95 : decode b_Md_boatOf 95 = .ok (.iaload, 1) := by decide +kernel
theorem d_Md_boatOf_96 : decode b_Md_boatOf 96 = .ok (.ireturn, 1) := by decide +kernel
theorem d_Md_boatOf_97 : decode b_Md_boatOf 97 = .ok (.iinc 4 1, 3) := by decide +kernel
theorem d_Md_boatOf_100 : decode b_Md_boatOf 100 = .ok (.goto (-41), 3) := by decide +kernel
theorem d_Md_boatOf_103 : decode b_Md_boatOf 103 = .ok (.iconst (-1), 1) := by decide +kernel
theorem d_Md_boatOf_104 : decode b_Md_boatOf 104 = .ok (.ireturn, 1) := by decide +kernel
theorem d_Md_boatOf_105 : decode b_Md_boatOf 105 = .ok (.iload_n 2, 1) := by decide +kernel
theorem d_Md_boatOf_106 : decode b_Md_boatOf 106 = .ok (.ifCond .ne 12, 3) := by decide +kernel
theorem d_Md_boatOf_109 : decode b_Md_boatOf 109 = .ok (.aload_n 0, 1) := by decide +kernel
theorem d_Md_boatOf_110 : decode b_Md_boatOf 110 = .ok (.getfield 23, 3) := by decide +kernel
theorem d_Md_boatOf_113 : decode b_Md_boatOf 113 = .ok (.iload_n 1, 1) := by decide +kernel
theorem d_Md_boatOf_114 : decode b_Md_boatOf 114 = .ok (.iaload, 1) := by decide +kernel
theorem d_Md_boatOf_115 : decode b_Md_boatOf 115 = .ok (.goto 46, 3) := by decide +kernel
theorem d_Md_boatOf_118 : decode b_Md_boatOf 118 = .ok (.iload_n 2, 1) := by decide +kernel
theorem d_Md_boatOf_119 : decode b_Md_boatOf 119 = .ok (.iconst 1, 1) := by decide +kernel
theorem d_Md_boatOf_120 : decode b_Md_boatOf 120 = .ok (.if_icmp .ne 12, 3) := by decide +kernel
theorem d_Md_boatOf_123 : decode b_Md_boatOf 123 = .ok (.aload_n 0, 1) := by decide +kernel
theorem d_Md_boatOf_124 : decode b_Md_boatOf 124 = .ok (.getfield 26, 3) := by decide +kernel
theorem d_Md_boatOf_127 : decode b_Md_boatOf 127 = .ok (.iload_n 1, 1) := by decide +kernel
theorem d_Md_boatOf_128 : decode b_Md_boatOf 128 = .ok (.iaload, 1) := by decide +kernel
theorem d_Md_boatOf_129 : decode b_Md_boatOf 129 = .ok (.goto 32, 3) := by decide +kernel
theorem d_Md_boatOf_132 : decode b_Md_boatOf 132 = .ok (.iload_n 2, 1) := by decide +kernel
theorem d_Md_boatOf_133 : decode b_Md_boatOf 133 = .ok (.iconst 2, 1) := by decide +kernel
theorem d_Md_boatOf_134 : decode b_Md_boatOf 134 = .ok (.if_icmp .ne 12, 3) := by decide +kernel
theorem d_Md_boatOf_137 : decode b_Md_boatOf 137 = .ok (.aload_n 0, 1) := by decide +kernel
theorem d_Md_boatOf_138 : decode b_Md_boatOf 138 = .ok (.getfield 29, 3) := by decide +kernel
theorem d_Md_boatOf_141 : decode b_Md_boatOf 141 = .ok (.iload_n 1, 1) := by decide +kernel
theorem d_Md_boatOf_142 : decode b_Md_boatOf 142 = .ok (.iaload, 1) := by decide +kernel
theorem d_Md_boatOf_143 : decode b_Md_boatOf 143 = .ok (.goto 18, 3) := by decide +kernel
theorem d_Md_boatOf_146 : decode b_Md_boatOf 146 = .ok (.iload_n 2, 1) := by decide +kernel
theorem d_Md_boatOf_147 : decode b_Md_boatOf 147 = .ok (.iconst 3, 1) := by decide +kernel
theorem d_Md_boatOf_148 : decode b_Md_boatOf 148 = .ok (.if_icmp .ne 12, 3) := by decide +kernel
theorem d_Md_boatOf_151 : decode b_Md_boatOf 151 = .ok (.aload_n 0, 1) := by decide +kernel
theorem d_Md_boatOf_152 : decode b_Md_boatOf 152 = .ok (.getfield 32, 3) := by decide +kernel
theorem d_Md_boatOf_155 : decode b_Md_boatOf 155 = .ok (.iload_n 1, 1) := by decide +kernel
theorem d_Md_boatOf_156 : decode b_Md_boatOf 156 = .ok (.iaload, 1) := by decide +kernel
theorem d_Md_boatOf_157 : decode b_Md_boatOf 157 = .ok (.goto 4, 3) := by decide +kernel
theorem d_Md_boatOf_160 : decode b_Md_boatOf 160 = .ok (.iconst (-1), 1) := by decide +kernel
theorem d_Md_boatOf_161 : decode b_Md_boatOf 161 = .ok (.ireturn, 1) := by decide +kernel
abbrev y_Md_broken : MethodName := ⟨"SmallHarbourModel", "broken", "(IZ)Z"⟩
abbrev b_Md_broken : ByteArray := prog_14_method_37_code
theorem mi_Md_broken : MI y_Md_broken b_Md_broken 3 (some .boolean) 2 := ⟨w_1191, w_13, by decide +kernel, by decide, by decide⟩
theorem mv_Md_broken : MV y_Md_broken := ⟨w_1189, w_1190⟩
theorem d_Md_broken_0 : decode b_Md_broken 0 = .ok (.iload_n 1, 1) := by decide +kernel
theorem d_Md_broken_1 : decode b_Md_broken 1 = .ok (.iconst 0, 1) := by decide +kernel
theorem d_Md_broken_2 : decode b_Md_broken 2 = .ok (.sipush 399, 3) := by decide +kernel
theorem d_Md_broken_5 : decode b_Md_broken 5 = .ok (.invokestatic 144, 3) := by decide +kernel
theorem d_Md_broken_8 : decode b_Md_broken 8 = .ok (.ifCond .ne 5, 3) := by decide +kernel
theorem d_Md_broken_11 : decode b_Md_broken 11 = .ok (.iconst 0, 1) := by decide +kernel
theorem d_Md_broken_12 : decode b_Md_broken 12 = .ok (.ireturn, 1) := by decide +kernel
theorem d_Md_broken_13 : decode b_Md_broken 13 = .ok (.aload_n 0, 1) := by decide +kernel
theorem d_Md_broken_14 : decode b_Md_broken 14 = .ok (.getfield 80, 3) := by decide +kernel
theorem d_Md_broken_17 : decode b_Md_broken 17 = .ok (.iload_n 1, 1) := by decide +kernel
theorem d_Md_broken_18 : decode b_Md_broken 18 = .ok (.iload_n 2, 1) := by decide +kernel
theorem d_Md_broken_19 : decode b_Md_broken 19 = .ok (.bastore, 1) := by decide +kernel
theorem d_Md_broken_20 : decode b_Md_broken 20 = .ok (.iconst 1, 1) := by decide +kernel
theorem d_Md_broken_21 : decode b_Md_broken 21 = .ok (.ireturn, 1) := by decide +kernel
abbrev y_Md_end : MethodName := ⟨"SmallHarbourModel", "end", "(I)I"⟩
abbrev b_Md_end : ByteArray := prog_14_method_49_code
theorem mi_Md_end : MI y_Md_end b_Md_end 2 (some .int) 1 := ⟨w_1239, w_13, by decide +kernel, by decide, by decide⟩
theorem mv_Md_end : MV y_Md_end := ⟨w_1237, w_1238⟩
theorem d_Md_end_0 : decode b_Md_end 0 = .ok (.iload_n 1, 1) := by decide +kernel
theorem d_Md_end_1 : decode b_Md_end 1 = .ok (.iconst 0, 1) := by decide +kernel
theorem d_Md_end_2 : decode b_Md_end 2 = .ok (.aload_n 0, 1) := by decide +kernel
theorem d_Md_end_3 : decode b_Md_end 3 = .ok (.getfield 273, 3) := by decide +kernel
theorem d_Md_end_6 : decode b_Md_end 6 = .ok (.invokestatic 144, 3) := by decide +kernel
theorem d_Md_end_9 : decode b_Md_end 9 = .ok (.ifCond .ne 5, 3) := by decide +kernel
theorem d_Md_end_12 : decode b_Md_end 12 = .ok (.iconst (-1), 1) := by decide +kernel
theorem d_Md_end_13 : decode b_Md_end 13 = .ok (.ireturn, 1) := by decide +kernel
theorem d_Md_end_14 : decode b_Md_end 14 = .ok (.aload_n 0, 1) := by decide +kernel
theorem d_Md_end_15 : decode b_Md_end 15 = .ok (.iload_n 1, 1) := by decide +kernel
theorem d_Md_end_16 : decode b_Md_end 16 = .ok (.putfield 273, 3) := by decide +kernel
theorem d_Md_end_19 : decode b_Md_end 19 = .ok (.iload_n 1, 1) := by decide +kernel
theorem d_Md_end_20 : decode b_Md_end 20 = .ok (.ireturn, 1) := by decide +kernel
abbrev y_Md_endSpan : MethodName := ⟨"SmallHarbourModel", "endSpan", "(II)V"⟩
abbrev b_Md_endSpan : ByteArray := prog_14_method_28_code
theorem mi_Md_endSpan : MI y_Md_endSpan b_Md_endSpan 4 none 2 := ⟨w_1148, w_13, by decide +kernel, by decide, by decide⟩
theorem mv_Md_endSpan : MV y_Md_endSpan := ⟨w_1147, w_s4_0⟩
theorem d_Md_endSpan_0 : decode b_Md_endSpan 0 = .ok (.aload_n 0, 1) := by decide +kernel
theorem d_Md_endSpan_1 : decode b_Md_endSpan 1 = .ok (.getfield 41, 3) := by decide +kernel
theorem d_Md_endSpan_4 : decode b_Md_endSpan 4 = .ok (.iload_n 1, 1) := by decide +kernel
theorem d_Md_endSpan_5 : decode b_Md_endSpan 5 = .ok (.iload_n 2, 1) := by decide +kernel
theorem d_Md_endSpan_6 : decode b_Md_endSpan 6 = .ok (.iastore, 1) := by decide +kernel
theorem d_Md_endSpan_7 : decode b_Md_endSpan 7 = .ok (.aload_n 0, 1) := by decide +kernel
theorem d_Md_endSpan_8 : decode b_Md_endSpan 8 = .ok (.getfield 38, 3) := by decide +kernel
theorem d_Md_endSpan_11 : decode b_Md_endSpan 11 = .ok (.iload_n 1, 1) := by decide +kernel
theorem d_Md_endSpan_12 : decode b_Md_endSpan 12 = .ok (.iaload, 1) := by decide +kernel
theorem d_Md_endSpan_13 : decode b_Md_endSpan 13 = .ok (.iload_n 2, 1) := by decide +kernel
theorem d_Md_endSpan_14 : decode b_Md_endSpan 14 = .ok (.if_icmp .ge 4, 3) := by decide +kernel
theorem d_Md_endSpan_17 : decode b_Md_endSpan 17 = .ok (.return_, 1) := by decide +kernel
theorem d_Md_endSpan_18 : decode b_Md_endSpan 18 = .ok (.iload_n 1, 1) := by decide +kernel
theorem d_Md_endSpan_19 : decode b_Md_endSpan 19 = .ok (.istore_n 3, 1) := by decide +kernel
theorem d_Md_endSpan_20 : decode b_Md_endSpan 20 = .ok (.iload_n 3, 1) := by decide +kernel
theorem d_Md_endSpan_21 : decode b_Md_endSpan 21 = .ok (.aload_n 0, 1) := by decide +kernel
theorem d_Md_endSpan_22 : decode b_Md_endSpan 22 = .ok (.getfield 165, 3) := by decide +kernel
theorem d_Md_endSpan_25 : decode b_Md_endSpan 25 = .ok (.iconst 1, 1) := by decide +kernel
theorem d_Md_endSpan_26 : decode b_Md_endSpan 26 = .ok (.isub, 1) := by decide +kernel
theorem d_Md_endSpan_27 : decode b_Md_endSpan 27 = .ok (.if_icmp .ge 51, 3) := by decide +kernel
theorem d_Md_endSpan_30 : decode b_Md_endSpan 30 = .ok (.aload_n 0, 1) := by decide +kernel
theorem d_Md_endSpan_31 : decode b_Md_endSpan 31 = .ok (.getfield 35, 3) := by decide +kernel
theorem d_Md_endSpan_34 : decode b_Md_endSpan 34 = .ok (.iload_n 3, 1) := by decide +kernel
theorem d_Md_endSpan_35 : decode b_Md_endSpan 35 = .ok (.aload_n 0, 1) := by decide +kernel
theorem d_Md_endSpan_36 : decode b_Md_endSpan 36 = .ok (.getfield 35, 3) := by decide +kernel
theorem d_Md_endSpan_39 : decode b_Md_endSpan 39 = .ok (.iload_n 3, 1) := by decide +kernel
theorem d_Md_endSpan_40 : decode b_Md_endSpan 40 = .ok (.iconst 1, 1) := by decide +kernel
theorem d_Md_endSpan_41 : decode b_Md_endSpan 41 = .ok (.iadd, 1) := by decide +kernel
theorem d_Md_endSpan_42 : decode b_Md_endSpan 42 = .ok (.iaload, 1) := by decide +kernel
theorem d_Md_endSpan_43 : decode b_Md_endSpan 43 = .ok (.iastore, 1) := by decide +kernel
theorem d_Md_endSpan_44 : decode b_Md_endSpan 44 = .ok (.aload_n 0, 1) := by decide +kernel
theorem d_Md_endSpan_45 : decode b_Md_endSpan 45 = .ok (.getfield 38, 3) := by decide +kernel
theorem d_Md_endSpan_48 : decode b_Md_endSpan 48 = .ok (.iload_n 3, 1) := by decide +kernel
theorem d_Md_endSpan_49 : decode b_Md_endSpan 49 = .ok (.aload_n 0, 1) := by decide +kernel
theorem d_Md_endSpan_50 : decode b_Md_endSpan 50 = .ok (.getfield 38, 3) := by decide +kernel
theorem d_Md_endSpan_53 : decode b_Md_endSpan 53 = .ok (.iload_n 3, 1) := by decide +kernel
theorem d_Md_endSpan_54 : decode b_Md_endSpan 54 = .ok (.iconst 1, 1) := by decide +kernel
theorem d_Md_endSpan_55 : decode b_Md_endSpan 55 = .ok (.iadd, 1) := by decide +kernel
theorem d_Md_endSpan_56 : decode b_Md_endSpan 56 = .ok (.iaload, 1) := by decide +kernel
theorem d_Md_endSpan_57 : decode b_Md_endSpan 57 = .ok (.iastore, 1) := by decide +kernel
theorem d_Md_endSpan_58 : decode b_Md_endSpan 58 = .ok (.aload_n 0, 1) := by decide +kernel
theorem d_Md_endSpan_59 : decode b_Md_endSpan 59 = .ok (.getfield 41, 3) := by decide +kernel
theorem d_Md_endSpan_62 : decode b_Md_endSpan 62 = .ok (.iload_n 3, 1) := by decide +kernel
theorem d_Md_endSpan_63 : decode b_Md_endSpan 63 = .ok (.aload_n 0, 1) := by decide +kernel
theorem d_Md_endSpan_64 : decode b_Md_endSpan 64 = .ok (.getfield 41, 3) := by decide +kernel
theorem d_Md_endSpan_67 : decode b_Md_endSpan 67 = .ok (.iload_n 3, 1) := by decide +kernel
theorem d_Md_endSpan_68 : decode b_Md_endSpan 68 = .ok (.iconst 1, 1) := by decide +kernel
theorem d_Md_endSpan_69 : decode b_Md_endSpan 69 = .ok (.iadd, 1) := by decide +kernel
theorem d_Md_endSpan_70 : decode b_Md_endSpan 70 = .ok (.iaload, 1) := by decide +kernel
theorem d_Md_endSpan_71 : decode b_Md_endSpan 71 = .ok (.iastore, 1) := by decide +kernel
theorem d_Md_endSpan_72 : decode b_Md_endSpan 72 = .ok (.iinc 3 1, 3) := by decide +kernel
theorem d_Md_endSpan_75 : decode b_Md_endSpan 75 = .ok (.goto (-55), 3) := by decide +kernel
theorem d_Md_endSpan_78 : decode b_Md_endSpan 78 = .ok (.aload_n 0, 1) := by decide +kernel
theorem d_Md_endSpan_79 : decode b_Md_endSpan 79 = .ok (.dup, 1) := by decide +kernel
theorem d_Md_endSpan_80 : decode b_Md_endSpan 80 = .ok (.getfield 165, 3) := by decide +kernel
theorem d_Md_endSpan_83 : decode b_Md_endSpan 83 = .ok (.iconst 1, 1) := by decide +kernel
theorem d_Md_endSpan_84 : decode b_Md_endSpan 84 = .ok (.isub, 1) := by decide +kernel
theorem d_Md_endSpan_85 : decode b_Md_endSpan 85 = .ok (.putfield 165, 3) := by decide +kernel
theorem d_Md_endSpan_88 : decode b_Md_endSpan 88 = .ok (.return_, 1) := by decide +kernel
abbrev y_Md_fault : MethodName := ⟨"SmallHarbourModel", "fault", "(I)I"⟩
abbrev b_Md_fault : ByteArray := prog_14_method_68_code
theorem mi_Md_fault : MI y_Md_fault b_Md_fault 2 (some .int) 1 := ⟨w_1315, w_13, by decide +kernel, by decide, by decide⟩
theorem mv_Md_fault : MV y_Md_fault := ⟨w_1313, w_1314⟩
theorem d_Md_fault_0 : decode b_Md_fault 0 = .ok (.iload_n 1, 1) := by decide +kernel
theorem d_Md_fault_1 : decode b_Md_fault 1 = .ok (.ifCond .ne 10, 3) := by decide +kernel
theorem d_Md_fault_4 : decode b_Md_fault 4 = .ok (.aload_n 0, 1) := by decide +kernel
theorem d_Md_fault_5 : decode b_Md_fault 5 = .ok (.getfield 129, 3) := by decide +kernel
theorem d_Md_fault_8 : decode b_Md_fault 8 = .ok (.goto 16, 3) := by decide +kernel
theorem d_Md_fault_11 : decode b_Md_fault 11 = .ok (.iload_n 1, 1) := by decide +kernel
theorem d_Md_fault_12 : decode b_Md_fault 12 = .ok (.iconst 1, 1) := by decide +kernel
theorem d_Md_fault_13 : decode b_Md_fault 13 = .ok (.if_icmp .ne 10, 3) := by decide +kernel
theorem d_Md_fault_16 : decode b_Md_fault 16 = .ok (.aload_n 0, 1) := by decide +kernel
theorem d_Md_fault_17 : decode b_Md_fault 17 = .ok (.getfield 132, 3) := by decide +kernel
theorem d_Md_fault_20 : decode b_Md_fault 20 = .ok (.goto 4, 3) := by decide +kernel
theorem d_Md_fault_23 : decode b_Md_fault 23 = .ok (.iconst (-1), 1) := by decide +kernel
theorem d_Md_fault_24 : decode b_Md_fault 24 = .ok (.ireturn, 1) := by decide +kernel
abbrev y_Md_four : MethodName := ⟨"SmallHarbourModel", "four", "(I)V"⟩
abbrev b_Md_four : ByteArray := prog_14_method_47_code
theorem mi_Md_four : MI y_Md_four b_Md_four 3 none 1 := ⟨w_1235, w_13, by decide +kernel, by decide, by decide⟩
theorem mv_Md_four : MV y_Md_four := ⟨w_1234, w_s4_7⟩
theorem d_Md_four_0 : decode b_Md_four 0 = .ok (.bipush 24, 2) := by decide +kernel
theorem d_Md_four_2 : decode b_Md_four 2 = .ok (.istore_n 2, 1) := by decide +kernel
theorem d_Md_four_3 : decode b_Md_four 3 = .ok (.iload_n 2, 1) := by decide +kernel
theorem d_Md_four_4 : decode b_Md_four 4 = .ok (.ifCond .lt 35, 3) := by decide +kernel
theorem d_Md_four_7 : decode b_Md_four 7 = .ok (.aload_n 0, 1) := by decide +kernel
theorem d_Md_four_8 : decode b_Md_four 8 = .ok (.getfield 114, 3) := by decide +kernel
theorem d_Md_four_11 : decode b_Md_four 11 = .ok (.aload_n 0, 1) := by decide +kernel
theorem d_Md_four_12 : decode b_Md_four 12 = .ok (.getfield 273, 3) := by decide +kernel
theorem d_Md_four_15 : decode b_Md_four 15 = .ok (.iload_n 1, 1) := by decide +kernel
theorem d_Md_four_16 : decode b_Md_four 16 = .ok (.iload_n 2, 1) := by decide +kernel
theorem d_Md_four_17 : decode b_Md_four 17 = .ok (.ishr, 1) := by decide +kernel
theorem d_Md_four_18 : decode b_Md_four 18 = .ok (.sipush 255, 3) := by decide +kernel
theorem d_Md_four_21 : decode b_Md_four 21 = .ok (.iand, 1) := by decide +kernel
theorem d_Md_four_22 : decode b_Md_four 22 = .ok (.iastore, 1) := by decide +kernel
theorem d_Md_four_23 : decode b_Md_four 23 = .ok (.aload_n 0, 1) := by decide +kernel
theorem d_Md_four_24 : decode b_Md_four 24 = .ok (.dup, 1) := by decide +kernel
theorem d_Md_four_25 : decode b_Md_four 25 = .ok (.getfield 273, 3) := by decide +kernel
theorem d_Md_four_28 : decode b_Md_four 28 = .ok (.iconst 1, 1) := by decide +kernel
theorem d_Md_four_29 : decode b_Md_four 29 = .ok (.iadd, 1) := by decide +kernel
theorem d_Md_four_30 : decode b_Md_four 30 = .ok (.putfield 273, 3) := by decide +kernel
theorem d_Md_four_33 : decode b_Md_four 33 = .ok (.iinc 2 (-8), 3) := by decide +kernel
theorem d_Md_four_36 : decode b_Md_four 36 = .ok (.goto (-33), 3) := by decide +kernel
theorem d_Md_four_39 : decode b_Md_four 39 = .ok (.return_, 1) := by decide +kernel
abbrev y_Md_feed : MethodName := ⟨"SmallHarbourModel", "feed", "(IIIII)I"⟩
abbrev b_Md_feed : ByteArray := prog_14_method_48_code
theorem mi_Md_feed : MI y_Md_feed b_Md_feed 6 (some .int) 5 := ⟨w_1231, w_13, by decide +kernel, by decide, by decide⟩
theorem mv_Md_feed : MV y_Md_feed := ⟨w_1229, w_1230⟩
theorem d_Md_feed_0 : decode b_Md_feed 0 = .ok (.aload_n 0, 1) := by decide +kernel
theorem d_Md_feed_1 : decode b_Md_feed 1 = .ok (.getfield 273, 3) := by decide +kernel
theorem d_Md_feed_4 : decode b_Md_feed 4 = .ok (.bipush 20, 2) := by decide +kernel
theorem d_Md_feed_6 : decode b_Md_feed 6 = .ok (.iadd, 1) := by decide +kernel
theorem d_Md_feed_7 : decode b_Md_feed 7 = .ok (.sipush 200, 3) := by decide +kernel
theorem d_Md_feed_10 : decode b_Md_feed 10 = .ok (.if_icmp .le 5, 3) := by decide +kernel
theorem d_Md_feed_13 : decode b_Md_feed 13 = .ok (.iconst (-1), 1) := by decide +kernel
theorem d_Md_feed_14 : decode b_Md_feed 14 = .ok (.ireturn, 1) := by decide +kernel
theorem d_Md_feed_15 : decode b_Md_feed 15 = .ok (.aload_n 0, 1) := by decide +kernel
theorem d_Md_feed_16 : decode b_Md_feed 16 = .ok (.iload_n 1, 1) := by decide +kernel
theorem d_Md_feed_17 : decode b_Md_feed 17 = .ok (.invokevirtual 276, 3) := by decide +kernel
theorem d_Md_feed_20 : decode b_Md_feed 20 = .ok (.aload_n 0, 1) := by decide +kernel
theorem d_Md_feed_21 : decode b_Md_feed 21 = .ok (.iload_n 2, 1) := by decide +kernel
theorem d_Md_feed_22 : decode b_Md_feed 22 = .ok (.invokevirtual 276, 3) := by decide +kernel
theorem d_Md_feed_25 : decode b_Md_feed 25 = .ok (.aload_n 0, 1) := by decide +kernel
theorem d_Md_feed_26 : decode b_Md_feed 26 = .ok (.iload_n 3, 1) := by decide +kernel
theorem d_Md_feed_27 : decode b_Md_feed 27 = .ok (.invokevirtual 276, 3) := by decide +kernel
theorem d_Md_feed_30 : decode b_Md_feed 30 = .ok (.aload_n 0, 1) := by decide +kernel
theorem d_Md_feed_31 : decode b_Md_feed 31 = .ok (.iload 4, 2) := by decide +kernel
theorem d_Md_feed_33 : decode b_Md_feed 33 = .ok (.invokevirtual 276, 3) := by decide +kernel
theorem d_Md_feed_36 : decode b_Md_feed 36 = .ok (.aload_n 0, 1) := by decide +kernel
theorem d_Md_feed_37 : decode b_Md_feed 37 = .ok (.iload 5, 2) := by decide +kernel
theorem d_Md_feed_39 : decode b_Md_feed 39 = .ok (.invokevirtual 276, 3) := by decide +kernel
theorem d_Md_feed_42 : decode b_Md_feed 42 = .ok (.aload_n 0, 1) := by decide +kernel
theorem d_Md_feed_43 : decode b_Md_feed 43 = .ok (.getfield 273, 3) := by decide +kernel
theorem d_Md_feed_46 : decode b_Md_feed 46 = .ok (.ireturn, 1) := by decide +kernel
abbrev y_Md_movesOf : MethodName := ⟨"SmallHarbourModel", "movesOf", "()I"⟩
abbrev b_Md_movesOf : ByteArray := prog_14_method_43_code
theorem mi_Md_movesOf : MI y_Md_movesOf b_Md_movesOf 5 (some .int) 0 := ⟨w_1223, w_13, by decide +kernel, by decide, by decide⟩
theorem mv_Md_movesOf : MV y_Md_movesOf := ⟨w_1222, w_s4_6⟩
theorem d_Md_movesOf_0 : decode b_Md_movesOf 0 = .ok (.iconst 0, 1) := by decide +kernel
theorem d_Md_movesOf_1 : decode b_Md_movesOf 1 = .ok (.istore_n 1, 1) := by decide +kernel
theorem d_Md_movesOf_2 : decode b_Md_movesOf 2 = .ok (.iconst 0, 1) := by decide +kernel
theorem d_Md_movesOf_3 : decode b_Md_movesOf 3 = .ok (.istore_n 2, 1) := by decide +kernel
theorem d_Md_movesOf_4 : decode b_Md_movesOf 4 = .ok (.iload_n 2, 1) := by decide +kernel
theorem d_Md_movesOf_5 : decode b_Md_movesOf 5 = .ok (.aload_n 0, 1) := by decide +kernel
theorem d_Md_movesOf_6 : decode b_Md_movesOf 6 = .ok (.getfield 96, 3) := by decide +kernel
theorem d_Md_movesOf_9 : decode b_Md_movesOf 9 = .ok (.if_icmp .ge 69, 3) := by decide +kernel
theorem d_Md_movesOf_12 : decode b_Md_movesOf 12 = .ok (.iconst 0, 1) := by decide +kernel
theorem d_Md_movesOf_13 : decode b_Md_movesOf 13 = .ok (.istore_n 3, 1) := by decide +kernel
theorem d_Md_movesOf_14 : decode b_Md_movesOf 14 = .ok (.iconst 0, 1) := by decide +kernel
theorem d_Md_movesOf_15 : decode b_Md_movesOf 15 = .ok (.istore 4, 2) := by decide +kernel
theorem d_Md_movesOf_17 : decode b_Md_movesOf 17 = .ok (.iload 4, 2) := by decide +kernel
theorem d_Md_movesOf_19 : decode b_Md_movesOf 19 = .ok (.aload_n 0, 1) := by decide +kernel
theorem d_Md_movesOf_20 : decode b_Md_movesOf 20 = .ok (.getfield 263, 3) := by decide +kernel
theorem d_Md_movesOf_23 : decode b_Md_movesOf 23 = .ok (.if_icmp .ge 39, 3) := by decide +kernel
theorem d_Md_movesOf_26 : decode b_Md_movesOf 26 = .ok (.iload_n 3, 1) := by decide +kernel
theorem d_Md_movesOf_27 : decode b_Md_movesOf 27 = .ok (.aload_n 0, 1) := by decide +kernel
theorem d_Md_movesOf_28 : decode b_Md_movesOf 28 = .ok (.getfield 108, 3) := by decide +kernel
theorem d_Md_movesOf_31 : decode b_Md_movesOf 31 = .ok (.iload 4, 2) := by decide +kernel
theorem d_Md_movesOf_33 : decode b_Md_movesOf 33 = .ok (.iaload, 1) := by decide +kernel
theorem d_Md_movesOf_34 : decode b_Md_movesOf 34 = .ok (.iload_n 2, 1) := by decide +kernel
theorem d_Md_movesOf_35 : decode b_Md_movesOf 35 = .ok (.if_icmp .ne 18, 3) := by decide +kernel
theorem d_Md_movesOf_38 : decode b_Md_movesOf 38 = .ok (.aload_n 0, 1) := by decide +kernel
theorem d_Md_movesOf_39 : decode b_Md_movesOf 39 = .ok (.getfield 23, 3) := by decide +kernel
theorem d_Md_movesOf_42 : decode b_Md_movesOf 42 = .ok (.aload_n 0, 1) := by decide +kernel
theorem d_Md_movesOf_43 : decode b_Md_movesOf 43 = .ok (.getfield 102, 3) := by decide +kernel
theorem d_Md_movesOf_46 : decode b_Md_movesOf 46 = .ok (.iload 4, 2) := by decide +kernel
theorem d_Md_movesOf_48 : decode b_Md_movesOf 48 = .ok (.iaload, 1) := by decide +kernel
theorem d_Md_movesOf_49 : decode b_Md_movesOf 49 = .ok (.iaload, 1) := by decide +kernel
theorem d_Md_movesOf_50 : decode b_Md_movesOf 50 = .ok (.goto 4, 3) := by decide +kernel
theorem d_Md_movesOf_53 : decode b_Md_movesOf 53 = .ok (.iconst 0, 1) := by decide +kernel
theorem d_Md_movesOf_54 : decode b_Md_movesOf 54 = .ok (.iadd, 1) := by decide +kernel
theorem d_Md_movesOf_55 : decode b_Md_movesOf 55 = .ok (.istore_n 3, 1) := by decide +kernel
theorem d_Md_movesOf_56 : decode b_Md_movesOf 56 = .ok (.iinc 4 1, 3) := by decide +kernel
theorem d_Md_movesOf_59 : decode b_Md_movesOf 59 = .ok (.goto (-42), 3) := by decide +kernel
theorem d_Md_movesOf_62 : decode b_Md_movesOf 62 = .ok (.iload_n 3, 1) := by decide +kernel
theorem d_Md_movesOf_63 : decode b_Md_movesOf 63 = .ok (.aload_n 0, 1) := by decide +kernel
theorem d_Md_movesOf_64 : decode b_Md_movesOf 64 = .ok (.getfield 99, 3) := by decide +kernel
theorem d_Md_movesOf_67 : decode b_Md_movesOf 67 = .ok (.if_icmp .le 5, 3) := by decide +kernel
theorem d_Md_movesOf_70 : decode b_Md_movesOf 70 = .ok (.iconst (-1), 1) := by decide +kernel
theorem d_Md_movesOf_71 : decode b_Md_movesOf 71 = .ok (.ireturn, 1) := by decide +kernel
theorem d_Md_movesOf_72 : decode b_Md_movesOf 72 = .ok (.iinc 2 1, 3) := by decide +kernel
theorem d_Md_movesOf_75 : decode b_Md_movesOf 75 = .ok (.goto (-71), 3) := by decide +kernel
theorem d_Md_movesOf_78 : decode b_Md_movesOf 78 = .ok (.iconst 0, 1) := by decide +kernel
theorem d_Md_movesOf_79 : decode b_Md_movesOf 79 = .ok (.istore_n 2, 1) := by decide +kernel
theorem d_Md_movesOf_80 : decode b_Md_movesOf 80 = .ok (.iload_n 2, 1) := by decide +kernel
theorem d_Md_movesOf_81 : decode b_Md_movesOf 81 = .ok (.aload_n 0, 1) := by decide +kernel
theorem d_Md_movesOf_82 : decode b_Md_movesOf 82 = .ok (.getfield 263, 3) := by decide +kernel
theorem d_Md_movesOf_85 : decode b_Md_movesOf 85 = .ok (.if_icmp .ge 60, 3) := by decide +kernel
theorem d_Md_movesOf_88 : decode b_Md_movesOf 88 = .ok (.iconst 0, 1) := by decide +kernel
theorem d_Md_movesOf_89 : decode b_Md_movesOf 89 = .ok (.istore_n 3, 1) := by decide +kernel
theorem d_Md_movesOf_90 : decode b_Md_movesOf 90 = .ok (.iload_n 3, 1) := by decide +kernel
theorem d_Md_movesOf_91 : decode b_Md_movesOf 91 = .ok (.iload_n 2, 1) := by decide +kernel
theorem d_Md_movesOf_92 : decode b_Md_movesOf 92 = .ok (.if_icmp .ge 47, 3) := by decide +kernel
theorem d_Md_movesOf_95 : decode b_Md_movesOf 95 = .ok (.iload_n 1, 1) := by decide +kernel
theorem d_Md_movesOf_96 : decode b_Md_movesOf 96 = .ok (.aload_n 0, 1) := by decide +kernel
theorem d_Md_movesOf_97 : decode b_Md_movesOf 97 = .ok (.getfield 108, 3) := by decide +kernel
theorem d_Md_movesOf_100 : decode b_Md_movesOf 100 = .ok (.iload_n 3, 1) := by decide +kernel
theorem d_Md_movesOf_101 : decode b_Md_movesOf 101 = .ok (.iaload, 1) := by decide +kernel
theorem d_Md_movesOf_102 : decode b_Md_movesOf 102 = .ok (.aload_n 0, 1) := by decide +kernel
theorem d_Md_movesOf_103 : decode b_Md_movesOf 103 = .ok (.getfield 108, 3) := by decide +kernel
theorem d_Md_movesOf_106 : decode b_Md_movesOf 106 = .ok (.iload_n 2, 1) := by decide +kernel
theorem d_Md_movesOf_107 : decode b_Md_movesOf 107 = .ok (.iaload, 1) := by decide +kernel
theorem d_Md_movesOf_108 : decode b_Md_movesOf 108 = .ok (.if_icmp .ne 22, 3) := by decide +kernel
theorem d_Md_movesOf_111 : decode b_Md_movesOf 111 = .ok (.aload_n 0, 1) := by decide +kernel
theorem d_Md_movesOf_112 : decode b_Md_movesOf 112 = .ok (.getfield 105, 3) := by decide +kernel
theorem d_Md_movesOf_115 : decode b_Md_movesOf 115 = .ok (.iload_n 3, 1) := by decide +kernel
theorem d_Md_movesOf_116 : decode b_Md_movesOf 116 = .ok (.iaload, 1) := by decide +kernel
theorem d_Md_movesOf_117 : decode b_Md_movesOf 117 = .ok (.aload_n 0, 1) := by decide +kernel
theorem d_Md_movesOf_118 : decode b_Md_movesOf 118 = .ok (.getfield 105, 3) := by decide +kernel
theorem d_Md_movesOf_121 : decode b_Md_movesOf 121 = .ok (.iload_n 2, 1) := by decide +kernel
theorem d_Md_movesOf_122 : decode b_Md_movesOf 122 = .ok (.iaload, 1) := by decide +kernel
theorem d_Md_movesOf_123 : decode b_Md_movesOf 123 = .ok (.if_icmp .ge 7, 3) := by decide +kernel
theorem d_Md_movesOf_126 : decode b_Md_movesOf 126 = .ok (.iconst 1, 1) := by decide +kernel
theorem d_Md_movesOf_127 : decode b_Md_movesOf 127 = .ok (.goto 4, 3) := by decide +kernel
theorem d_Md_movesOf_130 : decode b_Md_movesOf 130 = .ok (.iconst 0, 1) := by decide +kernel
theorem d_Md_movesOf_131 : decode b_Md_movesOf 131 = .ok (.iadd, 1) := by decide +kernel
theorem d_Md_movesOf_132 : decode b_Md_movesOf 132 = .ok (.istore_n 1, 1) := by decide +kernel
theorem d_Md_movesOf_133 : decode b_Md_movesOf 133 = .ok (.iinc 3 1, 3) := by decide +kernel
theorem d_Md_movesOf_136 : decode b_Md_movesOf 136 = .ok (.goto (-46), 3) := by decide +kernel
theorem d_Md_movesOf_139 : decode b_Md_movesOf 139 = .ok (.iinc 2 1, 3) := by decide +kernel
theorem d_Md_movesOf_142 : decode b_Md_movesOf 142 = .ok (.goto (-62), 3) := by decide +kernel
theorem d_Md_movesOf_145 : decode b_Md_movesOf 145 = .ok (.iload_n 1, 1) := by decide +kernel
theorem d_Md_movesOf_146 : decode b_Md_movesOf 146 = .ok (.ireturn, 1) := by decide +kernel
abbrev y_Md_fewest : MethodName := ⟨"SmallHarbourModel", "fewest", "()I"⟩
abbrev b_Md_fewest : ByteArray := prog_14_method_44_code
theorem mi_Md_fewest : MI y_Md_fewest b_Md_fewest 5 (some .int) 0 := ⟨w_1219, w_13, by decide +kernel, by decide, by decide⟩
theorem mv_Md_fewest : MV y_Md_fewest := ⟨w_1218, w_s4_5⟩
theorem d_Md_fewest_0 : decode b_Md_fewest 0 = .ok (.iconst (-1), 1) := by decide +kernel
theorem d_Md_fewest_1 : decode b_Md_fewest 1 = .ok (.istore_n 1, 1) := by decide +kernel
theorem d_Md_fewest_2 : decode b_Md_fewest 2 = .ok (.iconst 0, 1) := by decide +kernel
theorem d_Md_fewest_3 : decode b_Md_fewest 3 = .ok (.istore_n 2, 1) := by decide +kernel
theorem d_Md_fewest_4 : decode b_Md_fewest 4 = .ok (.iload_n 2, 1) := by decide +kernel
theorem d_Md_fewest_5 : decode b_Md_fewest 5 = .ok (.bipush 9, 2) := by decide +kernel
theorem d_Md_fewest_7 : decode b_Md_fewest 7 = .ok (.if_icmp .ge 16, 3) := by decide +kernel
theorem d_Md_fewest_10 : decode b_Md_fewest 10 = .ok (.aload_n 0, 1) := by decide +kernel
theorem d_Md_fewest_11 : decode b_Md_fewest 11 = .ok (.getfield 108, 3) := by decide +kernel
theorem d_Md_fewest_14 : decode b_Md_fewest 14 = .ok (.iload_n 2, 1) := by decide +kernel
theorem d_Md_fewest_15 : decode b_Md_fewest 15 = .ok (.iconst 0, 1) := by decide +kernel
theorem d_Md_fewest_16 : decode b_Md_fewest 16 = .ok (.iastore, 1) := by decide +kernel
theorem d_Md_fewest_17 : decode b_Md_fewest 17 = .ok (.iinc 2 1, 3) := by decide +kernel
theorem d_Md_fewest_20 : decode b_Md_fewest 20 = .ok (.goto (-16), 3) := by decide +kernel
theorem d_Md_fewest_23 : decode b_Md_fewest 23 = .ok (.iconst 1, 1) := by decide +kernel
theorem d_Md_fewest_24 : decode b_Md_fewest 24 = .ok (.istore_n 2, 1) := by decide +kernel
theorem d_Md_fewest_25 : decode b_Md_fewest 25 = .ok (.iload_n 2, 1) := by decide +kernel
theorem d_Md_fewest_26 : decode b_Md_fewest 26 = .ok (.ifCond .eq 127, 3) := by decide +kernel
theorem d_Md_fewest_29 : decode b_Md_fewest 29 = .ok (.aload_n 0, 1) := by decide +kernel
theorem d_Md_fewest_30 : decode b_Md_fewest 30 = .ok (.invokevirtual 266, 3) := by decide +kernel
theorem d_Md_fewest_33 : decode b_Md_fewest 33 = .ok (.istore_n 3, 1) := by decide +kernel
theorem d_Md_fewest_34 : decode b_Md_fewest 34 = .ok (.iload_n 3, 1) := by decide +kernel
theorem d_Md_fewest_35 : decode b_Md_fewest 35 = .ok (.ifCond .lt 46, 3) := by decide +kernel
theorem d_Md_fewest_38 : decode b_Md_fewest 38 = .ok (.iload_n 1, 1) := by decide +kernel
theorem d_Md_fewest_39 : decode b_Md_fewest 39 = .ok (.ifCond .lt 8, 3) := by decide +kernel
theorem d_Md_fewest_42 : decode b_Md_fewest 42 = .ok (.iload_n 3, 1) := by decide +kernel
theorem d_Md_fewest_43 : decode b_Md_fewest 43 = .ok (.iload_n 1, 1) := by decide +kernel
theorem d_Md_fewest_44 : decode b_Md_fewest 44 = .ok (.if_icmp .ge 37, 3) := by decide +kernel
theorem d_Md_fewest_47 : decode b_Md_fewest 47 = .ok (.iload_n 3, 1) := by decide +kernel
theorem d_Md_fewest_48 : decode b_Md_fewest 48 = .ok (.istore_n 1, 1) := by decide +kernel
theorem d_Md_fewest_49 : decode b_Md_fewest 49 = .ok (.iconst 0, 1) := by decide +kernel
theorem d_Md_fewest_50 : decode b_Md_fewest 50 = .ok (.istore 4, 2) := by decide +kernel
theorem d_Md_fewest_52 : decode b_Md_fewest 52 = .ok (.iload 4, 2) := by decide +kernel
theorem d_Md_fewest_54 : decode b_Md_fewest 54 = .ok (.aload_n 0, 1) := by decide +kernel
theorem d_Md_fewest_55 : decode b_Md_fewest 55 = .ok (.getfield 263, 3) := by decide +kernel
theorem d_Md_fewest_58 : decode b_Md_fewest 58 = .ok (.if_icmp .ge 23, 3) := by decide +kernel
theorem d_Md_fewest_61 : decode b_Md_fewest 61 = .ok (.aload_n 0, 1) := by decide +kernel
theorem d_Md_fewest_62 : decode b_Md_fewest 62 = .ok (.getfield 111, 3) := by decide +kernel
theorem d_Md_fewest_65 : decode b_Md_fewest 65 = .ok (.iload 4, 2) := by decide +kernel
theorem d_Md_fewest_67 : decode b_Md_fewest 67 = .ok (.aload_n 0, 1) := by decide +kernel
theorem d_Md_fewest_68 : decode b_Md_fewest 68 = .ok (.getfield 108, 3) := by decide +kernel
theorem d_Md_fewest_71 : decode b_Md_fewest 71 = .ok (.iload 4, 2) := by decide +kernel
theorem d_Md_fewest_73 : decode b_Md_fewest 73 = .ok (.iaload, 1) := by decide +kernel
theorem d_Md_fewest_74 : decode b_Md_fewest 74 = .ok (.iastore, 1) := by decide +kernel
theorem d_Md_fewest_75 : decode b_Md_fewest 75 = .ok (.iinc 4 1, 3) := by decide +kernel
theorem d_Md_fewest_78 : decode b_Md_fewest 78 = .ok (.goto (-26), 3) := by decide +kernel
theorem d_Md_fewest_81 : decode b_Md_fewest 81 = .ok (.aload_n 0, 1) := by decide +kernel
theorem d_Md_fewest_82 : decode b_Md_fewest 82 = .ok (.getfield 263, 3) := by decide +kernel
theorem d_Md_fewest_85 : decode b_Md_fewest 85 = .ok (.iconst 1, 1) := by decide +kernel
theorem d_Md_fewest_86 : decode b_Md_fewest 86 = .ok (.isub, 1) := by decide +kernel
theorem d_Md_fewest_87 : decode b_Md_fewest 87 = .ok (.istore 4, 2) := by decide +kernel
theorem d_Md_fewest_89 : decode b_Md_fewest 89 = .ok (.iload 4, 2) := by decide +kernel
theorem d_Md_fewest_91 : decode b_Md_fewest 91 = .ok (.ifCond .lt 33, 3) := by decide +kernel
theorem d_Md_fewest_94 : decode b_Md_fewest 94 = .ok (.aload_n 0, 1) := by decide +kernel
theorem d_Md_fewest_95 : decode b_Md_fewest 95 = .ok (.getfield 108, 3) := by decide +kernel
theorem d_Md_fewest_98 : decode b_Md_fewest 98 = .ok (.iload 4, 2) := by decide +kernel
theorem d_Md_fewest_100 : decode b_Md_fewest 100 = .ok (.iaload, 1) := by decide +kernel
theorem d_Md_fewest_101 : decode b_Md_fewest 101 = .ok (.aload_n 0, 1) := by decide +kernel
theorem d_Md_fewest_102 : decode b_Md_fewest 102 = .ok (.getfield 96, 3) := by decide +kernel
theorem d_Md_fewest_105 : decode b_Md_fewest 105 = .ok (.iconst 1, 1) := by decide +kernel
theorem d_Md_fewest_106 : decode b_Md_fewest 106 = .ok (.isub, 1) := by decide +kernel
theorem d_Md_fewest_107 : decode b_Md_fewest 107 = .ok (.if_icmp .ne 17, 3) := by decide +kernel
theorem d_Md_fewest_110 : decode b_Md_fewest 110 = .ok (.aload_n 0, 1) := by decide +kernel
theorem d_Md_fewest_111 : decode b_Md_fewest 111 = .ok (.getfield 108, 3) := by decide +kernel
theorem d_Md_fewest_114 : decode b_Md_fewest 114 = .ok (.iload 4, 2) := by decide +kernel
theorem d_Md_fewest_116 : decode b_Md_fewest 116 = .ok (.iconst 0, 1) := by decide +kernel
theorem d_Md_fewest_117 : decode b_Md_fewest 117 = .ok (.iastore, 1) := by decide +kernel
theorem d_Md_fewest_118 : decode b_Md_fewest 118 = .ok (.iinc 4 (-1), 3) := by decide +kernel
theorem d_Md_fewest_121 : decode b_Md_fewest 121 = .ok (.goto (-32), 3) := by decide +kernel
theorem d_Md_fewest_124 : decode b_Md_fewest 124 = .ok (.iload 4, 2) := by decide +kernel
theorem d_Md_fewest_126 : decode b_Md_fewest 126 = .ok (.ifCond .lt 7, 3) := by decide +kernel
theorem d_Md_fewest_129 : decode b_Md_fewest 129 = .ok (.iconst 1, 1) := by decide +kernel
theorem d_Md_fewest_130 : decode b_Md_fewest 130 = .ok (.goto 4, 3) := by decide +kernel
theorem d_Md_fewest_133 : decode b_Md_fewest 133 = .ok (.iconst 0, 1) := by decide +kernel
theorem d_Md_fewest_134 : decode b_Md_fewest 134 = .ok (.istore_n 2, 1) := by decide +kernel
theorem d_Md_fewest_135 : decode b_Md_fewest 135 = .ok (.iload_n 2, 1) := by decide +kernel
theorem d_Md_fewest_136 : decode b_Md_fewest 136 = .ok (.ifCond .eq 14, 3) := by decide +kernel
theorem d_Md_fewest_139 : decode b_Md_fewest 139 = .ok (.aload_n 0, 1) := by decide +kernel
theorem d_Md_fewest_140 : decode b_Md_fewest 140 = .ok (.getfield 108, 3) := by decide +kernel
theorem d_Md_fewest_143 : decode b_Md_fewest 143 = .ok (.iload 4, 2) := by decide +kernel
theorem d_Md_fewest_145 : decode b_Md_fewest 145 = .ok (.dup2, 1) := by decide +kernel
theorem d_Md_fewest_146 : decode b_Md_fewest 146 = .ok (.iaload, 1) := by decide +kernel
theorem d_Md_fewest_147 : decode b_Md_fewest 147 = .ok (.iconst 1, 1) := by decide +kernel
theorem d_Md_fewest_148 : decode b_Md_fewest 148 = .ok (.iadd, 1) := by decide +kernel
theorem d_Md_fewest_149 : decode b_Md_fewest 149 = .ok (.iastore, 1) := by decide +kernel
theorem d_Md_fewest_150 : decode b_Md_fewest 150 = .ok (.goto (-125), 3) := by decide +kernel
theorem d_Md_fewest_153 : decode b_Md_fewest 153 = .ok (.iload_n 1, 1) := by decide +kernel
theorem d_Md_fewest_154 : decode b_Md_fewest 154 = .ok (.ireturn, 1) := by decide +kernel
abbrev y_Md_firstNight : MethodName := ⟨"SmallHarbourModel", "firstNight", "(I)I"⟩
abbrev b_Md_firstNight : ByteArray := prog_14_method_22_code
theorem mi_Md_firstNight : MI y_Md_firstNight b_Md_firstNight 2 (some .int) 1 := ⟨w_1143, w_13, by decide +kernel, by decide, by decide⟩
theorem mv_Md_firstNight : MV y_Md_firstNight := ⟨w_1142, w_s3_15⟩
theorem d_Md_firstNight_0 : decode b_Md_firstNight 0 = .ok (.aload_n 0, 1) := by decide +kernel
theorem d_Md_firstNight_1 : decode b_Md_firstNight 1 = .ok (.getfield 50, 3) := by decide +kernel
theorem d_Md_firstNight_4 : decode b_Md_firstNight 4 = .ok (.aload_n 0, 1) := by decide +kernel
theorem d_Md_firstNight_5 : decode b_Md_firstNight 5 = .ok (.getfield 56, 3) := by decide +kernel
theorem d_Md_firstNight_8 : decode b_Md_firstNight 8 = .ok (.iload_n 1, 1) := by decide +kernel
theorem d_Md_firstNight_9 : decode b_Md_firstNight 9 = .ok (.iaload, 1) := by decide +kernel
theorem d_Md_firstNight_10 : decode b_Md_firstNight 10 = .ok (.iaload, 1) := by decide +kernel
theorem d_Md_firstNight_11 : decode b_Md_firstNight 11 = .ok (.aload_n 0, 1) := by decide +kernel
theorem d_Md_firstNight_12 : decode b_Md_firstNight 12 = .ok (.getfield 199, 3) := by decide +kernel
theorem d_Md_firstNight_15 : decode b_Md_firstNight 15 = .ok (.if_icmp .ge 10, 3) := by decide +kernel
theorem d_Md_firstNight_18 : decode b_Md_firstNight 18 = .ok (.aload_n 0, 1) := by decide +kernel
theorem d_Md_firstNight_19 : decode b_Md_firstNight 19 = .ok (.getfield 199, 3) := by decide +kernel
theorem d_Md_firstNight_22 : decode b_Md_firstNight 22 = .ok (.goto 14, 3) := by decide +kernel
theorem d_Md_firstNight_25 : decode b_Md_firstNight 25 = .ok (.aload_n 0, 1) := by decide +kernel
theorem d_Md_firstNight_26 : decode b_Md_firstNight 26 = .ok (.getfield 50, 3) := by decide +kernel
theorem d_Md_firstNight_29 : decode b_Md_firstNight 29 = .ok (.aload_n 0, 1) := by decide +kernel
theorem d_Md_firstNight_30 : decode b_Md_firstNight 30 = .ok (.getfield 56, 3) := by decide +kernel
theorem d_Md_firstNight_33 : decode b_Md_firstNight 33 = .ok (.iload_n 1, 1) := by decide +kernel
theorem d_Md_firstNight_34 : decode b_Md_firstNight 34 = .ok (.iaload, 1) := by decide +kernel
theorem d_Md_firstNight_35 : decode b_Md_firstNight 35 = .ok (.iaload, 1) := by decide +kernel
theorem d_Md_firstNight_36 : decode b_Md_firstNight 36 = .ok (.ireturn, 1) := by decide +kernel
abbrev y_Md_fits : MethodName := ⟨"SmallHarbourModel", "fits", "(III)I"⟩
abbrev b_Md_fits : ByteArray := prog_14_method_35_code
theorem mi_Md_fits : MI y_Md_fits b_Md_fits 4 (some .int) 3 := ⟨w_1183, w_13, by decide +kernel, by decide, by decide⟩
theorem mv_Md_fits : MV y_Md_fits := ⟨w_1181, w_1182⟩
theorem d_Md_fits_0 : decode b_Md_fits 0 = .ok (.aload_n 0, 1) := by decide +kernel
theorem d_Md_fits_1 : decode b_Md_fits 1 = .ok (.iload_n 1, 1) := by decide +kernel
theorem d_Md_fits_2 : decode b_Md_fits 2 = .ok (.invokevirtual 179, 3) := by decide +kernel
theorem d_Md_fits_5 : decode b_Md_fits 5 = .ok (.ifCond .eq 28, 3) := by decide +kernel
theorem d_Md_fits_8 : decode b_Md_fits 8 = .ok (.iload_n 2, 1) := by decide +kernel
theorem d_Md_fits_9 : decode b_Md_fits 9 = .ok (.iconst 0, 1) := by decide +kernel
theorem d_Md_fits_10 : decode b_Md_fits 10 = .ok (.aload_n 0, 1) := by decide +kernel
theorem d_Md_fits_11 : decode b_Md_fits 11 = .ok (.getfield 155, 3) := by decide +kernel
theorem d_Md_fits_14 : decode b_Md_fits 14 = .ok (.iconst 1, 1) := by decide +kernel
theorem d_Md_fits_15 : decode b_Md_fits 15 = .ok (.isub, 1) := by decide +kernel
theorem d_Md_fits_16 : decode b_Md_fits 16 = .ok (.invokestatic 144, 3) := by decide +kernel
theorem d_Md_fits_19 : decode b_Md_fits 19 = .ok (.ifCond .eq 14, 3) := by decide +kernel
theorem d_Md_fits_22 : decode b_Md_fits 22 = .ok (.iload_n 3, 1) := by decide +kernel
theorem d_Md_fits_23 : decode b_Md_fits 23 = .ok (.iconst 0, 1) := by decide +kernel
theorem d_Md_fits_24 : decode b_Md_fits 24 = .ok (.sipush 399, 3) := by decide +kernel
theorem d_Md_fits_27 : decode b_Md_fits 27 = .ok (.invokestatic 144, 3) := by decide +kernel
theorem d_Md_fits_30 : decode b_Md_fits 30 = .ok (.ifCond .ne 5, 3) := by decide +kernel
theorem d_Md_fits_33 : decode b_Md_fits 33 = .ok (.iconst (-1), 1) := by decide +kernel
theorem d_Md_fits_34 : decode b_Md_fits 34 = .ok (.ireturn, 1) := by decide +kernel
theorem d_Md_fits_35 : decode b_Md_fits 35 = .ok (.aload_n 0, 1) := by decide +kernel
theorem d_Md_fits_36 : decode b_Md_fits 36 = .ok (.aload_n 0, 1) := by decide +kernel
theorem d_Md_fits_37 : decode b_Md_fits 37 = .ok (.getfield 23, 3) := by decide +kernel
theorem d_Md_fits_40 : decode b_Md_fits 40 = .ok (.iload_n 1, 1) := by decide +kernel
theorem d_Md_fits_41 : decode b_Md_fits 41 = .ok (.iaload, 1) := by decide +kernel
theorem d_Md_fits_42 : decode b_Md_fits 42 = .ok (.aload_n 0, 1) := by decide +kernel
theorem d_Md_fits_43 : decode b_Md_fits 43 = .ok (.getfield 26, 3) := by decide +kernel
theorem d_Md_fits_46 : decode b_Md_fits 46 = .ok (.iload_n 1, 1) := by decide +kernel
theorem d_Md_fits_47 : decode b_Md_fits 47 = .ok (.iaload, 1) := by decide +kernel
theorem d_Md_fits_48 : decode b_Md_fits 48 = .ok (.iload_n 2, 1) := by decide +kernel
theorem d_Md_fits_49 : decode b_Md_fits 49 = .ok (.iload_n 3, 1) := by decide +kernel
theorem d_Md_fits_50 : decode b_Md_fits 50 = .ok (.invokevirtual 158, 3) := by decide +kernel
theorem d_Md_fits_53 : decode b_Md_fits 53 = .ok (.ifCond .eq 7, 3) := by decide +kernel
theorem d_Md_fits_56 : decode b_Md_fits 56 = .ok (.iconst 1, 1) := by decide +kernel
theorem d_Md_fits_57 : decode b_Md_fits 57 = .ok (.goto 4, 3) := by decide +kernel
theorem d_Md_fits_60 : decode b_Md_fits 60 = .ok (.iconst 0, 1) := by decide +kernel
theorem d_Md_fits_61 : decode b_Md_fits 61 = .ok (.ireturn, 1) := by decide +kernel
abbrev y_Md_fitsAll : MethodName := ⟨"SmallHarbourModel", "fitsAll", "(IIII)Z"⟩
abbrev b_Md_fitsAll : ByteArray := prog_14_method_9_code
theorem mi_Md_fitsAll : MI y_Md_fitsAll b_Md_fitsAll 6 (some .boolean) 4 := ⟨w_1095, w_13, by decide +kernel, by decide, by decide⟩
theorem mv_Md_fitsAll : MV y_Md_fitsAll := ⟨w_1094, w_s3_5⟩
theorem d_Md_fitsAll_0 : decode b_Md_fitsAll 0 = .ok (.iload_n 3, 1) := by decide +kernel
theorem d_Md_fitsAll_1 : decode b_Md_fitsAll 1 = .ok (.istore 5, 2) := by decide +kernel
theorem d_Md_fitsAll_3 : decode b_Md_fitsAll 3 = .ok (.iload 5, 2) := by decide +kernel
theorem d_Md_fitsAll_5 : decode b_Md_fitsAll 5 = .ok (.iload 4, 2) := by decide +kernel
theorem d_Md_fitsAll_7 : decode b_Md_fitsAll 7 = .ok (.if_icmp .ge 33, 3) := by decide +kernel
theorem d_Md_fitsAll_10 : decode b_Md_fitsAll 10 = .ok (.aload_n 0, 1) := by decide +kernel
theorem d_Md_fitsAll_11 : decode b_Md_fitsAll 11 = .ok (.aload_n 0, 1) := by decide +kernel
theorem d_Md_fitsAll_12 : decode b_Md_fitsAll 12 = .ok (.getfield 23, 3) := by decide +kernel
theorem d_Md_fitsAll_15 : decode b_Md_fitsAll 15 = .ok (.iload_n 1, 1) := by decide +kernel
theorem d_Md_fitsAll_16 : decode b_Md_fitsAll 16 = .ok (.iaload, 1) := by decide +kernel
theorem d_Md_fitsAll_17 : decode b_Md_fitsAll 17 = .ok (.aload_n 0, 1) := by decide +kernel
theorem d_Md_fitsAll_18 : decode b_Md_fitsAll 18 = .ok (.getfield 26, 3) := by decide +kernel
theorem d_Md_fitsAll_21 : decode b_Md_fitsAll 21 = .ok (.iload_n 1, 1) := by decide +kernel
theorem d_Md_fitsAll_22 : decode b_Md_fitsAll 22 = .ok (.iaload, 1) := by decide +kernel
theorem d_Md_fitsAll_23 : decode b_Md_fitsAll 23 = .ok (.iload_n 2, 1) := by decide +kernel
theorem d_Md_fitsAll_24 : decode b_Md_fitsAll 24 = .ok (.iload 5, 2) := by decide +kernel
theorem d_Md_fitsAll_26 : decode b_Md_fitsAll 26 = .ok (.invokevirtual 158, 3) := by decide +kernel
theorem d_Md_fitsAll_29 : decode b_Md_fitsAll 29 = .ok (.ifCond .ne 5, 3) := by decide +kernel
theorem d_Md_fitsAll_32 : decode b_Md_fitsAll 32 = .ok (.iconst 0, 1) := by decide +kernel
theorem d_Md_fitsAll_33 : decode b_Md_fitsAll 33 = .ok (.ireturn, 1) := by decide +kernel
theorem d_Md_fitsAll_34 : decode b_Md_fitsAll 34 = .ok (.iinc 5 1, 3) := by decide +kernel
theorem d_Md_fitsAll_37 : decode b_Md_fitsAll 37 = .ok (.goto (-34), 3) := by decide +kernel
theorem d_Md_fitsAll_40 : decode b_Md_fitsAll 40 = .ok (.iconst 1, 1) := by decide +kernel
theorem d_Md_fitsAll_41 : decode b_Md_fitsAll 41 = .ok (.ireturn, 1) := by decide +kernel
abbrev y_Md_hasStay : MethodName := ⟨"SmallHarbourModel", "hasStay", "(III)Z"⟩
abbrev b_Md_hasStay : ByteArray := prog_14_method_17_code
theorem mi_Md_hasStay : MI y_Md_hasStay b_Md_hasStay 5 (some .boolean) 3 := ⟨w_1091, w_13, by decide +kernel, by decide, by decide⟩
theorem mv_Md_hasStay : MV y_Md_hasStay := ⟨w_1090, w_s3_4⟩
theorem d_Md_hasStay_0 : decode b_Md_hasStay 0 = .ok (.iconst 0, 1) := by decide +kernel
theorem d_Md_hasStay_1 : decode b_Md_hasStay 1 = .ok (.istore 4, 2) := by decide +kernel
theorem d_Md_hasStay_3 : decode b_Md_hasStay 3 = .ok (.iload 4, 2) := by decide +kernel
theorem d_Md_hasStay_5 : decode b_Md_hasStay 5 = .ok (.aload_n 0, 1) := by decide +kernel
theorem d_Md_hasStay_6 : decode b_Md_hasStay 6 = .ok (.getfield 148, 3) := by decide +kernel
theorem d_Md_hasStay_9 : decode b_Md_hasStay 9 = .ok (.if_icmp .ge 44, 3) := by decide +kernel
theorem d_Md_hasStay_12 : decode b_Md_hasStay 12 = .ok (.aload_n 0, 1) := by decide +kernel
theorem d_Md_hasStay_13 : decode b_Md_hasStay 13 = .ok (.getfield 44, 3) := by decide +kernel
theorem d_Md_hasStay_16 : decode b_Md_hasStay 16 = .ok (.iload 4, 2) := by decide +kernel
theorem d_Md_hasStay_18 : decode b_Md_hasStay 18 = .ok (.iaload, 1) := by decide +kernel
theorem d_Md_hasStay_19 : decode b_Md_hasStay 19 = .ok (.iload_n 1, 1) := by decide +kernel
theorem d_Md_hasStay_20 : decode b_Md_hasStay 20 = .ok (.if_icmp .ne 27, 3) := by decide +kernel
theorem d_Md_hasStay_23 : decode b_Md_hasStay 23 = .ok (.aload_n 0, 1) := by decide +kernel
theorem d_Md_hasStay_24 : decode b_Md_hasStay 24 = .ok (.getfield 50, 3) := by decide +kernel
theorem d_Md_hasStay_27 : decode b_Md_hasStay 27 = .ok (.iload 4, 2) := by decide +kernel
theorem d_Md_hasStay_29 : decode b_Md_hasStay 29 = .ok (.iaload, 1) := by decide +kernel
theorem d_Md_hasStay_30 : decode b_Md_hasStay 30 = .ok (.iload_n 3, 1) := by decide +kernel
theorem d_Md_hasStay_31 : decode b_Md_hasStay 31 = .ok (.if_icmp .ge 16, 3) := by decide +kernel
theorem d_Md_hasStay_34 : decode b_Md_hasStay 34 = .ok (.iload_n 2, 1) := by decide +kernel
theorem d_Md_hasStay_35 : decode b_Md_hasStay 35 = .ok (.aload_n 0, 1) := by decide +kernel
theorem d_Md_hasStay_36 : decode b_Md_hasStay 36 = .ok (.getfield 53, 3) := by decide +kernel
theorem d_Md_hasStay_39 : decode b_Md_hasStay 39 = .ok (.iload 4, 2) := by decide +kernel
theorem d_Md_hasStay_41 : decode b_Md_hasStay 41 = .ok (.iaload, 1) := by decide +kernel
theorem d_Md_hasStay_42 : decode b_Md_hasStay 42 = .ok (.if_icmp .ge 5, 3) := by decide +kernel
theorem d_Md_hasStay_45 : decode b_Md_hasStay 45 = .ok (.iconst 1, 1) := by decide +kernel
theorem d_Md_hasStay_46 : decode b_Md_hasStay 46 = .ok (.ireturn, 1) := by decide +kernel
theorem d_Md_hasStay_47 : decode b_Md_hasStay 47 = .ok (.iinc 4 1, 3) := by decide +kernel
theorem d_Md_hasStay_50 : decode b_Md_hasStay 50 = .ok (.goto (-47), 3) := by decide +kernel
theorem d_Md_hasStay_53 : decode b_Md_hasStay 53 = .ok (.iconst 0, 1) := by decide +kernel
theorem d_Md_hasStay_54 : decode b_Md_hasStay 54 = .ok (.ireturn, 1) := by decide +kernel
abbrev y_Md_hoist : MethodName := ⟨"SmallHarbourModel", "hoist", "(III)Z"⟩
abbrev b_Md_hoist : ByteArray := prog_14_method_36_code
theorem mi_Md_hoist : MI y_Md_hoist b_Md_hoist 4 (some .boolean) 3 := ⟨w_1187, w_13, by decide +kernel, by decide, by decide⟩
theorem mv_Md_hoist : MV y_Md_hoist := ⟨w_1185, w_1186⟩
theorem d_Md_hoist_0 : decode b_Md_hoist 0 = .ok (.iload_n 1, 1) := by decide +kernel
theorem d_Md_hoist_1 : decode b_Md_hoist 1 = .ok (.iconst 0, 1) := by decide +kernel
theorem d_Md_hoist_2 : decode b_Md_hoist 2 = .ok (.bipush 40, 2) := by decide +kernel
theorem d_Md_hoist_4 : decode b_Md_hoist 4 = .ok (.invokestatic 144, 3) := by decide +kernel
theorem d_Md_hoist_7 : decode b_Md_hoist 7 = .ok (.ifCond .eq 25, 3) := by decide +kernel
theorem d_Md_hoist_10 : decode b_Md_hoist 10 = .ok (.iload_n 2, 1) := by decide +kernel
theorem d_Md_hoist_11 : decode b_Md_hoist 11 = .ok (.iconst 1, 1) := by decide +kernel
theorem d_Md_hoist_12 : decode b_Md_hoist 12 = .ok (.sipush 500, 3) := by decide +kernel
theorem d_Md_hoist_15 : decode b_Md_hoist 15 = .ok (.invokestatic 144, 3) := by decide +kernel
theorem d_Md_hoist_18 : decode b_Md_hoist 18 = .ok (.ifCond .eq 14, 3) := by decide +kernel
theorem d_Md_hoist_21 : decode b_Md_hoist 21 = .ok (.iload_n 3, 1) := by decide +kernel
theorem d_Md_hoist_22 : decode b_Md_hoist 22 = .ok (.iconst 1, 1) := by decide +kernel
theorem d_Md_hoist_23 : decode b_Md_hoist 23 = .ok (.sipush 600, 3) := by decide +kernel
theorem d_Md_hoist_26 : decode b_Md_hoist 26 = .ok (.invokestatic 144, 3) := by decide +kernel
theorem d_Md_hoist_29 : decode b_Md_hoist 29 = .ok (.ifCond .ne 5, 3) := by decide +kernel
theorem d_Md_hoist_32 : decode b_Md_hoist 32 = .ok (.iconst 0, 1) := by decide +kernel
theorem d_Md_hoist_33 : decode b_Md_hoist 33 = .ok (.ireturn, 1) := by decide +kernel
theorem d_Md_hoist_34 : decode b_Md_hoist 34 = .ok (.aload_n 0, 1) := by decide +kernel
theorem d_Md_hoist_35 : decode b_Md_hoist 35 = .ok (.iload_n 1, 1) := by decide +kernel
theorem d_Md_hoist_36 : decode b_Md_hoist 36 = .ok (.putfield 254, 3) := by decide +kernel
theorem d_Md_hoist_39 : decode b_Md_hoist 39 = .ok (.aload_n 0, 1) := by decide +kernel
theorem d_Md_hoist_40 : decode b_Md_hoist 40 = .ok (.iload_n 2, 1) := by decide +kernel
theorem d_Md_hoist_41 : decode b_Md_hoist 41 = .ok (.putfield 74, 3) := by decide +kernel
theorem d_Md_hoist_44 : decode b_Md_hoist 44 = .ok (.aload_n 0, 1) := by decide +kernel
theorem d_Md_hoist_45 : decode b_Md_hoist 45 = .ok (.iload_n 3, 1) := by decide +kernel
theorem d_Md_hoist_46 : decode b_Md_hoist 46 = .ok (.putfield 77, 3) := by decide +kernel
theorem d_Md_hoist_49 : decode b_Md_hoist 49 = .ok (.iconst 1, 1) := by decide +kernel
theorem d_Md_hoist_50 : decode b_Md_hoist 50 = .ok (.ireturn, 1) := by decide +kernel
abbrev y_Md_putStay : MethodName := ⟨"SmallHarbourModel", "putStay", "(IIII)V"⟩
abbrev b_Md_putStay : ByteArray := prog_14_method_20_code
theorem mi_Md_putStay : MI y_Md_putStay b_Md_putStay 5 none 4 := ⟨w_1115, w_13, by decide +kernel, by decide, by decide⟩
theorem mv_Md_putStay : MV y_Md_putStay := ⟨w_1114, w_s3_10⟩
theorem d_Md_putStay_0 : decode b_Md_putStay 0 = .ok (.aload_n 0, 1) := by decide +kernel
theorem d_Md_putStay_1 : decode b_Md_putStay 1 = .ok (.getfield 44, 3) := by decide +kernel
theorem d_Md_putStay_4 : decode b_Md_putStay 4 = .ok (.aload_n 0, 1) := by decide +kernel
theorem d_Md_putStay_5 : decode b_Md_putStay 5 = .ok (.getfield 148, 3) := by decide +kernel
theorem d_Md_putStay_8 : decode b_Md_putStay 8 = .ok (.iload_n 1, 1) := by decide +kernel
theorem d_Md_putStay_9 : decode b_Md_putStay 9 = .ok (.iastore, 1) := by decide +kernel
theorem d_Md_putStay_10 : decode b_Md_putStay 10 = .ok (.aload_n 0, 1) := by decide +kernel
theorem d_Md_putStay_11 : decode b_Md_putStay 11 = .ok (.getfield 47, 3) := by decide +kernel
theorem d_Md_putStay_14 : decode b_Md_putStay 14 = .ok (.aload_n 0, 1) := by decide +kernel
theorem d_Md_putStay_15 : decode b_Md_putStay 15 = .ok (.getfield 148, 3) := by decide +kernel
theorem d_Md_putStay_18 : decode b_Md_putStay 18 = .ok (.iload_n 2, 1) := by decide +kernel
theorem d_Md_putStay_19 : decode b_Md_putStay 19 = .ok (.iastore, 1) := by decide +kernel
theorem d_Md_putStay_20 : decode b_Md_putStay 20 = .ok (.aload_n 0, 1) := by decide +kernel
theorem d_Md_putStay_21 : decode b_Md_putStay 21 = .ok (.getfield 50, 3) := by decide +kernel
theorem d_Md_putStay_24 : decode b_Md_putStay 24 = .ok (.aload_n 0, 1) := by decide +kernel
theorem d_Md_putStay_25 : decode b_Md_putStay 25 = .ok (.getfield 148, 3) := by decide +kernel
theorem d_Md_putStay_28 : decode b_Md_putStay 28 = .ok (.iload_n 3, 1) := by decide +kernel
theorem d_Md_putStay_29 : decode b_Md_putStay 29 = .ok (.iastore, 1) := by decide +kernel
theorem d_Md_putStay_30 : decode b_Md_putStay 30 = .ok (.aload_n 0, 1) := by decide +kernel
theorem d_Md_putStay_31 : decode b_Md_putStay 31 = .ok (.getfield 53, 3) := by decide +kernel
theorem d_Md_putStay_34 : decode b_Md_putStay 34 = .ok (.aload_n 0, 1) := by decide +kernel
theorem d_Md_putStay_35 : decode b_Md_putStay 35 = .ok (.getfield 148, 3) := by decide +kernel
theorem d_Md_putStay_38 : decode b_Md_putStay 38 = .ok (.iload 4, 2) := by decide +kernel
theorem d_Md_putStay_40 : decode b_Md_putStay 40 = .ok (.iastore, 1) := by decide +kernel
theorem d_Md_putStay_41 : decode b_Md_putStay 41 = .ok (.aload_n 0, 1) := by decide +kernel
theorem d_Md_putStay_42 : decode b_Md_putStay 42 = .ok (.dup, 1) := by decide +kernel
theorem d_Md_putStay_43 : decode b_Md_putStay 43 = .ok (.getfield 148, 3) := by decide +kernel
theorem d_Md_putStay_46 : decode b_Md_putStay 46 = .ok (.iconst 1, 1) := by decide +kernel
theorem d_Md_putStay_47 : decode b_Md_putStay 47 = .ok (.iadd, 1) := by decide +kernel
theorem d_Md_putStay_48 : decode b_Md_putStay 48 = .ok (.putfield 148, 3) := by decide +kernel
theorem d_Md_putStay_51 : decode b_Md_putStay 51 = .ok (.return_, 1) := by decide +kernel
abbrev y_Md_moveAll : MethodName := ⟨"SmallHarbourModel", "moveAll", "(I)I"⟩
abbrev b_Md_moveAll : ByteArray := prog_14_method_29_code
theorem mi_Md_moveAll : MI y_Md_moveAll b_Md_moveAll 4 (some .int) 1 := ⟨w_1152, w_13, by decide +kernel, by decide, by decide⟩
theorem mv_Md_moveAll : MV y_Md_moveAll := ⟨w_1151, w_s4_1⟩
theorem d_Md_moveAll_0 : decode b_Md_moveAll 0 = .ok (.aload_n 0, 1) := by decide +kernel
theorem d_Md_moveAll_1 : decode b_Md_moveAll 1 = .ok (.iconst 0, 1) := by decide +kernel
theorem d_Md_moveAll_2 : decode b_Md_moveAll 2 = .ok (.putfield 241, 3) := by decide +kernel
theorem d_Md_moveAll_5 : decode b_Md_moveAll 5 = .ok (.iconst 0, 1) := by decide +kernel
theorem d_Md_moveAll_6 : decode b_Md_moveAll 6 = .ok (.istore_n 2, 1) := by decide +kernel
theorem d_Md_moveAll_7 : decode b_Md_moveAll 7 = .ok (.iload_n 2, 1) := by decide +kernel
theorem d_Md_moveAll_8 : decode b_Md_moveAll 8 = .ok (.aload_n 0, 1) := by decide +kernel
theorem d_Md_moveAll_9 : decode b_Md_moveAll 9 = .ok (.getfield 212, 3) := by decide +kernel
theorem d_Md_moveAll_12 : decode b_Md_moveAll 12 = .ok (.if_icmp .ge 147, 3) := by decide +kernel
theorem d_Md_moveAll_15 : decode b_Md_moveAll 15 = .ok (.aload_n 0, 1) := by decide +kernel
theorem d_Md_moveAll_16 : decode b_Md_moveAll 16 = .ok (.getfield 56, 3) := by decide +kernel
theorem d_Md_moveAll_19 : decode b_Md_moveAll 19 = .ok (.iload_n 2, 1) := by decide +kernel
theorem d_Md_moveAll_20 : decode b_Md_moveAll 20 = .ok (.iaload, 1) := by decide +kernel
theorem d_Md_moveAll_21 : decode b_Md_moveAll 21 = .ok (.istore_n 3, 1) := by decide +kernel
theorem d_Md_moveAll_22 : decode b_Md_moveAll 22 = .ok (.aload_n 0, 1) := by decide +kernel
theorem d_Md_moveAll_23 : decode b_Md_moveAll 23 = .ok (.getfield 62, 3) := by decide +kernel
theorem d_Md_moveAll_26 : decode b_Md_moveAll 26 = .ok (.iload_n 2, 1) := by decide +kernel
theorem d_Md_moveAll_27 : decode b_Md_moveAll 27 = .ok (.iaload, 1) := by decide +kernel
theorem d_Md_moveAll_28 : decode b_Md_moveAll 28 = .ok (.aload_n 0, 1) := by decide +kernel
theorem d_Md_moveAll_29 : decode b_Md_moveAll 29 = .ok (.getfield 47, 3) := by decide +kernel
theorem d_Md_moveAll_32 : decode b_Md_moveAll 32 = .ok (.iload_n 3, 1) := by decide +kernel
theorem d_Md_moveAll_33 : decode b_Md_moveAll 33 = .ok (.iaload, 1) := by decide +kernel
theorem d_Md_moveAll_34 : decode b_Md_moveAll 34 = .ok (.if_icmp .ne 6, 3) := by decide +kernel
theorem d_Md_moveAll_37 : decode b_Md_moveAll 37 = .ok (.goto 116, 3) := by decide +kernel
theorem d_Md_moveAll_40 : decode b_Md_moveAll 40 = .ok (.aload_n 0, 1) := by decide +kernel
theorem d_Md_moveAll_41 : decode b_Md_moveAll 41 = .ok (.getfield 65, 3) := by decide +kernel
theorem d_Md_moveAll_44 : decode b_Md_moveAll 44 = .ok (.aload_n 0, 1) := by decide +kernel
theorem d_Md_moveAll_45 : decode b_Md_moveAll 45 = .ok (.getfield 241, 3) := by decide +kernel
theorem d_Md_moveAll_48 : decode b_Md_moveAll 48 = .ok (.iload_n 3, 1) := by decide +kernel
theorem d_Md_moveAll_49 : decode b_Md_moveAll 49 = .ok (.iastore, 1) := by decide +kernel
theorem d_Md_moveAll_50 : decode b_Md_moveAll 50 = .ok (.aload_n 0, 1) := by decide +kernel
theorem d_Md_moveAll_51 : decode b_Md_moveAll 51 = .ok (.getfield 68, 3) := by decide +kernel
theorem d_Md_moveAll_54 : decode b_Md_moveAll 54 = .ok (.aload_n 0, 1) := by decide +kernel
theorem d_Md_moveAll_55 : decode b_Md_moveAll 55 = .ok (.getfield 241, 3) := by decide +kernel
theorem d_Md_moveAll_58 : decode b_Md_moveAll 58 = .ok (.aload_n 0, 1) := by decide +kernel
theorem d_Md_moveAll_59 : decode b_Md_moveAll 59 = .ok (.getfield 62, 3) := by decide +kernel
theorem d_Md_moveAll_62 : decode b_Md_moveAll 62 = .ok (.iload_n 2, 1) := by decide +kernel
theorem d_Md_moveAll_63 : decode b_Md_moveAll 63 = .ok (.iaload, 1) := by decide +kernel
theorem d_Md_moveAll_64 : decode b_Md_moveAll 64 = .ok (.iastore, 1) := by decide +kernel
theorem d_Md_moveAll_65 : decode b_Md_moveAll 65 = .ok (.aload_n 0, 1) := by decide +kernel
theorem d_Md_moveAll_66 : decode b_Md_moveAll 66 = .ok (.getfield 71, 3) := by decide +kernel
theorem d_Md_moveAll_69 : decode b_Md_moveAll 69 = .ok (.aload_n 0, 1) := by decide +kernel
theorem d_Md_moveAll_70 : decode b_Md_moveAll 70 = .ok (.getfield 241, 3) := by decide +kernel
theorem d_Md_moveAll_73 : decode b_Md_moveAll 73 = .ok (.iload_n 3, 1) := by decide +kernel
theorem d_Md_moveAll_74 : decode b_Md_moveAll 74 = .ok (.iastore, 1) := by decide +kernel
theorem d_Md_moveAll_75 : decode b_Md_moveAll 75 = .ok (.aload_n 0, 1) := by decide +kernel
theorem d_Md_moveAll_76 : decode b_Md_moveAll 76 = .ok (.getfield 50, 3) := by decide +kernel
theorem d_Md_moveAll_79 : decode b_Md_moveAll 79 = .ok (.iload_n 3, 1) := by decide +kernel
theorem d_Md_moveAll_80 : decode b_Md_moveAll 80 = .ok (.iaload, 1) := by decide +kernel
theorem d_Md_moveAll_81 : decode b_Md_moveAll 81 = .ok (.iload_n 1, 1) := by decide +kernel
theorem d_Md_moveAll_82 : decode b_Md_moveAll 82 = .ok (.if_icmp .lt 18, 3) := by decide +kernel
theorem d_Md_moveAll_85 : decode b_Md_moveAll 85 = .ok (.aload_n 0, 1) := by decide +kernel
theorem d_Md_moveAll_86 : decode b_Md_moveAll 86 = .ok (.getfield 47, 3) := by decide +kernel
theorem d_Md_moveAll_89 : decode b_Md_moveAll 89 = .ok (.iload_n 3, 1) := by decide +kernel
theorem d_Md_moveAll_90 : decode b_Md_moveAll 90 = .ok (.aload_n 0, 1) := by decide +kernel
theorem d_Md_moveAll_91 : decode b_Md_moveAll 91 = .ok (.getfield 62, 3) := by decide +kernel
theorem d_Md_moveAll_94 : decode b_Md_moveAll 94 = .ok (.iload_n 2, 1) := by decide +kernel
theorem d_Md_moveAll_95 : decode b_Md_moveAll 95 = .ok (.iaload, 1) := by decide +kernel
theorem d_Md_moveAll_96 : decode b_Md_moveAll 96 = .ok (.iastore, 1) := by decide +kernel
theorem d_Md_moveAll_97 : decode b_Md_moveAll 97 = .ok (.goto 46, 3) := by decide +kernel
theorem d_Md_moveAll_100 : decode b_Md_moveAll 100 = .ok (.aload_n 0, 1) := by decide +kernel
theorem d_Md_moveAll_101 : decode b_Md_moveAll 101 = .ok (.getfield 71, 3) := by decide +kernel
theorem d_Md_moveAll_104 : decode b_Md_moveAll 104 = .ok (.aload_n 0, 1) := by decide +kernel
theorem d_Md_moveAll_105 : decode b_Md_moveAll 105 = .ok (.getfield 241, 3) := by decide +kernel
theorem d_Md_moveAll_108 : decode b_Md_moveAll 108 = .ok (.aload_n 0, 1) := by decide +kernel
theorem d_Md_moveAll_109 : decode b_Md_moveAll 109 = .ok (.getfield 148, 3) := by decide +kernel
theorem d_Md_moveAll_112 : decode b_Md_moveAll 112 = .ok (.iastore, 1) := by decide +kernel
theorem d_Md_moveAll_113 : decode b_Md_moveAll 113 = .ok (.aload_n 0, 1) := by decide +kernel
theorem d_Md_moveAll_114 : decode b_Md_moveAll 114 = .ok (.aload_n 0, 1) := by decide +kernel
theorem d_Md_moveAll_115 : decode b_Md_moveAll 115 = .ok (.getfield 44, 3) := by decide +kernel
theorem d_Md_moveAll_118 : decode b_Md_moveAll 118 = .ok (.iload_n 3, 1) := by decide +kernel
theorem d_Md_moveAll_119 : decode b_Md_moveAll 119 = .ok (.iaload, 1) := by decide +kernel
theorem d_Md_moveAll_120 : decode b_Md_moveAll 120 = .ok (.aload_n 0, 1) := by decide +kernel
theorem d_Md_moveAll_121 : decode b_Md_moveAll 121 = .ok (.getfield 62, 3) := by decide +kernel
theorem d_Md_moveAll_124 : decode b_Md_moveAll 124 = .ok (.iload_n 2, 1) := by decide +kernel
theorem d_Md_moveAll_125 : decode b_Md_moveAll 125 = .ok (.iaload, 1) := by decide +kernel
theorem d_Md_moveAll_126 : decode b_Md_moveAll 126 = .ok (.iload_n 1, 1) := by decide +kernel
theorem d_Md_moveAll_127 : decode b_Md_moveAll 127 = .ok (.aload_n 0, 1) := by decide +kernel
theorem d_Md_moveAll_128 : decode b_Md_moveAll 128 = .ok (.getfield 53, 3) := by decide +kernel
theorem d_Md_moveAll_131 : decode b_Md_moveAll 131 = .ok (.iload_n 3, 1) := by decide +kernel
theorem d_Md_moveAll_132 : decode b_Md_moveAll 132 = .ok (.iaload, 1) := by decide +kernel
theorem d_Md_moveAll_133 : decode b_Md_moveAll 133 = .ok (.invokevirtual 195, 3) := by decide +kernel
theorem d_Md_moveAll_136 : decode b_Md_moveAll 136 = .ok (.aload_n 0, 1) := by decide +kernel
theorem d_Md_moveAll_137 : decode b_Md_moveAll 137 = .ok (.getfield 53, 3) := by decide +kernel
theorem d_Md_moveAll_140 : decode b_Md_moveAll 140 = .ok (.iload_n 3, 1) := by decide +kernel
theorem d_Md_moveAll_141 : decode b_Md_moveAll 141 = .ok (.iload_n 1, 1) := by decide +kernel
theorem d_Md_moveAll_142 : decode b_Md_moveAll 142 = .ok (.iastore, 1) := by decide +kernel
theorem d_Md_moveAll_143 : decode b_Md_moveAll 143 = .ok (.aload_n 0, 1) := by decide +kernel
theorem d_Md_moveAll_144 : decode b_Md_moveAll 144 = .ok (.dup, 1) := by decide +kernel
theorem d_Md_moveAll_145 : decode b_Md_moveAll 145 = .ok (.getfield 241, 3) := by decide +kernel
theorem d_Md_moveAll_148 : decode b_Md_moveAll 148 = .ok (.iconst 1, 1) := by decide +kernel
theorem d_Md_moveAll_149 : decode b_Md_moveAll 149 = .ok (.iadd, 1) := by decide +kernel
theorem d_Md_moveAll_150 : decode b_Md_moveAll 150 = .ok (.putfield 241, 3) := by decide +kernel
theorem d_Md_moveAll_153 : decode b_Md_moveAll 153 = .ok (.iinc 2 1, 3) := by decide +kernel
theorem d_Md_moveAll_156 : decode b_Md_moveAll 156 = .ok (.goto (-149), 3) := by decide +kernel
theorem d_Md_moveAll_159 : decode b_Md_moveAll 159 = .ok (.aload_n 0, 1) := by decide +kernel
theorem d_Md_moveAll_160 : decode b_Md_moveAll 160 = .ok (.getfield 241, 3) := by decide +kernel
theorem d_Md_moveAll_163 : decode b_Md_moveAll 163 = .ok (.ireturn, 1) := by decide +kernel
abbrev y_Md_isTry : MethodName := ⟨"SmallHarbourModel", "isTry", "(II)Z"⟩
abbrev b_Md_isTry : ByteArray := prog_14_method_23_code
theorem mi_Md_isTry : MI y_Md_isTry b_Md_isTry 5 (some .boolean) 2 := ⟨w_1139, w_13, by decide +kernel, by decide, by decide⟩
theorem mv_Md_isTry : MV y_Md_isTry := ⟨w_1138, w_s3_14⟩
theorem d_Md_isTry_0 : decode b_Md_isTry 0 = .ok (.aload_n 0, 1) := by decide +kernel
theorem d_Md_isTry_1 : decode b_Md_isTry 1 = .ok (.getfield 56, 3) := by decide +kernel
theorem d_Md_isTry_4 : decode b_Md_isTry 4 = .ok (.iload_n 1, 1) := by decide +kernel
theorem d_Md_isTry_5 : decode b_Md_isTry 5 = .ok (.iaload, 1) := by decide +kernel
theorem d_Md_isTry_6 : decode b_Md_isTry 6 = .ok (.istore_n 3, 1) := by decide +kernel
theorem d_Md_isTry_7 : decode b_Md_isTry 7 = .ok (.aload_n 0, 1) := by decide +kernel
theorem d_Md_isTry_8 : decode b_Md_isTry 8 = .ok (.aload_n 0, 1) := by decide +kernel
theorem d_Md_isTry_9 : decode b_Md_isTry 9 = .ok (.getfield 44, 3) := by decide +kernel
theorem d_Md_isTry_12 : decode b_Md_isTry 12 = .ok (.iload_n 3, 1) := by decide +kernel
theorem d_Md_isTry_13 : decode b_Md_isTry 13 = .ok (.iaload, 1) := by decide +kernel
theorem d_Md_isTry_14 : decode b_Md_isTry 14 = .ok (.iload_n 2, 1) := by decide +kernel
theorem d_Md_isTry_15 : decode b_Md_isTry 15 = .ok (.aload_n 0, 1) := by decide +kernel
theorem d_Md_isTry_16 : decode b_Md_isTry 16 = .ok (.iload_n 1, 1) := by decide +kernel
theorem d_Md_isTry_17 : decode b_Md_isTry 17 = .ok (.invokevirtual 202, 3) := by decide +kernel
theorem d_Md_isTry_20 : decode b_Md_isTry 20 = .ok (.aload_n 0, 1) := by decide +kernel
theorem d_Md_isTry_21 : decode b_Md_isTry 21 = .ok (.getfield 53, 3) := by decide +kernel
theorem d_Md_isTry_24 : decode b_Md_isTry 24 = .ok (.iload_n 3, 1) := by decide +kernel
theorem d_Md_isTry_25 : decode b_Md_isTry 25 = .ok (.iaload, 1) := by decide +kernel
theorem d_Md_isTry_26 : decode b_Md_isTry 26 = .ok (.invokevirtual 189, 3) := by decide +kernel
theorem d_Md_isTry_29 : decode b_Md_isTry 29 = .ok (.ifCond .ne 5, 3) := by decide +kernel
theorem d_Md_isTry_32 : decode b_Md_isTry 32 = .ok (.iconst 0, 1) := by decide +kernel
theorem d_Md_isTry_33 : decode b_Md_isTry 33 = .ok (.ireturn, 1) := by decide +kernel
theorem d_Md_isTry_34 : decode b_Md_isTry 34 = .ok (.aload_n 0, 1) := by decide +kernel
theorem d_Md_isTry_35 : decode b_Md_isTry 35 = .ok (.iload_n 1, 1) := by decide +kernel
theorem d_Md_isTry_36 : decode b_Md_isTry 36 = .ok (.invokevirtual 202, 3) := by decide +kernel
theorem d_Md_isTry_39 : decode b_Md_isTry 39 = .ok (.istore 4, 2) := by decide +kernel
theorem d_Md_isTry_41 : decode b_Md_isTry 41 = .ok (.iload 4, 2) := by decide +kernel
theorem d_Md_isTry_43 : decode b_Md_isTry 43 = .ok (.aload_n 0, 1) := by decide +kernel
theorem d_Md_isTry_44 : decode b_Md_isTry 44 = .ok (.getfield 53, 3) := by decide +kernel
theorem d_Md_isTry_47 : decode b_Md_isTry 47 = .ok (.iload_n 3, 1) := by decide +kernel
theorem d_Md_isTry_48 : decode b_Md_isTry 48 = .ok (.iaload, 1) := by decide +kernel
theorem d_Md_isTry_49 : decode b_Md_isTry 49 = .ok (.if_icmp .ge 43, 3) := by decide +kernel
theorem d_Md_isTry_52 : decode b_Md_isTry 52 = .ok (.aload_n 0, 1) := by decide +kernel
theorem d_Md_isTry_53 : decode b_Md_isTry 53 = .ok (.iload_n 2, 1) := by decide +kernel
theorem d_Md_isTry_54 : decode b_Md_isTry 54 = .ok (.iload 4, 2) := by decide +kernel
theorem d_Md_isTry_56 : decode b_Md_isTry 56 = .ok (.invokevirtual 172, 3) := by decide +kernel
theorem d_Md_isTry_59 : decode b_Md_isTry 59 = .ok (.ifCond .ge 25, 3) := by decide +kernel
theorem d_Md_isTry_62 : decode b_Md_isTry 62 = .ok (.aload_n 0, 1) := by decide +kernel
theorem d_Md_isTry_63 : decode b_Md_isTry 63 = .ok (.getfield 32, 3) := by decide +kernel
theorem d_Md_isTry_66 : decode b_Md_isTry 66 = .ok (.aload_n 0, 1) := by decide +kernel
theorem d_Md_isTry_67 : decode b_Md_isTry 67 = .ok (.getfield 206, 3) := by decide +kernel
theorem d_Md_isTry_70 : decode b_Md_isTry 70 = .ok (.iaload, 1) := by decide +kernel
theorem d_Md_isTry_71 : decode b_Md_isTry 71 = .ok (.iload_n 2, 1) := by decide +kernel
theorem d_Md_isTry_72 : decode b_Md_isTry 72 = .ok (.if_icmp .ne 14, 3) := by decide +kernel
theorem d_Md_isTry_75 : decode b_Md_isTry 75 = .ok (.iload 4, 2) := by decide +kernel
theorem d_Md_isTry_77 : decode b_Md_isTry 77 = .ok (.aload_n 0, 1) := by decide +kernel
theorem d_Md_isTry_78 : decode b_Md_isTry 78 = .ok (.getfield 209, 3) := by decide +kernel
theorem d_Md_isTry_81 : decode b_Md_isTry 81 = .ok (.if_icmp .ge 5, 3) := by decide +kernel
theorem d_Md_isTry_84 : decode b_Md_isTry 84 = .ok (.iconst 0, 1) := by decide +kernel
theorem d_Md_isTry_85 : decode b_Md_isTry 85 = .ok (.ireturn, 1) := by decide +kernel
theorem d_Md_isTry_86 : decode b_Md_isTry 86 = .ok (.iinc 4 1, 3) := by decide +kernel
theorem d_Md_isTry_89 : decode b_Md_isTry 89 = .ok (.goto (-48), 3) := by decide +kernel
theorem d_Md_isTry_92 : decode b_Md_isTry 92 = .ok (.iconst 0, 1) := by decide +kernel
theorem d_Md_isTry_93 : decode b_Md_isTry 93 = .ok (.istore 4, 2) := by decide +kernel
theorem d_Md_isTry_95 : decode b_Md_isTry 95 = .ok (.iload 4, 2) := by decide +kernel
theorem d_Md_isTry_97 : decode b_Md_isTry 97 = .ok (.iload_n 1, 1) := by decide +kernel
theorem d_Md_isTry_98 : decode b_Md_isTry 98 = .ok (.if_icmp .ge 57, 3) := by decide +kernel
theorem d_Md_isTry_101 : decode b_Md_isTry 101 = .ok (.aload_n 0, 1) := by decide +kernel
theorem d_Md_isTry_102 : decode b_Md_isTry 102 = .ok (.getfield 59, 3) := by decide +kernel
theorem d_Md_isTry_105 : decode b_Md_isTry 105 = .ok (.iload 4, 2) := by decide +kernel
theorem d_Md_isTry_107 : decode b_Md_isTry 107 = .ok (.iaload, 1) := by decide +kernel
theorem d_Md_isTry_108 : decode b_Md_isTry 108 = .ok (.iload_n 2, 1) := by decide +kernel
theorem d_Md_isTry_109 : decode b_Md_isTry 109 = .ok (.if_icmp .ne 40, 3) := by decide +kernel
theorem d_Md_isTry_112 : decode b_Md_isTry 112 = .ok (.aload_n 0, 1) := by decide +kernel
theorem d_Md_isTry_113 : decode b_Md_isTry 113 = .ok (.iload 4, 2) := by decide +kernel
theorem d_Md_isTry_115 : decode b_Md_isTry 115 = .ok (.invokevirtual 202, 3) := by decide +kernel
theorem d_Md_isTry_118 : decode b_Md_isTry 118 = .ok (.aload_n 0, 1) := by decide +kernel
theorem d_Md_isTry_119 : decode b_Md_isTry 119 = .ok (.getfield 53, 3) := by decide +kernel
theorem d_Md_isTry_122 : decode b_Md_isTry 122 = .ok (.iload_n 3, 1) := by decide +kernel
theorem d_Md_isTry_123 : decode b_Md_isTry 123 = .ok (.iaload, 1) := by decide +kernel
theorem d_Md_isTry_124 : decode b_Md_isTry 124 = .ok (.if_icmp .ge 25, 3) := by decide +kernel
theorem d_Md_isTry_127 : decode b_Md_isTry 127 = .ok (.aload_n 0, 1) := by decide +kernel
theorem d_Md_isTry_128 : decode b_Md_isTry 128 = .ok (.iload_n 1, 1) := by decide +kernel
theorem d_Md_isTry_129 : decode b_Md_isTry 129 = .ok (.invokevirtual 202, 3) := by decide +kernel
theorem d_Md_isTry_132 : decode b_Md_isTry 132 = .ok (.aload_n 0, 1) := by decide +kernel
theorem d_Md_isTry_133 : decode b_Md_isTry 133 = .ok (.getfield 53, 3) := by decide +kernel
theorem d_Md_isTry_136 : decode b_Md_isTry 136 = .ok (.aload_n 0, 1) := by decide +kernel
theorem d_Md_isTry_137 : decode b_Md_isTry 137 = .ok (.getfield 56, 3) := by decide +kernel
theorem d_Md_isTry_140 : decode b_Md_isTry 140 = .ok (.iload 4, 2) := by decide +kernel
theorem d_Md_isTry_142 : decode b_Md_isTry 142 = .ok (.iaload, 1) := by decide +kernel
theorem d_Md_isTry_143 : decode b_Md_isTry 143 = .ok (.iaload, 1) := by decide +kernel
theorem d_Md_isTry_144 : decode b_Md_isTry 144 = .ok (.if_icmp .ge 5, 3) := by decide +kernel
theorem d_Md_isTry_147 : decode b_Md_isTry 147 = .ok (.iconst 0, 1) := by decide +kernel
theorem d_Md_isTry_148 : decode b_Md_isTry 148 = .ok (.ireturn, 1) := by decide +kernel
theorem d_Md_isTry_149 : decode b_Md_isTry 149 = .ok (.iinc 4 1, 3) := by decide +kernel
theorem d_Md_isTry_152 : decode b_Md_isTry 152 = .ok (.goto (-57), 3) := by decide +kernel
theorem d_Md_isTry_155 : decode b_Md_isTry 155 = .ok (.iconst 1, 1) := by decide +kernel
theorem d_Md_isTry_156 : decode b_Md_isTry 156 = .ok (.ireturn, 1) := by decide +kernel
