abbrev y_Hb_stayOf : MethodName := ⟨"SmallHarbour", "stayOf", "(II)I"⟩
abbrev b_Hb_stayOf : ByteArray := prog_1_method_14_code
theorem mi_Hb_stayOf : MI y_Hb_stayOf b_Hb_stayOf 3 (some .int) 2 := ⟨w_611, w_1, by decide +kernel, by decide, by decide⟩
theorem mv_Hb_stayOf : MV y_Hb_stayOf := ⟨w_609, w_610⟩
theorem d_Hb_stayOf_0 : decode b_Hb_stayOf 0 = .ok (.aload_n 0, 1) := by decide +kernel
theorem d_Hb_stayOf_1 : decode b_Hb_stayOf 1 = .ok (.getfield 40, 3) := by decide +kernel
theorem d_Hb_stayOf_4 : decode b_Hb_stayOf 4 = .ok (.iload_n 1, 1) := by decide +kernel
theorem d_Hb_stayOf_5 : decode b_Hb_stayOf 5 = .ok (.invokevirtual 182, 3) := by decide +kernel
theorem d_Hb_stayOf_8 : decode b_Hb_stayOf 8 = .ok (.ifCond .ne 5, 3) := by decide +kernel
theorem d_Hb_stayOf_11 : decode b_Hb_stayOf 11 = .ok (.iconst (-1), 1) := by decide +kernel
theorem d_Hb_stayOf_12 : decode b_Hb_stayOf 12 = .ok (.ireturn, 1) := by decide +kernel
theorem d_Hb_stayOf_13 : decode b_Hb_stayOf 13 = .ok (.iload_n 2, 1) := by decide +kernel
theorem d_Hb_stayOf_14 : decode b_Hb_stayOf 14 = .ok (.tableswitch 80 0 4 #[34, 44, 54, 64, 74], 34) := by decide +kernel
theorem d_Hb_stayOf_48 : decode b_Hb_stayOf 48 = .ok (.aload_n 0, 1) := by decide +kernel
theorem d_Hb_stayOf_49 : decode b_Hb_stayOf 49 = .ok (.getfield 40, 3) := by decide +kernel
theorem d_Hb_stayOf_52 : decode b_Hb_stayOf 52 = .ok (.getfield 163, 3) := by decide +kernel
theorem d_Hb_stayOf_55 : decode b_Hb_stayOf 55 = .ok (.iload_n 1, 1) := by decide +kernel
theorem d_Hb_stayOf_56 : decode b_Hb_stayOf 56 = .ok (.iaload, 1) := by decide +kernel
theorem d_Hb_stayOf_57 : decode b_Hb_stayOf 57 = .ok (.ireturn, 1) := by decide +kernel
theorem d_Hb_stayOf_58 : decode b_Hb_stayOf 58 = .ok (.aload_n 0, 1) := by decide +kernel
theorem d_Hb_stayOf_59 : decode b_Hb_stayOf 59 = .ok (.getfield 40, 3) := by decide +kernel
theorem d_Hb_stayOf_62 : decode b_Hb_stayOf 62 = .ok (.getfield 202, 3) := by decide +kernel
theorem d_Hb_stayOf_65 : decode b_Hb_stayOf 65 = .ok (.iload_n 1, 1) := by decide +kernel
theorem d_Hb_stayOf_66 : decode b_Hb_stayOf 66 = .ok (.iaload, 1) := by decide +kernel
theorem d_Hb_stayOf_67 : decode b_Hb_stayOf 67 = .ok (.ireturn, 1) := by decide +kernel
theorem d_Hb_stayOf_68 : decode b_Hb_stayOf 68 = .ok (.aload_n 0, 1) := by decide +kernel
theorem d_Hb_stayOf_69 : decode b_Hb_stayOf 69 = .ok (.getfield 40, 3) := by decide +kernel
theorem d_Hb_stayOf_72 : decode b_Hb_stayOf 72 = .ok (.getfield 183, 3) := by decide +kernel
theorem d_Hb_stayOf_75 : decode b_Hb_stayOf 75 = .ok (.iload_n 1, 1) := by decide +kernel
theorem d_Hb_stayOf_76 : decode b_Hb_stayOf 76 = .ok (.iaload, 1) := by decide +kernel
theorem d_Hb_stayOf_77 : decode b_Hb_stayOf 77 = .ok (.ireturn, 1) := by decide +kernel
theorem d_Hb_stayOf_78 : decode b_Hb_stayOf 78 = .ok (.aload_n 0, 1) := by decide +kernel
theorem d_Hb_stayOf_79 : decode b_Hb_stayOf 79 = .ok (.getfield 40, 3) := by decide +kernel
theorem d_Hb_stayOf_82 : decode b_Hb_stayOf 82 = .ok (.getfield 186, 3) := by decide +kernel
theorem d_Hb_stayOf_85 : decode b_Hb_stayOf 85 = .ok (.iload_n 1, 1) := by decide +kernel
theorem d_Hb_stayOf_86 : decode b_Hb_stayOf 86 = .ok (.iaload, 1) := by decide +kernel
theorem d_Hb_stayOf_87 : decode b_Hb_stayOf 87 = .ok (.ireturn, 1) := by decide +kernel
theorem d_Hb_stayOf_88 : decode b_Hb_stayOf 88 = .ok (.aload_n 0, 1) := by decide +kernel
theorem d_Hb_stayOf_89 : decode b_Hb_stayOf 89 = .ok (.iload_n 1, 1) := by decide +kernel
theorem d_Hb_stayOf_90 : decode b_Hb_stayOf 90 = .ok (.invokevirtual 205, 3) := by decide +kernel
theorem d_Hb_stayOf_93 : decode b_Hb_stayOf 93 = .ok (.ireturn, 1) := by decide +kernel
theorem d_Hb_stayOf_94 : decode b_Hb_stayOf 94 = .ok (.iconst (-1), 1) := by decide +kernel
theorem d_Hb_stayOf_95 : decode b_Hb_stayOf 95 = .ok (.ireturn, 1) := by decide +kernel
abbrev y_Shed_isIn : MethodName := ⟨"SmallHarbour$Shed", "isIn", "(I)Z"⟩
abbrev b_Shed_isIn : ByteArray := prog_7_method_5_code
theorem mi_Shed_isIn : MI y_Shed_isIn b_Shed_isIn 3 (some .boolean) 1 := ⟨w_694, w_9, by decide +kernel, by decide, by decide⟩
theorem mv_Shed_isIn : MV y_Shed_isIn := ⟨w_693, w_s1_15⟩
theorem d_Shed_isIn_0 : decode b_Shed_isIn 0 = .ok (.iconst 0, 1) := by decide +kernel
theorem d_Shed_isIn_1 : decode b_Shed_isIn 1 = .ok (.istore_n 2, 1) := by decide +kernel
theorem d_Shed_isIn_2 : decode b_Shed_isIn 2 = .ok (.iload_n 2, 1) := by decide +kernel
theorem d_Shed_isIn_3 : decode b_Shed_isIn 3 = .ok (.aload_n 0, 1) := by decide +kernel
theorem d_Shed_isIn_4 : decode b_Shed_isIn 4 = .ok (.getfield 9, 3) := by decide +kernel
theorem d_Shed_isIn_7 : decode b_Shed_isIn 7 = .ok (.if_icmp .ge 21, 3) := by decide +kernel
theorem d_Shed_isIn_10 : decode b_Shed_isIn 10 = .ok (.aload_n 0, 1) := by decide +kernel
theorem d_Shed_isIn_11 : decode b_Shed_isIn 11 = .ok (.getfield 28, 3) := by decide +kernel
theorem d_Shed_isIn_14 : decode b_Shed_isIn 14 = .ok (.iload_n 2, 1) := by decide +kernel
theorem d_Shed_isIn_15 : decode b_Shed_isIn 15 = .ok (.iaload, 1) := by decide +kernel
theorem d_Shed_isIn_16 : decode b_Shed_isIn 16 = .ok (.iload_n 1, 1) := by decide +kernel
theorem d_Shed_isIn_17 : decode b_Shed_isIn 17 = .ok (.if_icmp .ne 5, 3) := by decide +kernel
theorem d_Shed_isIn_20 : decode b_Shed_isIn 20 = .ok (.iconst 1, 1) := by decide +kernel
theorem d_Shed_isIn_21 : decode b_Shed_isIn 21 = .ok (.ireturn, 1) := by decide +kernel
theorem d_Shed_isIn_22 : decode b_Shed_isIn 22 = .ok (.iinc 2 1, 3) := by decide +kernel
theorem d_Shed_isIn_25 : decode b_Shed_isIn 25 = .ok (.goto (-23), 3) := by decide +kernel
theorem d_Shed_isIn_28 : decode b_Shed_isIn 28 = .ok (.iconst 0, 1) := by decide +kernel
theorem d_Shed_isIn_29 : decode b_Shed_isIn 29 = .ok (.ireturn, 1) := by decide +kernel
abbrev y_Shed_movesBy : MethodName := ⟨"SmallHarbour$Shed", "movesBy", "(II)I"⟩
abbrev b_Shed_movesBy : ByteArray := prog_7_method_7_code
theorem mi_Shed_movesBy : MI y_Shed_movesBy b_Shed_movesBy 5 (some .int) 2 := ⟨w_703, w_9, by decide +kernel, by decide, by decide⟩
theorem mv_Shed_movesBy : MV y_Shed_movesBy := ⟨w_702, w_s2_1⟩
theorem d_Shed_movesBy_0 : decode b_Shed_movesBy 0 = .ok (.iconst 0, 1) := by decide +kernel
theorem d_Shed_movesBy_1 : decode b_Shed_movesBy 1 = .ok (.istore_n 3, 1) := by decide +kernel
theorem d_Shed_movesBy_2 : decode b_Shed_movesBy 2 = .ok (.iconst 0, 1) := by decide +kernel
theorem d_Shed_movesBy_3 : decode b_Shed_movesBy 3 = .ok (.istore 4, 2) := by decide +kernel
theorem d_Shed_movesBy_5 : decode b_Shed_movesBy 5 = .ok (.iload 4, 2) := by decide +kernel
theorem d_Shed_movesBy_7 : decode b_Shed_movesBy 7 = .ok (.iload_n 1, 1) := by decide +kernel
theorem d_Shed_movesBy_8 : decode b_Shed_movesBy 8 = .ok (.if_icmp .ge 39, 3) := by decide +kernel
theorem d_Shed_movesBy_11 : decode b_Shed_movesBy 11 = .ok (.aload_n 0, 1) := by decide +kernel
theorem d_Shed_movesBy_12 : decode b_Shed_movesBy 12 = .ok (.getfield 37, 3) := by decide +kernel
theorem d_Shed_movesBy_15 : decode b_Shed_movesBy 15 = .ok (.iload 4, 2) := by decide +kernel
theorem d_Shed_movesBy_17 : decode b_Shed_movesBy 17 = .ok (.iaload, 1) := by decide +kernel
theorem d_Shed_movesBy_18 : decode b_Shed_movesBy 18 = .ok (.iload_n 2, 1) := by decide +kernel
theorem d_Shed_movesBy_19 : decode b_Shed_movesBy 19 = .ok (.if_icmp .ne 22, 3) := by decide +kernel
theorem d_Shed_movesBy_22 : decode b_Shed_movesBy 22 = .ok (.aload_n 0, 1) := by decide +kernel
theorem d_Shed_movesBy_23 : decode b_Shed_movesBy 23 = .ok (.getfield 34, 3) := by decide +kernel
theorem d_Shed_movesBy_26 : decode b_Shed_movesBy 26 = .ok (.iload 4, 2) := by decide +kernel
theorem d_Shed_movesBy_28 : decode b_Shed_movesBy 28 = .ok (.iaload, 1) := by decide +kernel
theorem d_Shed_movesBy_29 : decode b_Shed_movesBy 29 = .ok (.aload_n 0, 1) := by decide +kernel
theorem d_Shed_movesBy_30 : decode b_Shed_movesBy 30 = .ok (.getfield 34, 3) := by decide +kernel
theorem d_Shed_movesBy_33 : decode b_Shed_movesBy 33 = .ok (.iload_n 1, 1) := by decide +kernel
theorem d_Shed_movesBy_34 : decode b_Shed_movesBy 34 = .ok (.iaload, 1) := by decide +kernel
theorem d_Shed_movesBy_35 : decode b_Shed_movesBy 35 = .ok (.if_icmp .ge 6, 3) := by decide +kernel
theorem d_Shed_movesBy_38 : decode b_Shed_movesBy 38 = .ok (.iinc 3 1, 3) := by decide +kernel
theorem d_Shed_movesBy_41 : decode b_Shed_movesBy 41 = .ok (.iinc 4 1, 3) := by decide +kernel
theorem d_Shed_movesBy_44 : decode b_Shed_movesBy 44 = .ok (.goto (-39), 3) := by decide +kernel
theorem d_Shed_movesBy_47 : decode b_Shed_movesBy 47 = .ok (.iload_n 3, 1) := by decide +kernel
theorem d_Shed_movesBy_48 : decode b_Shed_movesBy 48 = .ok (.ireturn, 1) := by decide +kernel
abbrev y_Shed_putFrom : MethodName := ⟨"SmallHarbour$Shed", "putFrom", "(III)V"⟩
abbrev b_Shed_putFrom : ByteArray := prog_7_method_6_code
theorem mi_Shed_putFrom : MI y_Shed_putFrom b_Shed_putFrom 6 none 3 := ⟨w_698, w_9, by decide +kernel, by decide, by decide⟩
theorem mv_Shed_putFrom : MV y_Shed_putFrom := ⟨w_697, w_s2_0⟩
theorem d_Shed_putFrom_0 : decode b_Shed_putFrom 0 = .ok (.iload_n 1, 1) := by decide +kernel
theorem d_Shed_putFrom_1 : decode b_Shed_putFrom 1 = .ok (.aload_n 0, 1) := by decide +kernel
theorem d_Shed_putFrom_2 : decode b_Shed_putFrom 2 = .ok (.getfield 9, 3) := by decide +kernel
theorem d_Shed_putFrom_5 : decode b_Shed_putFrom 5 = .ok (.if_icmp .lt 26, 3) := by decide +kernel
theorem d_Shed_putFrom_8 : decode b_Shed_putFrom 8 = .ok (.aload_n 0, 1) := by decide +kernel
theorem d_Shed_putFrom_9 : decode b_Shed_putFrom 9 = .ok (.iload_n 3, 1) := by decide +kernel
theorem d_Shed_putFrom_10 : decode b_Shed_putFrom 10 = .ok (.putfield 15, 3) := by decide +kernel
theorem d_Shed_putFrom_13 : decode b_Shed_putFrom 13 = .ok (.aload_n 0, 1) := by decide +kernel
theorem d_Shed_putFrom_14 : decode b_Shed_putFrom 14 = .ok (.getfield 37, 3) := by decide +kernel
theorem d_Shed_putFrom_17 : decode b_Shed_putFrom 17 = .ok (.iconst 0, 1) := by decide +kernel
theorem d_Shed_putFrom_18 : decode b_Shed_putFrom 18 = .ok (.aload_n 0, 1) := by decide +kernel
theorem d_Shed_putFrom_19 : decode b_Shed_putFrom 19 = .ok (.getfield 18, 3) := by decide +kernel
theorem d_Shed_putFrom_22 : decode b_Shed_putFrom 22 = .ok (.iconst 0, 1) := by decide +kernel
theorem d_Shed_putFrom_23 : decode b_Shed_putFrom 23 = .ok (.aload_n 0, 1) := by decide +kernel
theorem d_Shed_putFrom_24 : decode b_Shed_putFrom 24 = .ok (.getfield 9, 3) := by decide +kernel
theorem d_Shed_putFrom_27 : decode b_Shed_putFrom 27 = .ok (.invokestatic 55, 3) := by decide +kernel
theorem d_Shed_putFrom_30 : decode b_Shed_putFrom 30 = .ok (.return_, 1) := by decide +kernel
theorem d_Shed_putFrom_31 : decode b_Shed_putFrom 31 = .ok (.iconst 0, 1) := by decide +kernel
theorem d_Shed_putFrom_32 : decode b_Shed_putFrom 32 = .ok (.istore 4, 2) := by decide +kernel
theorem d_Shed_putFrom_34 : decode b_Shed_putFrom 34 = .ok (.iload 4, 2) := by decide +kernel
theorem d_Shed_putFrom_36 : decode b_Shed_putFrom 36 = .ok (.aload_n 0, 1) := by decide +kernel
theorem d_Shed_putFrom_37 : decode b_Shed_putFrom 37 = .ok (.getfield 22, 3) := by decide +kernel
theorem d_Shed_putFrom_40 : decode b_Shed_putFrom 40 = .ok (.if_icmp .ge 116, 3) := by decide +kernel
theorem d_Shed_putFrom_43 : decode b_Shed_putFrom 43 = .ok (.iload 4, 2) := by decide +kernel
theorem d_Shed_putFrom_45 : decode b_Shed_putFrom 45 = .ok (.iload_n 2, 1) := by decide +kernel
theorem d_Shed_putFrom_46 : decode b_Shed_putFrom 46 = .ok (.if_icmp .gt 110, 3) := by decide +kernel
theorem d_Shed_putFrom_49 : decode b_Shed_putFrom 49 = .ok (.iload_n 3, 1) := by decide +kernel
theorem d_Shed_putFrom_50 : decode b_Shed_putFrom 50 = .ok (.aload_n 0, 1) := by decide +kernel
theorem d_Shed_putFrom_51 : decode b_Shed_putFrom 51 = .ok (.iload_n 1, 1) := by decide +kernel
theorem d_Shed_putFrom_52 : decode b_Shed_putFrom 52 = .ok (.iload 4, 2) := by decide +kernel
theorem d_Shed_putFrom_54 : decode b_Shed_putFrom 54 = .ok (.invokevirtual 61, 3) := by decide +kernel
theorem d_Shed_putFrom_57 : decode b_Shed_putFrom 57 = .ok (.iadd, 1) := by decide +kernel
theorem d_Shed_putFrom_58 : decode b_Shed_putFrom 58 = .ok (.istore 5, 2) := by decide +kernel
theorem d_Shed_putFrom_60 : decode b_Shed_putFrom 60 = .ok (.aload_n 0, 1) := by decide +kernel
theorem d_Shed_putFrom_61 : decode b_Shed_putFrom 61 = .ok (.getfield 40, 3) := by decide +kernel
theorem d_Shed_putFrom_64 : decode b_Shed_putFrom 64 = .ok (.iload 4, 2) := by decide +kernel
theorem d_Shed_putFrom_66 : decode b_Shed_putFrom 66 = .ok (.iaload, 1) := by decide +kernel
theorem d_Shed_putFrom_67 : decode b_Shed_putFrom 67 = .ok (.aload_n 0, 1) := by decide +kernel
theorem d_Shed_putFrom_68 : decode b_Shed_putFrom 68 = .ok (.getfield 31, 3) := by decide +kernel
theorem d_Shed_putFrom_71 : decode b_Shed_putFrom 71 = .ok (.iload_n 1, 1) := by decide +kernel
theorem d_Shed_putFrom_72 : decode b_Shed_putFrom 72 = .ok (.iaload, 1) := by decide +kernel
theorem d_Shed_putFrom_73 : decode b_Shed_putFrom 73 = .ok (.iadd, 1) := by decide +kernel
theorem d_Shed_putFrom_74 : decode b_Shed_putFrom 74 = .ok (.aload_n 0, 1) := by decide +kernel
theorem d_Shed_putFrom_75 : decode b_Shed_putFrom 75 = .ok (.getfield 25, 3) := by decide +kernel
theorem d_Shed_putFrom_78 : decode b_Shed_putFrom 78 = .ok (.if_icmp .gt 72, 3) := by decide +kernel
theorem d_Shed_putFrom_81 : decode b_Shed_putFrom 81 = .ok (.iload 5, 2) := by decide +kernel
theorem d_Shed_putFrom_83 : decode b_Shed_putFrom 83 = .ok (.aload_n 0, 1) := by decide +kernel
theorem d_Shed_putFrom_84 : decode b_Shed_putFrom 84 = .ok (.getfield 15, 3) := by decide +kernel
theorem d_Shed_putFrom_87 : decode b_Shed_putFrom 87 = .ok (.if_icmp .lt 6, 3) := by decide +kernel
theorem d_Shed_putFrom_90 : decode b_Shed_putFrom 90 = .ok (.goto 60, 3) := by decide +kernel
theorem d_Shed_putFrom_93 : decode b_Shed_putFrom 93 = .ok (.aload_n 0, 1) := by decide +kernel
theorem d_Shed_putFrom_94 : decode b_Shed_putFrom 94 = .ok (.getfield 37, 3) := by decide +kernel
theorem d_Shed_putFrom_97 : decode b_Shed_putFrom 97 = .ok (.iload_n 1, 1) := by decide +kernel
theorem d_Shed_putFrom_98 : decode b_Shed_putFrom 98 = .ok (.iload 4, 2) := by decide +kernel
theorem d_Shed_putFrom_100 : decode b_Shed_putFrom 100 = .ok (.iastore, 1) := by decide +kernel
theorem d_Shed_putFrom_101 : decode b_Shed_putFrom 101 = .ok (.aload_n 0, 1) := by decide +kernel
theorem d_Shed_putFrom_102 : decode b_Shed_putFrom 102 = .ok (.getfield 40, 3) := by decide +kernel
theorem d_Shed_putFrom_105 : decode b_Shed_putFrom 105 = .ok (.iload 4, 2) := by decide +kernel
theorem d_Shed_putFrom_107 : decode b_Shed_putFrom 107 = .ok (.dup2, 1) := by decide +kernel
theorem d_Shed_putFrom_108 : decode b_Shed_putFrom 108 = .ok (.iaload, 1) := by decide +kernel
theorem d_Shed_putFrom_109 : decode b_Shed_putFrom 109 = .ok (.aload_n 0, 1) := by decide +kernel
theorem d_Shed_putFrom_110 : decode b_Shed_putFrom 110 = .ok (.getfield 31, 3) := by decide +kernel
theorem d_Shed_putFrom_113 : decode b_Shed_putFrom 113 = .ok (.iload_n 1, 1) := by decide +kernel
theorem d_Shed_putFrom_114 : decode b_Shed_putFrom 114 = .ok (.iaload, 1) := by decide +kernel
theorem d_Shed_putFrom_115 : decode b_Shed_putFrom 115 = .ok (.iadd, 1) := by decide +kernel
theorem d_Shed_putFrom_116 : decode b_Shed_putFrom 116 = .ok (.iastore, 1) := by decide +kernel
theorem d_Shed_putFrom_117 : decode b_Shed_putFrom 117 = .ok (.aload_n 0, 1) := by decide +kernel
theorem d_Shed_putFrom_118 : decode b_Shed_putFrom 118 = .ok (.iload_n 1, 1) := by decide +kernel
theorem d_Shed_putFrom_119 : decode b_Shed_putFrom 119 = .ok (.iconst 1, 1) := by decide +kernel
theorem d_Shed_putFrom_120 : decode b_Shed_putFrom 120 = .ok (.iadd, 1) := by decide +kernel
theorem d_Shed_putFrom_121 : decode b_Shed_putFrom 121 = .ok (.iload_n 2, 1) := by decide +kernel
theorem d_Shed_putFrom_122 : decode b_Shed_putFrom 122 = .ok (.iload 4, 2) := by decide +kernel
theorem d_Shed_putFrom_124 : decode b_Shed_putFrom 124 = .ok (.iconst 1, 1) := by decide +kernel
theorem d_Shed_putFrom_125 : decode b_Shed_putFrom 125 = .ok (.iadd, 1) := by decide +kernel
theorem d_Shed_putFrom_126 : decode b_Shed_putFrom 126 = .ok (.invokestatic 65, 3) := by decide +kernel
theorem d_Shed_putFrom_129 : decode b_Shed_putFrom 129 = .ok (.iload 5, 2) := by decide +kernel
theorem d_Shed_putFrom_131 : decode b_Shed_putFrom 131 = .ok (.invokevirtual 51, 3) := by decide +kernel
theorem d_Shed_putFrom_134 : decode b_Shed_putFrom 134 = .ok (.aload_n 0, 1) := by decide +kernel
theorem d_Shed_putFrom_135 : decode b_Shed_putFrom 135 = .ok (.getfield 40, 3) := by decide +kernel
theorem d_Shed_putFrom_138 : decode b_Shed_putFrom 138 = .ok (.iload 4, 2) := by decide +kernel
theorem d_Shed_putFrom_140 : decode b_Shed_putFrom 140 = .ok (.dup2, 1) := by decide +kernel
theorem d_Shed_putFrom_141 : decode b_Shed_putFrom 141 = .ok (.iaload, 1) := by decide +kernel
theorem d_Shed_putFrom_142 : decode b_Shed_putFrom 142 = .ok (.aload_n 0, 1) := by decide +kernel
theorem d_Shed_putFrom_143 : decode b_Shed_putFrom 143 = .ok (.getfield 31, 3) := by decide +kernel
theorem d_Shed_putFrom_146 : decode b_Shed_putFrom 146 = .ok (.iload_n 1, 1) := by decide +kernel
theorem d_Shed_putFrom_147 : decode b_Shed_putFrom 147 = .ok (.iaload, 1) := by decide +kernel
theorem d_Shed_putFrom_148 : decode b_Shed_putFrom 148 = .ok (.isub, 1) := by decide +kernel
theorem d_Shed_putFrom_149 : decode b_Shed_putFrom 149 = .ok (.iastore, 1) := by decide +kernel
theorem d_Shed_putFrom_150 : decode b_Shed_putFrom 150 = .ok (.iinc 4 1, 3) := by decide +kernel
theorem d_Shed_putFrom_153 : decode b_Shed_putFrom 153 = .ok (.goto (-119), 3) := by decide +kernel
theorem d_Shed_putFrom_156 : decode b_Shed_putFrom 156 = .ok (.return_, 1) := by decide +kernel
abbrev y_Shed_add : MethodName := ⟨"SmallHarbour$Shed", "add", "(III)I"⟩
abbrev b_Shed_add : ByteArray := prog_7_method_3_code
theorem mi_Shed_add : MI y_Shed_add b_Shed_add 4 (some .int) 3 := ⟨w_690, w_9, by decide +kernel, by decide, by decide⟩
theorem mv_Shed_add : MV y_Shed_add := ⟨w_688, w_689⟩
theorem d_Shed_add_0 : decode b_Shed_add 0 = .ok (.aload_n 0, 1) := by decide +kernel
theorem d_Shed_add_1 : decode b_Shed_add 1 = .ok (.getfield 9, 3) := by decide +kernel
theorem d_Shed_add_4 : decode b_Shed_add 4 = .ok (.bipush 9, 2) := by decide +kernel
theorem d_Shed_add_6 : decode b_Shed_add 6 = .ok (.if_icmp .ge 11, 3) := by decide +kernel
theorem d_Shed_add_9 : decode b_Shed_add 9 = .ok (.aload_n 0, 1) := by decide +kernel
theorem d_Shed_add_10 : decode b_Shed_add 10 = .ok (.iload_n 1, 1) := by decide +kernel
theorem d_Shed_add_11 : decode b_Shed_add 11 = .ok (.invokevirtual 47, 3) := by decide +kernel
theorem d_Shed_add_14 : decode b_Shed_add 14 = .ok (.ifCond .eq 5, 3) := by decide +kernel
theorem d_Shed_add_17 : decode b_Shed_add 17 = .ok (.iconst (-1), 1) := by decide +kernel
theorem d_Shed_add_18 : decode b_Shed_add 18 = .ok (.ireturn, 1) := by decide +kernel
theorem d_Shed_add_19 : decode b_Shed_add 19 = .ok (.aload_n 0, 1) := by decide +kernel
theorem d_Shed_add_20 : decode b_Shed_add 20 = .ok (.getfield 28, 3) := by decide +kernel
theorem d_Shed_add_23 : decode b_Shed_add 23 = .ok (.aload_n 0, 1) := by decide +kernel
theorem d_Shed_add_24 : decode b_Shed_add 24 = .ok (.getfield 9, 3) := by decide +kernel
theorem d_Shed_add_27 : decode b_Shed_add 27 = .ok (.iload_n 1, 1) := by decide +kernel
theorem d_Shed_add_28 : decode b_Shed_add 28 = .ok (.iastore, 1) := by decide +kernel
theorem d_Shed_add_29 : decode b_Shed_add 29 = .ok (.aload_n 0, 1) := by decide +kernel
theorem d_Shed_add_30 : decode b_Shed_add 30 = .ok (.getfield 31, 3) := by decide +kernel
theorem d_Shed_add_33 : decode b_Shed_add 33 = .ok (.aload_n 0, 1) := by decide +kernel
theorem d_Shed_add_34 : decode b_Shed_add 34 = .ok (.getfield 9, 3) := by decide +kernel
theorem d_Shed_add_37 : decode b_Shed_add 37 = .ok (.iload_n 2, 1) := by decide +kernel
theorem d_Shed_add_38 : decode b_Shed_add 38 = .ok (.iastore, 1) := by decide +kernel
theorem d_Shed_add_39 : decode b_Shed_add 39 = .ok (.aload_n 0, 1) := by decide +kernel
theorem d_Shed_add_40 : decode b_Shed_add 40 = .ok (.getfield 34, 3) := by decide +kernel
theorem d_Shed_add_43 : decode b_Shed_add 43 = .ok (.aload_n 0, 1) := by decide +kernel
theorem d_Shed_add_44 : decode b_Shed_add 44 = .ok (.getfield 9, 3) := by decide +kernel
theorem d_Shed_add_47 : decode b_Shed_add 47 = .ok (.iload_n 3, 1) := by decide +kernel
theorem d_Shed_add_48 : decode b_Shed_add 48 = .ok (.iastore, 1) := by decide +kernel
theorem d_Shed_add_49 : decode b_Shed_add 49 = .ok (.aload_n 0, 1) := by decide +kernel
theorem d_Shed_add_50 : decode b_Shed_add 50 = .ok (.dup, 1) := by decide +kernel
theorem d_Shed_add_51 : decode b_Shed_add 51 = .ok (.getfield 9, 3) := by decide +kernel
theorem d_Shed_add_54 : decode b_Shed_add 54 = .ok (.iconst 1, 1) := by decide +kernel
theorem d_Shed_add_55 : decode b_Shed_add 55 = .ok (.iadd, 1) := by decide +kernel
theorem d_Shed_add_56 : decode b_Shed_add 56 = .ok (.putfield 9, 3) := by decide +kernel
theorem d_Shed_add_59 : decode b_Shed_add 59 = .ok (.aload_n 0, 1) := by decide +kernel
theorem d_Shed_add_60 : decode b_Shed_add 60 = .ok (.bipush 81, 2) := by decide +kernel
theorem d_Shed_add_62 : decode b_Shed_add 62 = .ok (.putfield 15, 3) := by decide +kernel
theorem d_Shed_add_65 : decode b_Shed_add 65 = .ok (.aload_n 0, 1) := by decide +kernel
theorem d_Shed_add_66 : decode b_Shed_add 66 = .ok (.iconst 0, 1) := by decide +kernel
theorem d_Shed_add_67 : decode b_Shed_add 67 = .ok (.iconst 0, 1) := by decide +kernel
theorem d_Shed_add_68 : decode b_Shed_add 68 = .ok (.iconst 0, 1) := by decide +kernel
theorem d_Shed_add_69 : decode b_Shed_add 69 = .ok (.invokevirtual 51, 3) := by decide +kernel
theorem d_Shed_add_72 : decode b_Shed_add 72 = .ok (.aload_n 0, 1) := by decide +kernel
theorem d_Shed_add_73 : decode b_Shed_add 73 = .ok (.getfield 9, 3) := by decide +kernel
theorem d_Shed_add_76 : decode b_Shed_add 76 = .ok (.ireturn, 1) := by decide +kernel
abbrev y_Hb_winter : MethodName := ⟨"SmallHarbour", "winter", "(II)I"⟩
abbrev b_Hb_winter : ByteArray := prog_1_method_20_code
theorem mi_Hb_winter : MI y_Hb_winter b_Hb_winter 3 (some .int) 2 := ⟨w_686, w_1, by decide +kernel, by decide, by decide⟩
theorem mv_Hb_winter : MV y_Hb_winter := ⟨w_684, w_685⟩
theorem d_Hb_winter_0 : decode b_Hb_winter 0 = .ok (.aload_n 0, 1) := by decide +kernel
theorem d_Hb_winter_1 : decode b_Hb_winter 1 = .ok (.getfield 26, 3) := by decide +kernel
theorem d_Hb_winter_4 : decode b_Hb_winter 4 = .ok (.iload_n 1, 1) := by decide +kernel
theorem d_Hb_winter_5 : decode b_Hb_winter 5 = .ok (.invokevirtual 130, 3) := by decide +kernel
theorem d_Hb_winter_8 : decode b_Hb_winter 8 = .ok (.ifCond .eq 10, 3) := by decide +kernel
theorem d_Hb_winter_11 : decode b_Hb_winter 11 = .ok (.iload_n 2, 1) := by decide +kernel
theorem d_Hb_winter_12 : decode b_Hb_winter 12 = .ok (.invokestatic 149, 3) := by decide +kernel
theorem d_Hb_winter_15 : decode b_Hb_winter 15 = .ok (.ifCond .ne 5, 3) := by decide +kernel
theorem d_Hb_winter_18 : decode b_Hb_winter 18 = .ok (.iconst (-1), 1) := by decide +kernel
theorem d_Hb_winter_19 : decode b_Hb_winter 19 = .ok (.ireturn, 1) := by decide +kernel
theorem d_Hb_winter_20 : decode b_Hb_winter 20 = .ok (.aload_n 0, 1) := by decide +kernel
theorem d_Hb_winter_21 : decode b_Hb_winter 21 = .ok (.getfield 61, 3) := by decide +kernel
theorem d_Hb_winter_24 : decode b_Hb_winter 24 = .ok (.iload_n 1, 1) := by decide +kernel
theorem d_Hb_winter_25 : decode b_Hb_winter 25 = .ok (.aload_n 0, 1) := by decide +kernel
theorem d_Hb_winter_26 : decode b_Hb_winter 26 = .ok (.getfield 26, 3) := by decide +kernel
theorem d_Hb_winter_29 : decode b_Hb_winter 29 = .ok (.getfield 133, 3) := by decide +kernel
theorem d_Hb_winter_32 : decode b_Hb_winter 32 = .ok (.iload_n 1, 1) := by decide +kernel
theorem d_Hb_winter_33 : decode b_Hb_winter 33 = .ok (.iaload, 1) := by decide +kernel
theorem d_Hb_winter_34 : decode b_Hb_winter 34 = .ok (.iload_n 2, 1) := by decide +kernel
theorem d_Hb_winter_35 : decode b_Hb_winter 35 = .ok (.invokevirtual 223, 3) := by decide +kernel
theorem d_Hb_winter_38 : decode b_Hb_winter 38 = .ok (.ireturn, 1) := by decide +kernel
