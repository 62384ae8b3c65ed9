abbrev y_Walk_add : MethodName := ⟨"SmallHarbour$Walk", "add", "(IIII)V"⟩
abbrev b_Walk_add : ByteArray := prog_12_method_3_code
theorem mi_Walk_add : MI y_Walk_add b_Walk_add 6 none 4 := ⟨w_561, w_7, by decide +kernel, by decide, by decide⟩
theorem mv_Walk_add : MV y_Walk_add := ⟨w_559, w_560⟩
theorem d_Walk_add_0 : decode b_Walk_add 0 = .ok (.aload_n 0, 1) := by decide +kernel
theorem d_Walk_add_1 : decode b_Walk_add 1 = .ok (.getfield 18, 3) := by decide +kernel
theorem d_Walk_add_4 : decode b_Walk_add 4 = .ok (.bipush 12, 2) := by decide +kernel
theorem d_Walk_add_6 : decode b_Walk_add 6 = .ok (.if_icmp .lt 4, 3) := by decide +kernel
theorem d_Walk_add_9 : decode b_Walk_add 9 = .ok (.return_, 1) := by decide +kernel
theorem d_Walk_add_10 : decode b_Walk_add 10 = .ok (.aload_n 0, 1) := by decide +kernel
theorem d_Walk_add_11 : decode b_Walk_add 11 = .ok (.getfield 9, 3) := by decide +kernel
theorem d_Walk_add_14 : decode b_Walk_add 14 = .ok (.aload_n 0, 1) := by decide +kernel
theorem d_Walk_add_15 : decode b_Walk_add 15 = .ok (.getfield 18, 3) := by decide +kernel
theorem d_Walk_add_18 : decode b_Walk_add 18 = .ok (.iload_n 1, 1) := by decide +kernel
theorem d_Walk_add_19 : decode b_Walk_add 19 = .ok (.iastore, 1) := by decide +kernel
theorem d_Walk_add_20 : decode b_Walk_add 20 = .ok (.aload_n 0, 1) := by decide +kernel
theorem d_Walk_add_21 : decode b_Walk_add 21 = .ok (.getfield 22, 3) := by decide +kernel
theorem d_Walk_add_24 : decode b_Walk_add 24 = .ok (.aload_n 0, 1) := by decide +kernel
theorem d_Walk_add_25 : decode b_Walk_add 25 = .ok (.getfield 18, 3) := by decide +kernel
theorem d_Walk_add_28 : decode b_Walk_add 28 = .ok (.iload_n 2, 1) := by decide +kernel
theorem d_Walk_add_29 : decode b_Walk_add 29 = .ok (.iastore, 1) := by decide +kernel
theorem d_Walk_add_30 : decode b_Walk_add 30 = .ok (.aload_n 0, 1) := by decide +kernel
theorem d_Walk_add_31 : decode b_Walk_add 31 = .ok (.getfield 25, 3) := by decide +kernel
theorem d_Walk_add_34 : decode b_Walk_add 34 = .ok (.aload_n 0, 1) := by decide +kernel
theorem d_Walk_add_35 : decode b_Walk_add 35 = .ok (.getfield 18, 3) := by decide +kernel
theorem d_Walk_add_38 : decode b_Walk_add 38 = .ok (.iload_n 3, 1) := by decide +kernel
theorem d_Walk_add_39 : decode b_Walk_add 39 = .ok (.iastore, 1) := by decide +kernel
theorem d_Walk_add_40 : decode b_Walk_add 40 = .ok (.aload_n 0, 1) := by decide +kernel
theorem d_Walk_add_41 : decode b_Walk_add 41 = .ok (.getfield 28, 3) := by decide +kernel
theorem d_Walk_add_44 : decode b_Walk_add 44 = .ok (.aload_n 0, 1) := by decide +kernel
theorem d_Walk_add_45 : decode b_Walk_add 45 = .ok (.getfield 18, 3) := by decide +kernel
theorem d_Walk_add_48 : decode b_Walk_add 48 = .ok (.iload 4, 2) := by decide +kernel
theorem d_Walk_add_50 : decode b_Walk_add 50 = .ok (.iastore, 1) := by decide +kernel
theorem d_Walk_add_51 : decode b_Walk_add 51 = .ok (.aload_n 0, 1) := by decide +kernel
theorem d_Walk_add_52 : decode b_Walk_add 52 = .ok (.getfield 34, 3) := by decide +kernel
theorem d_Walk_add_55 : decode b_Walk_add 55 = .ok (.aload_n 0, 1) := by decide +kernel
theorem d_Walk_add_56 : decode b_Walk_add 56 = .ok (.getfield 18, 3) := by decide +kernel
theorem d_Walk_add_59 : decode b_Walk_add 59 = .ok (.iconst 0, 1) := by decide +kernel
theorem d_Walk_add_60 : decode b_Walk_add 60 = .ok (.iastore, 1) := by decide +kernel
theorem d_Walk_add_61 : decode b_Walk_add 61 = .ok (.aload_n 0, 1) := by decide +kernel
theorem d_Walk_add_62 : decode b_Walk_add 62 = .ok (.getfield 37, 3) := by decide +kernel
theorem d_Walk_add_65 : decode b_Walk_add 65 = .ok (.aload_n 0, 1) := by decide +kernel
theorem d_Walk_add_66 : decode b_Walk_add 66 = .ok (.getfield 18, 3) := by decide +kernel
theorem d_Walk_add_69 : decode b_Walk_add 69 = .ok (.iconst 0, 1) := by decide +kernel
theorem d_Walk_add_70 : decode b_Walk_add 70 = .ok (.iastore, 1) := by decide +kernel
theorem d_Walk_add_71 : decode b_Walk_add 71 = .ok (.iconst 0, 1) := by decide +kernel
theorem d_Walk_add_72 : decode b_Walk_add 72 = .ok (.istore 5, 2) := by decide +kernel
theorem d_Walk_add_74 : decode b_Walk_add 74 = .ok (.iload 5, 2) := by decide +kernel
theorem d_Walk_add_76 : decode b_Walk_add 76 = .ok (.aload_n 0, 1) := by decide +kernel
theorem d_Walk_add_77 : decode b_Walk_add 77 = .ok (.getfield 18, 3) := by decide +kernel
theorem d_Walk_add_80 : decode b_Walk_add 80 = .ok (.if_icmp .ge 48, 3) := by decide +kernel
theorem d_Walk_add_83 : decode b_Walk_add 83 = .ok (.aload_n 0, 1) := by decide +kernel
theorem d_Walk_add_84 : decode b_Walk_add 84 = .ok (.getfield 25, 3) := by decide +kernel
theorem d_Walk_add_87 : decode b_Walk_add 87 = .ok (.iload 5, 2) := by decide +kernel
theorem d_Walk_add_89 : decode b_Walk_add 89 = .ok (.iaload, 1) := by decide +kernel
theorem d_Walk_add_90 : decode b_Walk_add 90 = .ok (.iload 4, 2) := by decide +kernel
theorem d_Walk_add_92 : decode b_Walk_add 92 = .ok (.if_icmp .ge 30, 3) := by decide +kernel
theorem d_Walk_add_95 : decode b_Walk_add 95 = .ok (.iload_n 3, 1) := by decide +kernel
theorem d_Walk_add_96 : decode b_Walk_add 96 = .ok (.aload_n 0, 1) := by decide +kernel
theorem d_Walk_add_97 : decode b_Walk_add 97 = .ok (.getfield 28, 3) := by decide +kernel
theorem d_Walk_add_100 : decode b_Walk_add 100 = .ok (.iload 5, 2) := by decide +kernel
theorem d_Walk_add_102 : decode b_Walk_add 102 = .ok (.iaload, 1) := by decide +kernel
theorem d_Walk_add_103 : decode b_Walk_add 103 = .ok (.if_icmp .ge 19, 3) := by decide +kernel
theorem d_Walk_add_106 : decode b_Walk_add 106 = .ok (.aload_n 0, 1) := by decide +kernel
theorem d_Walk_add_107 : decode b_Walk_add 107 = .ok (.getfield 37, 3) := by decide +kernel
theorem d_Walk_add_110 : decode b_Walk_add 110 = .ok (.aload_n 0, 1) := by decide +kernel
theorem d_Walk_add_111 : decode b_Walk_add 111 = .ok (.getfield 18, 3) := by decide +kernel
theorem d_Walk_add_114 : decode b_Walk_add 114 = .ok (.dup2, 1) := by decide +kernel
theorem d_Walk_add_115 : decode b_Walk_add 115 = .ok (.iaload, 1) := by decide +kernel
theorem d_Walk_add_116 : decode b_Walk_add 116 = .ok (.iconst 1, 1) := by decide +kernel
theorem d_Walk_add_117 : decode b_Walk_add 117 = .ok (.iload 5, 2) := by decide +kernel
theorem d_Walk_add_119 : decode b_Walk_add 119 = .ok (.ishl, 1) := by decide +kernel
theorem d_Walk_add_120 : decode b_Walk_add 120 = .ok (.ior, 1) := by decide +kernel
theorem d_Walk_add_121 : decode b_Walk_add 121 = .ok (.iastore, 1) := by decide +kernel
theorem d_Walk_add_122 : decode b_Walk_add 122 = .ok (.iinc 5 1, 3) := by decide +kernel
theorem d_Walk_add_125 : decode b_Walk_add 125 = .ok (.goto (-51), 3) := by decide +kernel
theorem d_Walk_add_128 : decode b_Walk_add 128 = .ok (.aload_n 0, 1) := by decide +kernel
theorem d_Walk_add_129 : decode b_Walk_add 129 = .ok (.dup, 1) := by decide +kernel
theorem d_Walk_add_130 : decode b_Walk_add 130 = .ok (.getfield 18, 3) := by decide +kernel
theorem d_Walk_add_133 : decode b_Walk_add 133 = .ok (.iconst 1, 1) := by decide +kernel
theorem d_Walk_add_134 : decode b_Walk_add 134 = .ok (.iadd, 1) := by decide +kernel
theorem d_Walk_add_135 : decode b_Walk_add 135 = .ok (.putfield 18, 3) := by decide +kernel
theorem d_Walk_add_138 : decode b_Walk_add 138 = .ok (.return_, 1) := by decide +kernel
abbrev y_Walk_allow : MethodName := ⟨"SmallHarbour$Walk", "allow", "(I)V"⟩
abbrev b_Walk_allow : ByteArray := prog_12_method_4_code
theorem mi_Walk_allow : MI y_Walk_allow b_Walk_allow 2 none 1 := ⟨w_565, w_7, by decide +kernel, by decide, by decide⟩
theorem mv_Walk_allow : MV y_Walk_allow := ⟨w_563, w_564⟩
theorem d_Walk_allow_0 : decode b_Walk_allow 0 = .ok (.aload_n 0, 1) := by decide +kernel
theorem d_Walk_allow_1 : decode b_Walk_allow 1 = .ok (.getfield 18, 3) := by decide +kernel
theorem d_Walk_allow_4 : decode b_Walk_allow 4 = .ok (.ifCond .le 20, 3) := by decide +kernel
theorem d_Walk_allow_7 : decode b_Walk_allow 7 = .ok (.aload_n 0, 1) := by decide +kernel
theorem d_Walk_allow_8 : decode b_Walk_allow 8 = .ok (.getfield 34, 3) := by decide +kernel
theorem d_Walk_allow_11 : decode b_Walk_allow 11 = .ok (.aload_n 0, 1) := by decide +kernel
theorem d_Walk_allow_12 : decode b_Walk_allow 12 = .ok (.getfield 18, 3) := by decide +kernel
theorem d_Walk_allow_15 : decode b_Walk_allow 15 = .ok (.iconst 1, 1) := by decide +kernel
theorem d_Walk_allow_16 : decode b_Walk_allow 16 = .ok (.isub, 1) := by decide +kernel
theorem d_Walk_allow_17 : decode b_Walk_allow 17 = .ok (.dup2, 1) := by decide +kernel
theorem d_Walk_allow_18 : decode b_Walk_allow 18 = .ok (.iaload, 1) := by decide +kernel
theorem d_Walk_allow_19 : decode b_Walk_allow 19 = .ok (.iconst 1, 1) := by decide +kernel
theorem d_Walk_allow_20 : decode b_Walk_allow 20 = .ok (.iload_n 1, 1) := by decide +kernel
theorem d_Walk_allow_21 : decode b_Walk_allow 21 = .ok (.ishl, 1) := by decide +kernel
theorem d_Walk_allow_22 : decode b_Walk_allow 22 = .ok (.ior, 1) := by decide +kernel
theorem d_Walk_allow_23 : decode b_Walk_allow 23 = .ok (.iastore, 1) := by decide +kernel
theorem d_Walk_allow_24 : decode b_Walk_allow 24 = .ok (.return_, 1) := by decide +kernel
abbrev y_Walk_restart : MethodName := ⟨"SmallHarbour$Walk", "restart", "(I)V"⟩
abbrev b_Walk_restart : ByteArray := prog_12_method_2_code
theorem mi_Walk_restart : MI y_Walk_restart b_Walk_restart 2 none 1 := ⟨w_554, w_7, by decide +kernel, by decide, by decide⟩
theorem mv_Walk_restart : MV y_Walk_restart := ⟨w_552, w_553⟩
theorem d_Walk_restart_0 : decode b_Walk_restart 0 = .ok (.aload_n 0, 1) := by decide +kernel
theorem d_Walk_restart_1 : decode b_Walk_restart 1 = .ok (.iconst 0, 1) := by decide +kernel
theorem d_Walk_restart_2 : decode b_Walk_restart 2 = .ok (.putfield 18, 3) := by decide +kernel
theorem d_Walk_restart_5 : decode b_Walk_restart 5 = .ok (.aload_n 0, 1) := by decide +kernel
theorem d_Walk_restart_6 : decode b_Walk_restart 6 = .ok (.iload_n 1, 1) := by decide +kernel
theorem d_Walk_restart_7 : decode b_Walk_restart 7 = .ok (.bipush 10, 2) := by decide +kernel
theorem d_Walk_restart_9 : decode b_Walk_restart 9 = .ok (.invokestatic 52, 3) := by decide +kernel
theorem d_Walk_restart_12 : decode b_Walk_restart 12 = .ok (.putfield 43, 3) := by decide +kernel
theorem d_Walk_restart_15 : decode b_Walk_restart 15 = .ok (.aload_n 0, 1) := by decide +kernel
theorem d_Walk_restart_16 : decode b_Walk_restart 16 = .ok (.bipush 13, 2) := by decide +kernel
theorem d_Walk_restart_18 : decode b_Walk_restart 18 = .ok (.putfield 46, 3) := by decide +kernel
theorem d_Walk_restart_21 : decode b_Walk_restart 21 = .ok (.aload_n 0, 1) := by decide +kernel
theorem d_Walk_restart_22 : decode b_Walk_restart 22 = .ok (.iconst 0, 1) := by decide +kernel
theorem d_Walk_restart_23 : decode b_Walk_restart 23 = .ok (.putfield 49, 3) := by decide +kernel
theorem d_Walk_restart_26 : decode b_Walk_restart 26 = .ok (.aload_n 0, 1) := by decide +kernel
theorem d_Walk_restart_27 : decode b_Walk_restart 27 = .ok (.getfield 40, 3) := by decide +kernel
theorem d_Walk_restart_30 : decode b_Walk_restart 30 = .ok (.iconst 0, 1) := by decide +kernel
theorem d_Walk_restart_31 : decode b_Walk_restart 31 = .ok (.invokestatic 58, 3) := by decide +kernel
theorem d_Walk_restart_34 : decode b_Walk_restart 34 = .ok (.return_, 1) := by decide +kernel
abbrev y_Hb_lineUp : MethodName := ⟨"SmallHarbour", "lineUp", "(I)Z"⟩
abbrev b_Hb_lineUp : ByteArray := prog_1_method_40_code
theorem mi_Hb_lineUp : MI y_Hb_lineUp b_Hb_lineUp 5 (some .boolean) 1 := ⟨w_550, w_1, by decide +kernel, by decide, by decide⟩
theorem mv_Hb_lineUp : MV y_Hb_lineUp := ⟨w_549, w_s1_7⟩
theorem d_Hb_lineUp_0 : decode b_Hb_lineUp 0 = .ok (.aload_n 0, 1) := by decide +kernel
theorem d_Hb_lineUp_1 : decode b_Hb_lineUp 1 = .ok (.getfield 47, 3) := by decide +kernel
theorem d_Hb_lineUp_4 : decode b_Hb_lineUp 4 = .ok (.aload_n 0, 1) := by decide +kernel
theorem d_Hb_lineUp_5 : decode b_Hb_lineUp 5 = .ok (.getfield 19, 3) := by decide +kernel
theorem d_Hb_lineUp_8 : decode b_Hb_lineUp 8 = .ok (.getfield 177, 3) := by decide +kernel
theorem d_Hb_lineUp_11 : decode b_Hb_lineUp 11 = .ok (.invokevirtual 290, 3) := by decide +kernel
theorem d_Hb_lineUp_14 : decode b_Hb_lineUp 14 = .ok (.iconst 0, 1) := by decide +kernel
theorem d_Hb_lineUp_15 : decode b_Hb_lineUp 15 = .ok (.istore_n 2, 1) := by decide +kernel
theorem d_Hb_lineUp_16 : decode b_Hb_lineUp 16 = .ok (.iload_n 2, 1) := by decide +kernel
theorem d_Hb_lineUp_17 : decode b_Hb_lineUp 17 = .ok (.aload_n 0, 1) := by decide +kernel
theorem d_Hb_lineUp_18 : decode b_Hb_lineUp 18 = .ok (.getfield 40, 3) := by decide +kernel
theorem d_Hb_lineUp_21 : decode b_Hb_lineUp 21 = .ok (.getfield 260, 3) := by decide +kernel
theorem d_Hb_lineUp_24 : decode b_Hb_lineUp 24 = .ok (.if_icmp .ge 146, 3) := by decide +kernel
theorem d_Hb_lineUp_27 : decode b_Hb_lineUp 27 = .ok (.aload_n 0, 1) := by decide +kernel
theorem d_Hb_lineUp_28 : decode b_Hb_lineUp 28 = .ok (.getfield 40, 3) := by decide +kernel
theorem d_Hb_lineUp_31 : decode b_Hb_lineUp 31 = .ok (.getfield 186, 3) := by decide +kernel
theorem d_Hb_lineUp_34 : decode b_Hb_lineUp 34 = .ok (.iload_n 2, 1) := by decide +kernel
theorem d_Hb_lineUp_35 : decode b_Hb_lineUp 35 = .ok (.iaload, 1) := by decide +kernel
theorem d_Hb_lineUp_36 : decode b_Hb_lineUp 36 = .ok (.iload_n 1, 1) := by decide +kernel
theorem d_Hb_lineUp_37 : decode b_Hb_lineUp 37 = .ok (.if_icmp .gt 6, 3) := by decide +kernel
theorem d_Hb_lineUp_40 : decode b_Hb_lineUp 40 = .ok (.goto 124, 3) := by decide +kernel
theorem d_Hb_lineUp_43 : decode b_Hb_lineUp 43 = .ok (.aload_n 0, 1) := by decide +kernel
theorem d_Hb_lineUp_44 : decode b_Hb_lineUp 44 = .ok (.getfield 47, 3) := by decide +kernel
theorem d_Hb_lineUp_47 : decode b_Hb_lineUp 47 = .ok (.getfield 292, 3) := by decide +kernel
theorem d_Hb_lineUp_50 : decode b_Hb_lineUp 50 = .ok (.bipush 12, 2) := by decide +kernel
theorem d_Hb_lineUp_52 : decode b_Hb_lineUp 52 = .ok (.if_icmp .lt 5, 3) := by decide +kernel
theorem d_Hb_lineUp_55 : decode b_Hb_lineUp 55 = .ok (.iconst 0, 1) := by decide +kernel
theorem d_Hb_lineUp_56 : decode b_Hb_lineUp 56 = .ok (.ireturn, 1) := by decide +kernel
theorem d_Hb_lineUp_57 : decode b_Hb_lineUp 57 = .ok (.aload_n 0, 1) := by decide +kernel
theorem d_Hb_lineUp_58 : decode b_Hb_lineUp 58 = .ok (.getfield 40, 3) := by decide +kernel
theorem d_Hb_lineUp_61 : decode b_Hb_lineUp 61 = .ok (.getfield 183, 3) := by decide +kernel
theorem d_Hb_lineUp_64 : decode b_Hb_lineUp 64 = .ok (.iload_n 2, 1) := by decide +kernel
theorem d_Hb_lineUp_65 : decode b_Hb_lineUp 65 = .ok (.iaload, 1) := by decide +kernel
theorem d_Hb_lineUp_66 : decode b_Hb_lineUp 66 = .ok (.iload_n 1, 1) := by decide +kernel
theorem d_Hb_lineUp_67 : decode b_Hb_lineUp 67 = .ok (.invokestatic 293, 3) := by decide +kernel
theorem d_Hb_lineUp_70 : decode b_Hb_lineUp 70 = .ok (.istore_n 3, 1) := by decide +kernel
theorem d_Hb_lineUp_71 : decode b_Hb_lineUp 71 = .ok (.aload_n 0, 1) := by decide +kernel
theorem d_Hb_lineUp_72 : decode b_Hb_lineUp 72 = .ok (.getfield 47, 3) := by decide +kernel
theorem d_Hb_lineUp_75 : decode b_Hb_lineUp 75 = .ok (.iload_n 2, 1) := by decide +kernel
theorem d_Hb_lineUp_76 : decode b_Hb_lineUp 76 = .ok (.aload_n 0, 1) := by decide +kernel
theorem d_Hb_lineUp_77 : decode b_Hb_lineUp 77 = .ok (.getfield 40, 3) := by decide +kernel
theorem d_Hb_lineUp_80 : decode b_Hb_lineUp 80 = .ok (.getfield 202, 3) := by decide +kernel
theorem d_Hb_lineUp_83 : decode b_Hb_lineUp 83 = .ok (.iload_n 2, 1) := by decide +kernel
theorem d_Hb_lineUp_84 : decode b_Hb_lineUp 84 = .ok (.iaload, 1) := by decide +kernel
theorem d_Hb_lineUp_85 : decode b_Hb_lineUp 85 = .ok (.aload_n 0, 1) := by decide +kernel
theorem d_Hb_lineUp_86 : decode b_Hb_lineUp 86 = .ok (.getfield 40, 3) := by decide +kernel
theorem d_Hb_lineUp_89 : decode b_Hb_lineUp 89 = .ok (.getfield 183, 3) := by decide +kernel
theorem d_Hb_lineUp_92 : decode b_Hb_lineUp 92 = .ok (.iload_n 2, 1) := by decide +kernel
theorem d_Hb_lineUp_93 : decode b_Hb_lineUp 93 = .ok (.iaload, 1) := by decide +kernel
theorem d_Hb_lineUp_94 : decode b_Hb_lineUp 94 = .ok (.aload_n 0, 1) := by decide +kernel
theorem d_Hb_lineUp_95 : decode b_Hb_lineUp 95 = .ok (.getfield 40, 3) := by decide +kernel
theorem d_Hb_lineUp_98 : decode b_Hb_lineUp 98 = .ok (.getfield 186, 3) := by decide +kernel
theorem d_Hb_lineUp_101 : decode b_Hb_lineUp 101 = .ok (.iload_n 2, 1) := by decide +kernel
theorem d_Hb_lineUp_102 : decode b_Hb_lineUp 102 = .ok (.iaload, 1) := by decide +kernel
theorem d_Hb_lineUp_103 : decode b_Hb_lineUp 103 = .ok (.invokevirtual 298, 3) := by decide +kernel
theorem d_Hb_lineUp_106 : decode b_Hb_lineUp 106 = .ok (.iconst 0, 1) := by decide +kernel
theorem d_Hb_lineUp_107 : decode b_Hb_lineUp 107 = .ok (.istore 4, 2) := by decide +kernel
theorem d_Hb_lineUp_109 : decode b_Hb_lineUp 109 = .ok (.iload 4, 2) := by decide +kernel
theorem d_Hb_lineUp_111 : decode b_Hb_lineUp 111 = .ok (.aload_n 0, 1) := by decide +kernel
theorem d_Hb_lineUp_112 : decode b_Hb_lineUp 112 = .ok (.getfield 19, 3) := by decide +kernel
theorem d_Hb_lineUp_115 : decode b_Hb_lineUp 115 = .ok (.getfield 177, 3) := by decide +kernel
theorem d_Hb_lineUp_118 : decode b_Hb_lineUp 118 = .ok (.if_icmp .ge 46, 3) := by decide +kernel
theorem d_Hb_lineUp_121 : decode b_Hb_lineUp 121 = .ok (.aload_n 0, 1) := by decide +kernel
theorem d_Hb_lineUp_122 : decode b_Hb_lineUp 122 = .ok (.aload_n 0, 1) := by decide +kernel
theorem d_Hb_lineUp_123 : decode b_Hb_lineUp 123 = .ok (.getfield 40, 3) := by decide +kernel
theorem d_Hb_lineUp_126 : decode b_Hb_lineUp 126 = .ok (.getfield 163, 3) := by decide +kernel
theorem d_Hb_lineUp_129 : decode b_Hb_lineUp 129 = .ok (.iload_n 2, 1) := by decide +kernel
theorem d_Hb_lineUp_130 : decode b_Hb_lineUp 130 = .ok (.iaload, 1) := by decide +kernel
theorem d_Hb_lineUp_131 : decode b_Hb_lineUp 131 = .ok (.iload 4, 2) := by decide +kernel
theorem d_Hb_lineUp_133 : decode b_Hb_lineUp 133 = .ok (.iload_n 3, 1) := by decide +kernel
theorem d_Hb_lineUp_134 : decode b_Hb_lineUp 134 = .ok (.aload_n 0, 1) := by decide +kernel
theorem d_Hb_lineUp_135 : decode b_Hb_lineUp 135 = .ok (.getfield 40, 3) := by decide +kernel
theorem d_Hb_lineUp_138 : decode b_Hb_lineUp 138 = .ok (.getfield 186, 3) := by decide +kernel
theorem d_Hb_lineUp_141 : decode b_Hb_lineUp 141 = .ok (.iload_n 2, 1) := by decide +kernel
theorem d_Hb_lineUp_142 : decode b_Hb_lineUp 142 = .ok (.iaload, 1) := by decide +kernel
theorem d_Hb_lineUp_143 : decode b_Hb_lineUp 143 = .ok (.invokevirtual 178, 3) := by decide +kernel
theorem d_Hb_lineUp_146 : decode b_Hb_lineUp 146 = .ok (.ifCond .eq 12, 3) := by decide +kernel
theorem d_Hb_lineUp_149 : decode b_Hb_lineUp 149 = .ok (.aload_n 0, 1) := by decide +kernel
theorem d_Hb_lineUp_150 : decode b_Hb_lineUp 150 = .ok (.getfield 47, 3) := by decide +kernel
theorem d_Hb_lineUp_153 : decode b_Hb_lineUp 153 = .ok (.iload 4, 2) := by decide +kernel
theorem d_Hb_lineUp_155 : decode b_Hb_lineUp 155 = .ok (.invokevirtual 301, 3) := by decide +kernel
theorem d_Hb_lineUp_158 : decode b_Hb_lineUp 158 = .ok (.iinc 4 1, 3) := by decide +kernel
theorem d_Hb_lineUp_161 : decode b_Hb_lineUp 161 = .ok (.goto (-52), 3) := by decide +kernel
theorem d_Hb_lineUp_164 : decode b_Hb_lineUp 164 = .ok (.iinc 2 1, 3) := by decide +kernel
theorem d_Hb_lineUp_167 : decode b_Hb_lineUp 167 = .ok (.goto (-151), 3) := by decide +kernel
theorem d_Hb_lineUp_170 : decode b_Hb_lineUp 170 = .ok (.iconst 1, 1) := by decide +kernel
theorem d_Hb_lineUp_171 : decode b_Hb_lineUp 171 = .ok (.ireturn, 1) := by decide +kernel
abbrev y_Walk_isFound : MethodName := ⟨"SmallHarbour$Walk", "isFound", "()Z"⟩
abbrev b_Walk_isFound : ByteArray := prog_12_method_7_code
theorem mi_Walk_isFound : MI y_Walk_isFound b_Walk_isFound 1 (some .boolean) 0 := ⟨w_586, w_7, by decide +kernel, by decide, by decide⟩
theorem mv_Walk_isFound : MV y_Walk_isFound := ⟨w_584, w_585⟩
theorem d_Walk_isFound_0 : decode b_Walk_isFound 0 = .ok (.aload_n 0, 1) := by decide +kernel
theorem d_Walk_isFound_1 : decode b_Walk_isFound 1 = .ok (.getfield 46, 3) := by decide +kernel
theorem d_Walk_isFound_4 : decode b_Walk_isFound 4 = .ok (.bipush 13, 2) := by decide +kernel
theorem d_Walk_isFound_6 : decode b_Walk_isFound 6 = .ok (.if_icmp .eq 7, 3) := by decide +kernel
theorem d_Walk_isFound_9 : decode b_Walk_isFound 9 = .ok (.iconst 1, 1) := by decide +kernel
theorem d_Walk_isFound_10 : decode b_Walk_isFound 10 = .ok (.goto 4, 3) := by decide +kernel
theorem d_Walk_isFound_13 : decode b_Walk_isFound 13 = .ok (.iconst 0, 1) := by decide +kernel
theorem d_Walk_isFound_14 : decode b_Walk_isFound 14 = .ok (.ireturn, 1) := by decide +kernel
abbrev y_Walk_isSpent : MethodName := ⟨"SmallHarbour$Walk", "isSpent", "()Z"⟩
abbrev b_Walk_isSpent : ByteArray := prog_12_method_6_code
theorem mi_Walk_isSpent : MI y_Walk_isSpent b_Walk_isSpent 1 (some .boolean) 0 := ⟨w_580, w_7, by decide +kernel, by decide, by decide⟩
theorem mv_Walk_isSpent : MV y_Walk_isSpent := ⟨w_578, w_579⟩
theorem d_Walk_isSpent_0 : decode b_Walk_isSpent 0 = .ok (.aload_n 0, 1) := by decide +kernel
theorem d_Walk_isSpent_1 : decode b_Walk_isSpent 1 = .ok (.getfield 49, 3) := by decide +kernel
theorem d_Walk_isSpent_4 : decode b_Walk_isSpent 4 = .ok (.ldc 68, 2) := by decide +kernel
theorem d_Walk_isSpent_6 : decode b_Walk_isSpent 6 = .ok (.if_icmp .le 7, 3) := by decide +kernel
theorem d_Walk_isSpent_9 : decode b_Walk_isSpent 9 = .ok (.iconst 1, 1) := by decide +kernel
theorem d_Walk_isSpent_10 : decode b_Walk_isSpent 10 = .ok (.goto 4, 3) := by decide +kernel
theorem d_Walk_isSpent_13 : decode b_Walk_isSpent 13 = .ok (.iconst 0, 1) := by decide +kernel
theorem d_Walk_isSpent_14 : decode b_Walk_isSpent 14 = .ok (.ireturn, 1) := by decide +kernel
abbrev y_Walk_movedFromAhead : MethodName := ⟨"SmallHarbour$Walk", "movedFromAhead", "(I)I"⟩
abbrev b_Walk_movedFromAhead : ByteArray := prog_12_method_9_code
theorem mi_Walk_movedFromAhead : MI y_Walk_movedFromAhead b_Walk_movedFromAhead 4 (some .int) 1 := ⟨w_590, w_7, by decide +kernel, by decide, by decide⟩
theorem mv_Walk_movedFromAhead : MV y_Walk_movedFromAhead := ⟨w_588, w_589⟩
theorem d_Walk_movedFromAhead_0 : decode b_Walk_movedFromAhead 0 = .ok (.iconst 0, 1) := by decide +kernel
theorem d_Walk_movedFromAhead_1 : decode b_Walk_movedFromAhead 1 = .ok (.istore_n 2, 1) := by decide +kernel
theorem d_Walk_movedFromAhead_2 : decode b_Walk_movedFromAhead 2 = .ok (.iconst 0, 1) := by decide +kernel
theorem d_Walk_movedFromAhead_3 : decode b_Walk_movedFromAhead 3 = .ok (.istore_n 3, 1) := by decide +kernel
theorem d_Walk_movedFromAhead_4 : decode b_Walk_movedFromAhead 4 = .ok (.iload_n 3, 1) := by decide +kernel
theorem d_Walk_movedFromAhead_5 : decode b_Walk_movedFromAhead 5 = .ok (.aload_n 0, 1) := by decide +kernel
theorem d_Walk_movedFromAhead_6 : decode b_Walk_movedFromAhead 6 = .ok (.getfield 18, 3) := by decide +kernel
theorem d_Walk_movedFromAhead_9 : decode b_Walk_movedFromAhead 9 = .ok (.if_icmp .ge 30, 3) := by decide +kernel
theorem d_Walk_movedFromAhead_12 : decode b_Walk_movedFromAhead 12 = .ok (.aload_n 0, 1) := by decide +kernel
theorem d_Walk_movedFromAhead_13 : decode b_Walk_movedFromAhead 13 = .ok (.iload_n 3, 1) := by decide +kernel
theorem d_Walk_movedFromAhead_14 : decode b_Walk_movedFromAhead 14 = .ok (.invokevirtual 69, 3) := by decide +kernel
theorem d_Walk_movedFromAhead_17 : decode b_Walk_movedFromAhead 17 = .ok (.ifCond .eq 16, 3) := by decide +kernel
theorem d_Walk_movedFromAhead_20 : decode b_Walk_movedFromAhead 20 = .ok (.aload_n 0, 1) := by decide +kernel
theorem d_Walk_movedFromAhead_21 : decode b_Walk_movedFromAhead 21 = .ok (.getfield 25, 3) := by decide +kernel
theorem d_Walk_movedFromAhead_24 : decode b_Walk_movedFromAhead 24 = .ok (.iload_n 3, 1) := by decide +kernel
theorem d_Walk_movedFromAhead_25 : decode b_Walk_movedFromAhead 25 = .ok (.iaload, 1) := by decide +kernel
theorem d_Walk_movedFromAhead_26 : decode b_Walk_movedFromAhead 26 = .ok (.iload_n 1, 1) := by decide +kernel
theorem d_Walk_movedFromAhead_27 : decode b_Walk_movedFromAhead 27 = .ok (.if_icmp .ge 6, 3) := by decide +kernel
theorem d_Walk_movedFromAhead_30 : decode b_Walk_movedFromAhead 30 = .ok (.iinc 2 1, 3) := by decide +kernel
theorem d_Walk_movedFromAhead_33 : decode b_Walk_movedFromAhead 33 = .ok (.iinc 3 1, 3) := by decide +kernel
theorem d_Walk_movedFromAhead_36 : decode b_Walk_movedFromAhead 36 = .ok (.goto (-32), 3) := by decide +kernel
theorem d_Walk_movedFromAhead_39 : decode b_Walk_movedFromAhead 39 = .ok (.iload_n 2, 1) := by decide +kernel
theorem d_Walk_movedFromAhead_40 : decode b_Walk_movedFromAhead 40 = .ok (.ireturn, 1) := by decide +kernel
abbrev y_Walk_putFrom : MethodName := ⟨"SmallHarbour$Walk", "putFrom", "(II)V"⟩
abbrev b_Walk_putFrom : ByteArray := prog_12_method_10_code
theorem mi_Walk_putFrom : MI y_Walk_putFrom b_Walk_putFrom 5 none 2 := ⟨w_573, w_7, by decide +kernel, by decide, by decide⟩
theorem mv_Walk_putFrom : MV y_Walk_putFrom := ⟨w_572, w_s1_8⟩
theorem d_Walk_putFrom_0 : decode b_Walk_putFrom 0 = .ok (.iload_n 1, 1) := by decide +kernel
theorem d_Walk_putFrom_1 : decode b_Walk_putFrom 1 = .ok (.aload_n 0, 1) := by decide +kernel
theorem d_Walk_putFrom_2 : decode b_Walk_putFrom 2 = .ok (.getfield 18, 3) := by decide +kernel
theorem d_Walk_putFrom_5 : decode b_Walk_putFrom 5 = .ok (.if_icmp .lt 26, 3) := by decide +kernel
theorem d_Walk_putFrom_8 : decode b_Walk_putFrom 8 = .ok (.aload_n 0, 1) := by decide +kernel
theorem d_Walk_putFrom_9 : decode b_Walk_putFrom 9 = .ok (.iload_n 2, 1) := by decide +kernel
theorem d_Walk_putFrom_10 : decode b_Walk_putFrom 10 = .ok (.putfield 46, 3) := by decide +kernel
theorem d_Walk_putFrom_13 : decode b_Walk_putFrom 13 = .ok (.aload_n 0, 1) := by decide +kernel
theorem d_Walk_putFrom_14 : decode b_Walk_putFrom 14 = .ok (.getfield 31, 3) := by decide +kernel
theorem d_Walk_putFrom_17 : decode b_Walk_putFrom 17 = .ok (.iconst 0, 1) := by decide +kernel
theorem d_Walk_putFrom_18 : decode b_Walk_putFrom 18 = .ok (.aload_n 0, 1) := by decide +kernel
theorem d_Walk_putFrom_19 : decode b_Walk_putFrom 19 = .ok (.getfield 15, 3) := by decide +kernel
theorem d_Walk_putFrom_22 : decode b_Walk_putFrom 22 = .ok (.iconst 0, 1) := by decide +kernel
theorem d_Walk_putFrom_23 : decode b_Walk_putFrom 23 = .ok (.aload_n 0, 1) := by decide +kernel
theorem d_Walk_putFrom_24 : decode b_Walk_putFrom 24 = .ok (.getfield 18, 3) := by decide +kernel
theorem d_Walk_putFrom_27 : decode b_Walk_putFrom 27 = .ok (.invokestatic 73, 3) := by decide +kernel
theorem d_Walk_putFrom_30 : decode b_Walk_putFrom 30 = .ok (.return_, 1) := by decide +kernel
theorem d_Walk_putFrom_31 : decode b_Walk_putFrom 31 = .ok (.iconst 0, 1) := by decide +kernel
theorem d_Walk_putFrom_32 : decode b_Walk_putFrom 32 = .ok (.istore_n 3, 1) := by decide +kernel
theorem d_Walk_putFrom_33 : decode b_Walk_putFrom 33 = .ok (.iload_n 3, 1) := by decide +kernel
theorem d_Walk_putFrom_34 : decode b_Walk_putFrom 34 = .ok (.aload_n 0, 1) := by decide +kernel
theorem d_Walk_putFrom_35 : decode b_Walk_putFrom 35 = .ok (.getfield 43, 3) := by decide +kernel
theorem d_Walk_putFrom_38 : decode b_Walk_putFrom 38 = .ok (.if_icmp .ge 135, 3) := by decide +kernel
theorem d_Walk_putFrom_41 : decode b_Walk_putFrom 41 = .ok (.aload_n 0, 1) := by decide +kernel
theorem d_Walk_putFrom_42 : decode b_Walk_putFrom 42 = .ok (.invokevirtual 79, 3) := by decide +kernel
theorem d_Walk_putFrom_45 : decode b_Walk_putFrom 45 = .ok (.ifCond .ne 128, 3) := by decide +kernel
theorem d_Walk_putFrom_48 : decode b_Walk_putFrom 48 = .ok (.aload_n 0, 1) := by decide +kernel
theorem d_Walk_putFrom_49 : decode b_Walk_putFrom 49 = .ok (.getfield 34, 3) := by decide +kernel
theorem d_Walk_putFrom_52 : decode b_Walk_putFrom 52 = .ok (.iload_n 1, 1) := by decide +kernel
theorem d_Walk_putFrom_53 : decode b_Walk_putFrom 53 = .ok (.iaload, 1) := by decide +kernel
theorem d_Walk_putFrom_54 : decode b_Walk_putFrom 54 = .ok (.iload_n 3, 1) := by decide +kernel
theorem d_Walk_putFrom_55 : decode b_Walk_putFrom 55 = .ok (.ishr, 1) := by decide +kernel
theorem d_Walk_putFrom_56 : decode b_Walk_putFrom 56 = .ok (.iconst 1, 1) := by decide +kernel
theorem d_Walk_putFrom_57 : decode b_Walk_putFrom 57 = .ok (.iand, 1) := by decide +kernel
theorem d_Walk_putFrom_58 : decode b_Walk_putFrom 58 = .ok (.ifCond .eq 109, 3) := by decide +kernel
theorem d_Walk_putFrom_61 : decode b_Walk_putFrom 61 = .ok (.aload_n 0, 1) := by decide +kernel
theorem d_Walk_putFrom_62 : decode b_Walk_putFrom 62 = .ok (.getfield 40, 3) := by decide +kernel
theorem d_Walk_putFrom_65 : decode b_Walk_putFrom 65 = .ok (.iload_n 3, 1) := by decide +kernel
theorem d_Walk_putFrom_66 : decode b_Walk_putFrom 66 = .ok (.iaload, 1) := by decide +kernel
theorem d_Walk_putFrom_67 : decode b_Walk_putFrom 67 = .ok (.aload_n 0, 1) := by decide +kernel
theorem d_Walk_putFrom_68 : decode b_Walk_putFrom 68 = .ok (.getfield 37, 3) := by decide +kernel
theorem d_Walk_putFrom_71 : decode b_Walk_putFrom 71 = .ok (.iload_n 1, 1) := by decide +kernel
theorem d_Walk_putFrom_72 : decode b_Walk_putFrom 72 = .ok (.iaload, 1) := by decide +kernel
theorem d_Walk_putFrom_73 : decode b_Walk_putFrom 73 = .ok (.iand, 1) := by decide +kernel
theorem d_Walk_putFrom_74 : decode b_Walk_putFrom 74 = .ok (.ifCond .eq 6, 3) := by decide +kernel
theorem d_Walk_putFrom_77 : decode b_Walk_putFrom 77 = .ok (.goto 90, 3) := by decide +kernel
theorem d_Walk_putFrom_80 : decode b_Walk_putFrom 80 = .ok (.aload_n 0, 1) := by decide +kernel
theorem d_Walk_putFrom_81 : decode b_Walk_putFrom 81 = .ok (.dup, 1) := by decide +kernel
theorem d_Walk_putFrom_82 : decode b_Walk_putFrom 82 = .ok (.getfield 49, 3) := by decide +kernel
theorem d_Walk_putFrom_85 : decode b_Walk_putFrom 85 = .ok (.iconst 1, 1) := by decide +kernel
theorem d_Walk_putFrom_86 : decode b_Walk_putFrom 86 = .ok (.iadd, 1) := by decide +kernel
theorem d_Walk_putFrom_87 : decode b_Walk_putFrom 87 = .ok (.putfield 49, 3) := by decide +kernel
theorem d_Walk_putFrom_90 : decode b_Walk_putFrom 90 = .ok (.iload_n 3, 1) := by decide +kernel
theorem d_Walk_putFrom_91 : decode b_Walk_putFrom 91 = .ok (.aload_n 0, 1) := by decide +kernel
theorem d_Walk_putFrom_92 : decode b_Walk_putFrom 92 = .ok (.getfield 22, 3) := by decide +kernel
theorem d_Walk_putFrom_95 : decode b_Walk_putFrom 95 = .ok (.iload_n 1, 1) := by decide +kernel
theorem d_Walk_putFrom_96 : decode b_Walk_putFrom 96 = .ok (.iaload, 1) := by decide +kernel
theorem d_Walk_putFrom_97 : decode b_Walk_putFrom 97 = .ok (.if_icmp .ne 7, 3) := by decide +kernel
theorem d_Walk_putFrom_100 : decode b_Walk_putFrom 100 = .ok (.iload_n 2, 1) := by decide +kernel
theorem d_Walk_putFrom_101 : decode b_Walk_putFrom 101 = .ok (.goto 6, 3) := by decide +kernel
theorem d_Walk_putFrom_104 : decode b_Walk_putFrom 104 = .ok (.iload_n 2, 1) := by decide +kernel
theorem d_Walk_putFrom_105 : decode b_Walk_putFrom 105 = .ok (.iconst 1, 1) := by decide +kernel
theorem d_Walk_putFrom_106 : decode b_Walk_putFrom 106 = .ok (.iadd, 1) := by decide +kernel
theorem d_Walk_putFrom_107 : decode b_Walk_putFrom 107 = .ok (.istore 4, 2) := by decide +kernel
theorem d_Walk_putFrom_109 : decode b_Walk_putFrom 109 = .ok (.iload 4, 2) := by decide +kernel
theorem d_Walk_putFrom_111 : decode b_Walk_putFrom 111 = .ok (.aload_n 0, 1) := by decide +kernel
theorem d_Walk_putFrom_112 : decode b_Walk_putFrom 112 = .ok (.getfield 46, 3) := by decide +kernel
theorem d_Walk_putFrom_115 : decode b_Walk_putFrom 115 = .ok (.if_icmp .ge 52, 3) := by decide +kernel
theorem d_Walk_putFrom_118 : decode b_Walk_putFrom 118 = .ok (.aload_n 0, 1) := by decide +kernel
theorem d_Walk_putFrom_119 : decode b_Walk_putFrom 119 = .ok (.invokevirtual 79, 3) := by decide +kernel
theorem d_Walk_putFrom_122 : decode b_Walk_putFrom 122 = .ok (.ifCond .ne 45, 3) := by decide +kernel
theorem d_Walk_putFrom_125 : decode b_Walk_putFrom 125 = .ok (.aload_n 0, 1) := by decide +kernel
theorem d_Walk_putFrom_126 : decode b_Walk_putFrom 126 = .ok (.getfield 31, 3) := by decide +kernel
theorem d_Walk_putFrom_129 : decode b_Walk_putFrom 129 = .ok (.iload_n 1, 1) := by decide +kernel
theorem d_Walk_putFrom_130 : decode b_Walk_putFrom 130 = .ok (.iload_n 3, 1) := by decide +kernel
theorem d_Walk_putFrom_131 : decode b_Walk_putFrom 131 = .ok (.iastore, 1) := by decide +kernel
theorem d_Walk_putFrom_132 : decode b_Walk_putFrom 132 = .ok (.aload_n 0, 1) := by decide +kernel
theorem d_Walk_putFrom_133 : decode b_Walk_putFrom 133 = .ok (.getfield 40, 3) := by decide +kernel
theorem d_Walk_putFrom_136 : decode b_Walk_putFrom 136 = .ok (.iload_n 3, 1) := by decide +kernel
theorem d_Walk_putFrom_137 : decode b_Walk_putFrom 137 = .ok (.dup2, 1) := by decide +kernel
theorem d_Walk_putFrom_138 : decode b_Walk_putFrom 138 = .ok (.iaload, 1) := by decide +kernel
theorem d_Walk_putFrom_139 : decode b_Walk_putFrom 139 = .ok (.iconst 1, 1) := by decide +kernel
theorem d_Walk_putFrom_140 : decode b_Walk_putFrom 140 = .ok (.iload_n 1, 1) := by decide +kernel
theorem d_Walk_putFrom_141 : decode b_Walk_putFrom 141 = .ok (.ishl, 1) := by decide +kernel
theorem d_Walk_putFrom_142 : decode b_Walk_putFrom 142 = .ok (.ior, 1) := by decide +kernel
theorem d_Walk_putFrom_143 : decode b_Walk_putFrom 143 = .ok (.iastore, 1) := by decide +kernel
theorem d_Walk_putFrom_144 : decode b_Walk_putFrom 144 = .ok (.aload_n 0, 1) := by decide +kernel
theorem d_Walk_putFrom_145 : decode b_Walk_putFrom 145 = .ok (.iload_n 1, 1) := by decide +kernel
theorem d_Walk_putFrom_146 : decode b_Walk_putFrom 146 = .ok (.iconst 1, 1) := by decide +kernel
theorem d_Walk_putFrom_147 : decode b_Walk_putFrom 147 = .ok (.iadd, 1) := by decide +kernel
theorem d_Walk_putFrom_148 : decode b_Walk_putFrom 148 = .ok (.iload 4, 2) := by decide +kernel
theorem d_Walk_putFrom_150 : decode b_Walk_putFrom 150 = .ok (.invokevirtual 64, 3) := by decide +kernel
theorem d_Walk_putFrom_153 : decode b_Walk_putFrom 153 = .ok (.aload_n 0, 1) := by decide +kernel
theorem d_Walk_putFrom_154 : decode b_Walk_putFrom 154 = .ok (.getfield 40, 3) := by decide +kernel
theorem d_Walk_putFrom_157 : decode b_Walk_putFrom 157 = .ok (.iload_n 3, 1) := by decide +kernel
theorem d_Walk_putFrom_158 : decode b_Walk_putFrom 158 = .ok (.dup2, 1) := by decide +kernel
theorem d_Walk_putFrom_159 : decode b_Walk_putFrom 159 = .ok (.iaload, 1) := by decide +kernel
theorem d_Walk_putFrom_160 : decode b_Walk_putFrom 160 = .ok (.iconst 1, 1) := by decide +kernel
theorem d_Walk_putFrom_161 : decode b_Walk_putFrom 161 = .ok (.iload_n 1, 1) := by decide +kernel
theorem d_Walk_putFrom_162 : decode b_Walk_putFrom 162 = .ok (.ishl, 1) := by decide +kernel
theorem d_Walk_putFrom_163 : decode b_Walk_putFrom 163 = .ok (.iconst (-1), 1) := by decide +kernel
theorem d_Walk_putFrom_164 : decode b_Walk_putFrom 164 = .ok (.ixor, 1) := by decide +kernel
theorem d_Walk_putFrom_165 : decode b_Walk_putFrom 165 = .ok (.iand, 1) := by decide +kernel
theorem d_Walk_putFrom_166 : decode b_Walk_putFrom 166 = .ok (.iastore, 1) := by decide +kernel
theorem d_Walk_putFrom_167 : decode b_Walk_putFrom 167 = .ok (.iinc 3 1, 3) := by decide +kernel
theorem d_Walk_putFrom_170 : decode b_Walk_putFrom 170 = .ok (.goto (-137), 3) := by decide +kernel
theorem d_Walk_putFrom_173 : decode b_Walk_putFrom 173 = .ok (.return_, 1) := by decide +kernel
abbrev y_Walk_search : MethodName := ⟨"SmallHarbour$Walk", "search", "()V"⟩
abbrev b_Walk_search : ByteArray := prog_12_method_5_code
theorem mi_Walk_search : MI y_Walk_search b_Walk_search 1 none 0 := ⟨w_569, w_7, by decide +kernel, by decide, by decide⟩
theorem mv_Walk_search : MV y_Walk_search := ⟨w_567, w_568⟩
theorem d_Walk_search_0 : decode b_Walk_search 0 = .ok (.aload_n 0, 1) := by decide +kernel
theorem d_Walk_search_1 : decode b_Walk_search 1 = .ok (.iconst 0, 1) := by decide +kernel
theorem d_Walk_search_2 : decode b_Walk_search 2 = .ok (.iconst 0, 1) := by decide +kernel
theorem d_Walk_search_3 : decode b_Walk_search 3 = .ok (.invokevirtual 64, 3) := by decide +kernel
theorem d_Walk_search_6 : decode b_Walk_search 6 = .ok (.return_, 1) := by decide +kernel
abbrev y_Hb_findRoom : MethodName := ⟨"SmallHarbour", "findRoom", "(I)I"⟩
abbrev b_Hb_findRoom : ByteArray := prog_1_method_39_code
theorem mi_Hb_findRoom : MI y_Hb_findRoom b_Hb_findRoom 2 (some .int) 1 := ⟨w_546, w_1, by decide +kernel, by decide, by decide⟩
theorem mv_Hb_findRoom : MV y_Hb_findRoom := ⟨w_545, w_s1_6⟩
theorem d_Hb_findRoom_0 : decode b_Hb_findRoom 0 = .ok (.aload_n 0, 1) := by decide +kernel
theorem d_Hb_findRoom_1 : decode b_Hb_findRoom 1 = .ok (.iload_n 1, 1) := by decide +kernel
theorem d_Hb_findRoom_2 : decode b_Hb_findRoom 2 = .ok (.invokevirtual 272, 3) := by decide +kernel
theorem d_Hb_findRoom_5 : decode b_Hb_findRoom 5 = .ok (.ifCond .ne 6, 3) := by decide +kernel
theorem d_Hb_findRoom_8 : decode b_Hb_findRoom 8 = .ok (.bipush (-2), 2) := by decide +kernel
theorem d_Hb_findRoom_10 : decode b_Hb_findRoom 10 = .ok (.ireturn, 1) := by decide +kernel
theorem d_Hb_findRoom_11 : decode b_Hb_findRoom 11 = .ok (.aload_n 0, 1) := by decide +kernel
theorem d_Hb_findRoom_12 : decode b_Hb_findRoom 12 = .ok (.getfield 47, 3) := by decide +kernel
theorem d_Hb_findRoom_15 : decode b_Hb_findRoom 15 = .ok (.invokevirtual 275, 3) := by decide +kernel
theorem d_Hb_findRoom_18 : decode b_Hb_findRoom 18 = .ok (.aload_n 0, 1) := by decide +kernel
theorem d_Hb_findRoom_19 : decode b_Hb_findRoom 19 = .ok (.getfield 47, 3) := by decide +kernel
theorem d_Hb_findRoom_22 : decode b_Hb_findRoom 22 = .ok (.invokevirtual 278, 3) := by decide +kernel
theorem d_Hb_findRoom_25 : decode b_Hb_findRoom 25 = .ok (.ifCond .eq 6, 3) := by decide +kernel
theorem d_Hb_findRoom_28 : decode b_Hb_findRoom 28 = .ok (.bipush (-2), 2) := by decide +kernel
theorem d_Hb_findRoom_30 : decode b_Hb_findRoom 30 = .ok (.ireturn, 1) := by decide +kernel
theorem d_Hb_findRoom_31 : decode b_Hb_findRoom 31 = .ok (.aload_n 0, 1) := by decide +kernel
theorem d_Hb_findRoom_32 : decode b_Hb_findRoom 32 = .ok (.getfield 47, 3) := by decide +kernel
theorem d_Hb_findRoom_35 : decode b_Hb_findRoom 35 = .ok (.invokevirtual 281, 3) := by decide +kernel
theorem d_Hb_findRoom_38 : decode b_Hb_findRoom 38 = .ok (.ifCond .ne 5, 3) := by decide +kernel
theorem d_Hb_findRoom_41 : decode b_Hb_findRoom 41 = .ok (.iconst (-1), 1) := by decide +kernel
theorem d_Hb_findRoom_42 : decode b_Hb_findRoom 42 = .ok (.ireturn, 1) := by decide +kernel
theorem d_Hb_findRoom_43 : decode b_Hb_findRoom 43 = .ok (.aload_n 0, 1) := by decide +kernel
theorem d_Hb_findRoom_44 : decode b_Hb_findRoom 44 = .ok (.getfield 40, 3) := by decide +kernel
theorem d_Hb_findRoom_47 : decode b_Hb_findRoom 47 = .ok (.getfield 260, 3) := by decide +kernel
theorem d_Hb_findRoom_50 : decode b_Hb_findRoom 50 = .ok (.aload_n 0, 1) := by decide +kernel
theorem d_Hb_findRoom_51 : decode b_Hb_findRoom 51 = .ok (.getfield 47, 3) := by decide +kernel
theorem d_Hb_findRoom_54 : decode b_Hb_findRoom 54 = .ok (.iload_n 1, 1) := by decide +kernel
theorem d_Hb_findRoom_55 : decode b_Hb_findRoom 55 = .ok (.invokevirtual 284, 3) := by decide +kernel
theorem d_Hb_findRoom_58 : decode b_Hb_findRoom 58 = .ok (.iadd, 1) := by decide +kernel
theorem d_Hb_findRoom_59 : decode b_Hb_findRoom 59 = .ok (.bipush 40, 2) := by decide +kernel
theorem d_Hb_findRoom_61 : decode b_Hb_findRoom 61 = .ok (.if_icmp .le 6, 3) := by decide +kernel
theorem d_Hb_findRoom_64 : decode b_Hb_findRoom 64 = .ok (.bipush (-3), 2) := by decide +kernel
theorem d_Hb_findRoom_66 : decode b_Hb_findRoom 66 = .ok (.ireturn, 1) := by decide +kernel
theorem d_Hb_findRoom_67 : decode b_Hb_findRoom 67 = .ok (.aload_n 0, 1) := by decide +kernel
theorem d_Hb_findRoom_68 : decode b_Hb_findRoom 68 = .ok (.iload_n 1, 1) := by decide +kernel
theorem d_Hb_findRoom_69 : decode b_Hb_findRoom 69 = .ok (.invokevirtual 287, 3) := by decide +kernel
theorem d_Hb_findRoom_72 : decode b_Hb_findRoom 72 = .ok (.aload_n 0, 1) := by decide +kernel
theorem d_Hb_findRoom_73 : decode b_Hb_findRoom 73 = .ok (.getfield 93, 3) := by decide +kernel
theorem d_Hb_findRoom_76 : decode b_Hb_findRoom 76 = .ok (.ireturn, 1) := by decide +kernel
abbrev y_Hb_fits : MethodName := ⟨"SmallHarbour", "fits", "(III)I"⟩
abbrev b_Hb_fits : ByteArray := prog_1_method_7_code
theorem mi_Hb_fits : MI y_Hb_fits b_Hb_fits 4 (some .int) 3 := ⟨w_487, w_1, by decide +kernel, by decide, by decide⟩
theorem mv_Hb_fits : MV y_Hb_fits := ⟨w_485, w_486⟩
theorem d_Hb_fits_0 : decode b_Hb_fits 0 = .ok (.aload_n 0, 1) := by decide +kernel
theorem d_Hb_fits_1 : decode b_Hb_fits 1 = .ok (.getfield 26, 3) := by decide +kernel
theorem d_Hb_fits_4 : decode b_Hb_fits 4 = .ok (.iload_n 1, 1) := by decide +kernel
theorem d_Hb_fits_5 : decode b_Hb_fits 5 = .ok (.invokevirtual 130, 3) := by decide +kernel
theorem d_Hb_fits_8 : decode b_Hb_fits 8 = .ok (.ifCond .eq 21, 3) := by decide +kernel
theorem d_Hb_fits_11 : decode b_Hb_fits 11 = .ok (.aload_n 0, 1) := by decide +kernel
theorem d_Hb_fits_12 : decode b_Hb_fits 12 = .ok (.getfield 19, 3) := by decide +kernel
theorem d_Hb_fits_15 : decode b_Hb_fits 15 = .ok (.iload_n 2, 1) := by decide +kernel
theorem d_Hb_fits_16 : decode b_Hb_fits 16 = .ok (.invokevirtual 148, 3) := by decide +kernel
theorem d_Hb_fits_19 : decode b_Hb_fits 19 = .ok (.ifCond .eq 10, 3) := by decide +kernel
theorem d_Hb_fits_22 : decode b_Hb_fits 22 = .ok (.iload_n 3, 1) := by decide +kernel
theorem d_Hb_fits_23 : decode b_Hb_fits 23 = .ok (.invokestatic 149, 3) := by decide +kernel
theorem d_Hb_fits_26 : decode b_Hb_fits 26 = .ok (.ifCond .ne 5, 3) := by decide +kernel
theorem d_Hb_fits_29 : decode b_Hb_fits 29 = .ok (.iconst (-1), 1) := by decide +kernel
theorem d_Hb_fits_30 : decode b_Hb_fits 30 = .ok (.ireturn, 1) := by decide +kernel
theorem d_Hb_fits_31 : decode b_Hb_fits 31 = .ok (.aload_n 0, 1) := by decide +kernel
theorem d_Hb_fits_32 : decode b_Hb_fits 32 = .ok (.iload_n 1, 1) := by decide +kernel
theorem d_Hb_fits_33 : decode b_Hb_fits 33 = .ok (.iload_n 2, 1) := by decide +kernel
theorem d_Hb_fits_34 : decode b_Hb_fits 34 = .ok (.iload_n 3, 1) := by decide +kernel
theorem d_Hb_fits_35 : decode b_Hb_fits 35 = .ok (.iload_n 3, 1) := by decide +kernel
theorem d_Hb_fits_36 : decode b_Hb_fits 36 = .ok (.iconst 1, 1) := by decide +kernel
theorem d_Hb_fits_37 : decode b_Hb_fits 37 = .ok (.iadd, 1) := by decide +kernel
theorem d_Hb_fits_38 : decode b_Hb_fits 38 = .ok (.invokevirtual 152, 3) := by decide +kernel
theorem d_Hb_fits_41 : decode b_Hb_fits 41 = .ok (.ifCond .eq 7, 3) := by decide +kernel
theorem d_Hb_fits_44 : decode b_Hb_fits 44 = .ok (.iconst 1, 1) := by decide +kernel
theorem d_Hb_fits_45 : decode b_Hb_fits 45 = .ok (.goto 4, 3) := by decide +kernel
theorem d_Hb_fits_48 : decode b_Hb_fits 48 = .ok (.iconst 0, 1) := by decide +kernel
theorem d_Hb_fits_49 : decode b_Hb_fits 49 = .ok (.ireturn, 1) := by decide +kernel
abbrev y_Hoist_set : MethodName := ⟨"SmallHarbour$Hoist", "set", "(III)Z"⟩
abbrev b_Hoist_set : ByteArray := prog_4_method_2_code
theorem mi_Hoist_set : MI y_Hoist_set b_Hoist_set 4 (some .boolean) 3 := ⟨w_646, w_8, by decide +kernel, by decide, by decide⟩
theorem mv_Hoist_set : MV y_Hoist_set := ⟨w_644, w_645⟩
theorem d_Hoist_set_0 : decode b_Hoist_set 0 = .ok (.iload_n 1, 1) := by decide +kernel
theorem d_Hoist_set_1 : decode b_Hoist_set 1 = .ok (.iconst 0, 1) := by decide +kernel
theorem d_Hoist_set_2 : decode b_Hoist_set 2 = .ok (.bipush 40, 2) := by decide +kernel
theorem d_Hoist_set_4 : decode b_Hoist_set 4 = .ok (.invokestatic 38, 3) := by decide +kernel
theorem d_Hoist_set_7 : decode b_Hoist_set 7 = .ok (.ifCond .eq 14, 3) := by decide +kernel
theorem d_Hoist_set_10 : decode b_Hoist_set 10 = .ok (.iload_n 2, 1) := by decide +kernel
theorem d_Hoist_set_11 : decode b_Hoist_set 11 = .ok (.iconst 1, 1) := by decide +kernel
theorem d_Hoist_set_12 : decode b_Hoist_set 12 = .ok (.sipush 500, 3) := by decide +kernel
theorem d_Hoist_set_15 : decode b_Hoist_set 15 = .ok (.invokestatic 38, 3) := by decide +kernel
theorem d_Hoist_set_18 : decode b_Hoist_set 18 = .ok (.ifCond .ne 5, 3) := by decide +kernel
theorem d_Hoist_set_21 : decode b_Hoist_set 21 = .ok (.iconst 0, 1) := by decide +kernel
theorem d_Hoist_set_22 : decode b_Hoist_set 22 = .ok (.ireturn, 1) := by decide +kernel
theorem d_Hoist_set_23 : decode b_Hoist_set 23 = .ok (.iload_n 3, 1) := by decide +kernel
theorem d_Hoist_set_24 : decode b_Hoist_set 24 = .ok (.iconst 1, 1) := by decide +kernel
theorem d_Hoist_set_25 : decode b_Hoist_set 25 = .ok (.sipush 600, 3) := by decide +kernel
theorem d_Hoist_set_28 : decode b_Hoist_set 28 = .ok (.invokestatic 38, 3) := by decide +kernel
theorem d_Hoist_set_31 : decode b_Hoist_set 31 = .ok (.ifCond .ne 5, 3) := by decide +kernel
theorem d_Hoist_set_34 : decode b_Hoist_set 34 = .ok (.iconst 0, 1) := by decide +kernel
theorem d_Hoist_set_35 : decode b_Hoist_set 35 = .ok (.ireturn, 1) := by decide +kernel
theorem d_Hoist_set_36 : decode b_Hoist_set 36 = .ok (.aload_n 0, 1) := by decide +kernel
theorem d_Hoist_set_37 : decode b_Hoist_set 37 = .ok (.iload_n 1, 1) := by decide +kernel
theorem d_Hoist_set_38 : decode b_Hoist_set 38 = .ok (.putfield 19, 3) := by decide +kernel
theorem d_Hoist_set_41 : decode b_Hoist_set 41 = .ok (.aload_n 0, 1) := by decide +kernel
theorem d_Hoist_set_42 : decode b_Hoist_set 42 = .ok (.iload_n 2, 1) := by decide +kernel
theorem d_Hoist_set_43 : decode b_Hoist_set 43 = .ok (.putfield 22, 3) := by decide +kernel
theorem d_Hoist_set_46 : decode b_Hoist_set 46 = .ok (.aload_n 0, 1) := by decide +kernel
theorem d_Hoist_set_47 : decode b_Hoist_set 47 = .ok (.iload_n 3, 1) := by decide +kernel
theorem d_Hoist_set_48 : decode b_Hoist_set 48 = .ok (.putfield 25, 3) := by decide +kernel
theorem d_Hoist_set_51 : decode b_Hoist_set 51 = .ok (.iconst 1, 1) := by decide +kernel
theorem d_Hoist_set_52 : decode b_Hoist_set 52 = .ok (.ireturn, 1) := by decide +kernel
abbrev y_Hb_hoist : MethodName := ⟨"SmallHarbour", "hoist", "(III)Z"⟩
abbrev b_Hb_hoist : ByteArray := prog_1_method_15_code
theorem mi_Hb_hoist : MI y_Hb_hoist b_Hb_hoist 4 (some .boolean) 3 := ⟨w_642, w_1, by decide +kernel, by decide, by decide⟩
theorem mv_Hb_hoist : MV y_Hb_hoist := ⟨w_640, w_641⟩
theorem d_Hb_hoist_0 : decode b_Hb_hoist 0 = .ok (.aload_n 0, 1) := by decide +kernel
theorem d_Hb_hoist_1 : decode b_Hb_hoist 1 = .ok (.getfield 54, 3) := by decide +kernel
theorem d_Hb_hoist_4 : decode b_Hb_hoist 4 = .ok (.iload_n 1, 1) := by decide +kernel
theorem d_Hb_hoist_5 : decode b_Hb_hoist 5 = .ok (.iload_n 2, 1) := by decide +kernel
theorem d_Hb_hoist_6 : decode b_Hb_hoist 6 = .ok (.iload_n 3, 1) := by decide +kernel
theorem d_Hb_hoist_7 : decode b_Hb_hoist 7 = .ok (.invokevirtual 208, 3) := by decide +kernel
theorem d_Hb_hoist_10 : decode b_Hb_hoist 10 = .ok (.ireturn, 1) := by decide +kernel
abbrev y_Spans_remove : MethodName := ⟨"SmallHarbour$Spans", "remove", "(I)V"⟩
abbrev b_Spans_remove : ByteArray := prog_8_method_3_code
theorem mi_Spans_remove : MI y_Spans_remove b_Spans_remove 2 none 1 := ⟨w_603, w_5, by decide +kernel, by decide, by decide⟩
theorem mv_Spans_remove : MV y_Spans_remove := ⟨w_601, w_602⟩
theorem d_Spans_remove_0 : decode b_Spans_remove 0 = .ok (.iload_n 1, 1) := by decide +kernel
theorem d_Spans_remove_1 : decode b_Spans_remove 1 = .ok (.ifCond .lt 11, 3) := by decide +kernel
theorem d_Spans_remove_4 : decode b_Spans_remove 4 = .ok (.iload_n 1, 1) := by decide +kernel
theorem d_Spans_remove_5 : decode b_Spans_remove 5 = .ok (.aload_n 0, 1) := by decide +kernel
theorem d_Spans_remove_6 : decode b_Spans_remove 6 = .ok (.getfield 21, 3) := by decide +kernel
theorem d_Spans_remove_9 : decode b_Spans_remove 9 = .ok (.if_icmp .lt 4, 3) := by decide +kernel
theorem d_Spans_remove_12 : decode b_Spans_remove 12 = .ok (.return_, 1) := by decide +kernel
theorem d_Spans_remove_13 : decode b_Spans_remove 13 = .ok (.aload_n 0, 1) := by decide +kernel
theorem d_Spans_remove_14 : decode b_Spans_remove 14 = .ok (.dup, 1) := by decide +kernel
theorem d_Spans_remove_15 : decode b_Spans_remove 15 = .ok (.getfield 21, 3) := by decide +kernel
theorem d_Spans_remove_18 : decode b_Spans_remove 18 = .ok (.iconst 1, 1) := by decide +kernel
theorem d_Spans_remove_19 : decode b_Spans_remove 19 = .ok (.isub, 1) := by decide +kernel
theorem d_Spans_remove_20 : decode b_Spans_remove 20 = .ok (.putfield 21, 3) := by decide +kernel
theorem d_Spans_remove_23 : decode b_Spans_remove 23 = .ok (.aload_n 0, 1) := by decide +kernel
theorem d_Spans_remove_24 : decode b_Spans_remove 24 = .ok (.getfield 9, 3) := by decide +kernel
theorem d_Spans_remove_27 : decode b_Spans_remove 27 = .ok (.iload_n 1, 1) := by decide +kernel
theorem d_Spans_remove_28 : decode b_Spans_remove 28 = .ok (.aload_n 0, 1) := by decide +kernel
theorem d_Spans_remove_29 : decode b_Spans_remove 29 = .ok (.getfield 9, 3) := by decide +kernel
theorem d_Spans_remove_32 : decode b_Spans_remove 32 = .ok (.aload_n 0, 1) := by decide +kernel
theorem d_Spans_remove_33 : decode b_Spans_remove 33 = .ok (.getfield 21, 3) := by decide +kernel
theorem d_Spans_remove_36 : decode b_Spans_remove 36 = .ok (.iaload, 1) := by decide +kernel
theorem d_Spans_remove_37 : decode b_Spans_remove 37 = .ok (.iastore, 1) := by decide +kernel
theorem d_Spans_remove_38 : decode b_Spans_remove 38 = .ok (.aload_n 0, 1) := by decide +kernel
theorem d_Spans_remove_39 : decode b_Spans_remove 39 = .ok (.getfield 15, 3) := by decide +kernel
theorem d_Spans_remove_42 : decode b_Spans_remove 42 = .ok (.iload_n 1, 1) := by decide +kernel
theorem d_Spans_remove_43 : decode b_Spans_remove 43 = .ok (.aload_n 0, 1) := by decide +kernel
theorem d_Spans_remove_44 : decode b_Spans_remove 44 = .ok (.getfield 15, 3) := by decide +kernel
theorem d_Spans_remove_47 : decode b_Spans_remove 47 = .ok (.aload_n 0, 1) := by decide +kernel
theorem d_Spans_remove_48 : decode b_Spans_remove 48 = .ok (.getfield 21, 3) := by decide +kernel
theorem d_Spans_remove_51 : decode b_Spans_remove 51 = .ok (.iaload, 1) := by decide +kernel
theorem d_Spans_remove_52 : decode b_Spans_remove 52 = .ok (.iastore, 1) := by decide +kernel
theorem d_Spans_remove_53 : decode b_Spans_remove 53 = .ok (.aload_n 0, 1) := by decide +kernel
theorem d_Spans_remove_54 : decode b_Spans_remove 54 = .ok (.getfield 18, 3) := by decide +kernel
theorem d_Spans_remove_57 : decode b_Spans_remove 57 = .ok (.iload_n 1, 1) := by decide +kernel
theorem d_Spans_remove_58 : decode b_Spans_remove 58 = .ok (.aload_n 0, 1) := by decide +kernel
theorem d_Spans_remove_59 : decode b_Spans_remove 59 = .ok (.getfield 18, 3) := by decide +kernel
theorem d_Spans_remove_62 : decode b_Spans_remove 62 = .ok (.aload_n 0, 1) := by decide +kernel
theorem d_Spans_remove_63 : decode b_Spans_remove 63 = .ok (.getfield 21, 3) := by decide +kernel
theorem d_Spans_remove_66 : decode b_Spans_remove 66 = .ok (.iaload, 1) := by decide +kernel
theorem d_Spans_remove_67 : decode b_Spans_remove 67 = .ok (.iastore, 1) := by decide +kernel
theorem d_Spans_remove_68 : decode b_Spans_remove 68 = .ok (.return_, 1) := by decide +kernel
abbrev y_Hb_home : MethodName := ⟨"SmallHarbour", "home", "(II)I"⟩
abbrev b_Hb_home : ByteArray := prog_1_method_12_code
theorem mi_Hb_home : MI y_Hb_home b_Hb_home 6 (some .int) 2 := ⟨w_542, w_1, by decide +kernel, by decide, by decide⟩
theorem mv_Hb_home : MV y_Hb_home := ⟨w_540, w_541⟩
theorem d_Hb_home_0 : decode b_Hb_home 0 = .ok (.aload_n 0, 1) := by decide +kernel
theorem d_Hb_home_1 : decode b_Hb_home 1 = .ok (.getfield 33, 3) := by decide +kernel
theorem d_Hb_home_4 : decode b_Hb_home 4 = .ok (.iload_n 1, 1) := by decide +kernel
theorem d_Hb_home_5 : decode b_Hb_home 5 = .ok (.iload_n 2, 1) := by decide +kernel
theorem d_Hb_home_6 : decode b_Hb_home 6 = .ok (.invokevirtual 189, 3) := by decide +kernel
theorem d_Hb_home_9 : decode b_Hb_home 9 = .ok (.istore_n 3, 1) := by decide +kernel
theorem d_Hb_home_10 : decode b_Hb_home 10 = .ok (.iload_n 3, 1) := by decide +kernel
theorem d_Hb_home_11 : decode b_Hb_home 11 = .ok (.iconst (-1), 1) := by decide +kernel
theorem d_Hb_home_12 : decode b_Hb_home 12 = .ok (.if_icmp .ne 5, 3) := by decide +kernel
theorem d_Hb_home_15 : decode b_Hb_home 15 = .ok (.iconst (-1), 1) := by decide +kernel
theorem d_Hb_home_16 : decode b_Hb_home 16 = .ok (.ireturn, 1) := by decide +kernel
theorem d_Hb_home_17 : decode b_Hb_home 17 = .ok (.aload_n 0, 1) := by decide +kernel
theorem d_Hb_home_18 : decode b_Hb_home 18 = .ok (.getfield 33, 3) := by decide +kernel
theorem d_Hb_home_21 : decode b_Hb_home 21 = .ok (.getfield 192, 3) := by decide +kernel
theorem d_Hb_home_24 : decode b_Hb_home 24 = .ok (.iload_n 3, 1) := by decide +kernel
theorem d_Hb_home_25 : decode b_Hb_home 25 = .ok (.iaload, 1) := by decide +kernel
theorem d_Hb_home_26 : decode b_Hb_home 26 = .ok (.istore 4, 2) := by decide +kernel
theorem d_Hb_home_28 : decode b_Hb_home 28 = .ok (.aload_n 0, 1) := by decide +kernel
theorem d_Hb_home_29 : decode b_Hb_home 29 = .ok (.getfield 33, 3) := by decide +kernel
theorem d_Hb_home_32 : decode b_Hb_home 32 = .ok (.getfield 192, 3) := by decide +kernel
theorem d_Hb_home_35 : decode b_Hb_home 35 = .ok (.iload_n 3, 1) := by decide +kernel
theorem d_Hb_home_36 : decode b_Hb_home 36 = .ok (.iload_n 2, 1) := by decide +kernel
theorem d_Hb_home_37 : decode b_Hb_home 37 = .ok (.iastore, 1) := by decide +kernel
theorem d_Hb_home_38 : decode b_Hb_home 38 = .ok (.aload_n 0, 1) := by decide +kernel
theorem d_Hb_home_39 : decode b_Hb_home 39 = .ok (.iload_n 2, 1) := by decide +kernel
theorem d_Hb_home_40 : decode b_Hb_home 40 = .ok (.invokevirtual 193, 3) := by decide +kernel
theorem d_Hb_home_43 : decode b_Hb_home 43 = .ok (.istore 5, 2) := by decide +kernel
theorem d_Hb_home_45 : decode b_Hb_home 45 = .ok (.iload 5, 2) := by decide +kernel
theorem d_Hb_home_47 : decode b_Hb_home 47 = .ok (.ifCond .ge 17, 3) := by decide +kernel
theorem d_Hb_home_50 : decode b_Hb_home 50 = .ok (.aload_n 0, 1) := by decide +kernel
theorem d_Hb_home_51 : decode b_Hb_home 51 = .ok (.getfield 33, 3) := by decide +kernel
theorem d_Hb_home_54 : decode b_Hb_home 54 = .ok (.getfield 192, 3) := by decide +kernel
theorem d_Hb_home_57 : decode b_Hb_home 57 = .ok (.iload_n 3, 1) := by decide +kernel
theorem d_Hb_home_58 : decode b_Hb_home 58 = .ok (.iload 4, 2) := by decide +kernel
theorem d_Hb_home_60 : decode b_Hb_home 60 = .ok (.iastore, 1) := by decide +kernel
theorem d_Hb_home_61 : decode b_Hb_home 61 = .ok (.goto 24, 3) := by decide +kernel
theorem d_Hb_home_64 : decode b_Hb_home 64 = .ok (.aload_n 0, 1) := by decide +kernel
theorem d_Hb_home_65 : decode b_Hb_home 65 = .ok (.getfield 33, 3) := by decide +kernel
theorem d_Hb_home_68 : decode b_Hb_home 68 = .ok (.getfield 197, 3) := by decide +kernel
theorem d_Hb_home_71 : decode b_Hb_home 71 = .ok (.iload_n 3, 1) := by decide +kernel
theorem d_Hb_home_72 : decode b_Hb_home 72 = .ok (.iaload, 1) := by decide +kernel
theorem d_Hb_home_73 : decode b_Hb_home 73 = .ok (.iload_n 2, 1) := by decide +kernel
theorem d_Hb_home_74 : decode b_Hb_home 74 = .ok (.if_icmp .ne 11, 3) := by decide +kernel
theorem d_Hb_home_77 : decode b_Hb_home 77 = .ok (.aload_n 0, 1) := by decide +kernel
theorem d_Hb_home_78 : decode b_Hb_home 78 = .ok (.getfield 33, 3) := by decide +kernel
theorem d_Hb_home_81 : decode b_Hb_home 81 = .ok (.iload_n 3, 1) := by decide +kernel
theorem d_Hb_home_82 : decode b_Hb_home 82 = .ok (.invokevirtual 198, 3) := by decide +kernel
theorem d_Hb_home_85 : decode b_Hb_home 85 = .ok (.iload 5, 2) := by decide +kernel
theorem d_Hb_home_87 : decode b_Hb_home 87 = .ok (.ireturn, 1) := by decide +kernel
abbrev y_Hb_isTideFixed : MethodName := ⟨"SmallHarbour", "isTideFixed", "()Z"⟩
abbrev b_Hb_isTideFixed : ByteArray := prog_1_method_33_code
theorem mi_Hb_isTideFixed : MI y_Hb_isTideFixed b_Hb_isTideFixed 1 (some .boolean) 0 := ⟨w_394, w_1, by decide +kernel, by decide, by decide⟩
theorem mv_Hb_isTideFixed : MV y_Hb_isTideFixed := ⟨w_393, w_s1_0⟩
theorem d_Hb_isTideFixed_0 : decode b_Hb_isTideFixed 0 = .ok (.aload_n 0, 1) := by decide +kernel
theorem d_Hb_isTideFixed_1 : decode b_Hb_isTideFixed 1 = .ok (.getfield 40, 3) := by decide +kernel
theorem d_Hb_isTideFixed_4 : decode b_Hb_isTideFixed 4 = .ok (.getfield 260, 3) := by decide +kernel
theorem d_Hb_isTideFixed_7 : decode b_Hb_isTideFixed 7 = .ok (.ifCond .gt 13, 3) := by decide +kernel
theorem d_Hb_isTideFixed_10 : decode b_Hb_isTideFixed 10 = .ok (.aload_n 0, 1) := by decide +kernel
theorem d_Hb_isTideFixed_11 : decode b_Hb_isTideFixed 11 = .ok (.getfield 19, 3) := by decide +kernel
theorem d_Hb_isTideFixed_14 : decode b_Hb_isTideFixed 14 = .ok (.invokevirtual 263, 3) := by decide +kernel
theorem d_Hb_isTideFixed_17 : decode b_Hb_isTideFixed 17 = .ok (.ifCond .eq 7, 3) := by decide +kernel
theorem d_Hb_isTideFixed_20 : decode b_Hb_isTideFixed 20 = .ok (.iconst 1, 1) := by decide +kernel
theorem d_Hb_isTideFixed_21 : decode b_Hb_isTideFixed 21 = .ok (.goto 4, 3) := by decide +kernel
theorem d_Hb_isTideFixed_24 : decode b_Hb_isTideFixed 24 = .ok (.iconst 0, 1) := by decide +kernel
theorem d_Hb_isTideFixed_25 : decode b_Hb_isTideFixed 25 = .ok (.ireturn, 1) := by decide +kernel
abbrev y_Shed_isFilled : MethodName := ⟨"SmallHarbour$Shed", "isFilled", "()Z"⟩
abbrev b_Shed_isFilled : ByteArray := prog_7_method_4_code
theorem mi_Shed_isFilled : MI y_Shed_isFilled b_Shed_isFilled 1 (some .boolean) 0 := ⟨w_712, w_9, by decide +kernel, by decide, by decide⟩
theorem mv_Shed_isFilled : MV y_Shed_isFilled := ⟨w_710, w_711⟩
theorem d_Shed_isFilled_0 : decode b_Shed_isFilled 0 = .ok (.aload_n 0, 1) := by decide +kernel
theorem d_Shed_isFilled_1 : decode b_Shed_isFilled 1 = .ok (.getfield 15, 3) := by decide +kernel
theorem d_Shed_isFilled_4 : decode b_Shed_isFilled 4 = .ok (.bipush 81, 2) := by decide +kernel
theorem d_Shed_isFilled_6 : decode b_Shed_isFilled 6 = .ok (.if_icmp .eq 7, 3) := by decide +kernel
theorem d_Shed_isFilled_9 : decode b_Shed_isFilled 9 = .ok (.iconst 1, 1) := by decide +kernel
theorem d_Shed_isFilled_10 : decode b_Shed_isFilled 10 = .ok (.goto 4, 3) := by decide +kernel
theorem d_Shed_isFilled_13 : decode b_Shed_isFilled 13 = .ok (.iconst 0, 1) := by decide +kernel
theorem d_Shed_isFilled_14 : decode b_Shed_isFilled 14 = .ok (.ireturn, 1) := by decide +kernel
abbrev y_Hb_lane : MethodName := ⟨"SmallHarbour", "lane", "(I)I"⟩
abbrev b_Hb_lane : ByteArray := prog_1_method_22_code
theorem mi_Hb_lane : MI y_Hb_lane b_Hb_lane 2 (some .int) 1 := ⟨w_716, w_1, by decide +kernel, by decide, by decide⟩
theorem mv_Hb_lane : MV y_Hb_lane := ⟨w_714, w_715⟩
theorem d_Hb_lane_0 : decode b_Hb_lane 0 = .ok (.iload_n 1, 1) := by decide +kernel
theorem d_Hb_lane_1 : decode b_Hb_lane 1 = .ok (.ifCond .lt 24, 3) := by decide +kernel
theorem d_Hb_lane_4 : decode b_Hb_lane 4 = .ok (.iload_n 1, 1) := by decide +kernel
theorem d_Hb_lane_5 : decode b_Hb_lane 5 = .ok (.aload_n 0, 1) := by decide +kernel
theorem d_Hb_lane_6 : decode b_Hb_lane 6 = .ok (.getfield 61, 3) := by decide +kernel
theorem d_Hb_lane_9 : decode b_Hb_lane 9 = .ok (.getfield 230, 3) := by decide +kernel
theorem d_Hb_lane_12 : decode b_Hb_lane 12 = .ok (.if_icmp .ge 13, 3) := by decide +kernel
theorem d_Hb_lane_15 : decode b_Hb_lane 15 = .ok (.aload_n 0, 1) := by decide +kernel
theorem d_Hb_lane_16 : decode b_Hb_lane 16 = .ok (.getfield 61, 3) := by decide +kernel
theorem d_Hb_lane_19 : decode b_Hb_lane 19 = .ok (.invokevirtual 224, 3) := by decide +kernel
theorem d_Hb_lane_22 : decode b_Hb_lane 22 = .ok (.ifCond .ne 7, 3) := by decide +kernel
theorem d_Hb_lane_25 : decode b_Hb_lane 25 = .ok (.iconst (-1), 1) := by decide +kernel
theorem d_Hb_lane_26 : decode b_Hb_lane 26 = .ok (.goto 12, 3) := by decide +kernel
theorem d_Hb_lane_29 : decode b_Hb_lane 29 = .ok (.aload_n 0, 1) := by decide +kernel
theorem d_Hb_lane_30 : decode b_Hb_lane 30 = .ok (.getfield 61, 3) := by decide +kernel
theorem d_Hb_lane_33 : decode b_Hb_lane 33 = .ok (.getfield 231, 3) := by decide +kernel
theorem d_Hb_lane_36 : decode b_Hb_lane 36 = .ok (.iload_n 1, 1) := by decide +kernel
theorem d_Hb_lane_37 : decode b_Hb_lane 37 = .ok (.iaload, 1) := by decide +kernel
theorem d_Hb_lane_38 : decode b_Hb_lane 38 = .ok (.ireturn, 1) := by decide +kernel
abbrev y_Stays_has : MethodName := ⟨"SmallHarbour$Stays", "has", "(I)Z"⟩
abbrev b_Stays_has : ByteArray := prog_9_method_2_code
theorem mi_Stays_has : MI y_Stays_has b_Stays_has 2 (some .boolean) 1 := ⟨w_538, w_6, by decide +kernel, by decide, by decide⟩
theorem mv_Stays_has : MV y_Stays_has := ⟨w_536, w_537⟩
theorem d_Stays_has_0 : decode b_Stays_has 0 = .ok (.iload_n 1, 1) := by decide +kernel
theorem d_Stays_has_1 : decode b_Stays_has 1 = .ok (.ifCond .lt 15, 3) := by decide +kernel
theorem d_Stays_has_4 : decode b_Stays_has 4 = .ok (.iload_n 1, 1) := by decide +kernel
theorem d_Stays_has_5 : decode b_Stays_has 5 = .ok (.aload_n 0, 1) := by decide +kernel
theorem d_Stays_has_6 : decode b_Stays_has 6 = .ok (.getfield 24, 3) := by decide +kernel
theorem d_Stays_has_9 : decode b_Stays_has 9 = .ok (.if_icmp .ge 7, 3) := by decide +kernel
theorem d_Stays_has_12 : decode b_Stays_has 12 = .ok (.iconst 1, 1) := by decide +kernel
theorem d_Stays_has_13 : decode b_Stays_has 13 = .ok (.goto 4, 3) := by decide +kernel
theorem d_Stays_has_16 : decode b_Stays_has 16 = .ok (.iconst 0, 1) := by decide +kernel
theorem d_Stays_has_17 : decode b_Stays_has 17 = .ok (.ireturn, 1) := by decide +kernel
abbrev y_Hb_leaves : MethodName := ⟨"SmallHarbour", "leaves", "(II)Z"⟩
abbrev b_Hb_leaves : ByteArray := prog_1_method_11_code
theorem mi_Hb_leaves : MI y_Hb_leaves b_Hb_leaves 3 (some .boolean) 2 := ⟨w_534, w_1, by decide +kernel, by decide, by decide⟩
theorem mv_Hb_leaves : MV y_Hb_leaves := ⟨w_532, w_533⟩
theorem d_Hb_leaves_0 : decode b_Hb_leaves 0 = .ok (.aload_n 0, 1) := by decide +kernel
theorem d_Hb_leaves_1 : decode b_Hb_leaves 1 = .ok (.getfield 40, 3) := by decide +kernel
theorem d_Hb_leaves_4 : decode b_Hb_leaves 4 = .ok (.iload_n 1, 1) := by decide +kernel
theorem d_Hb_leaves_5 : decode b_Hb_leaves 5 = .ok (.invokevirtual 182, 3) := by decide +kernel
theorem d_Hb_leaves_8 : decode b_Hb_leaves 8 = .ok (.ifCond .eq 29, 3) := by decide +kernel
theorem d_Hb_leaves_11 : decode b_Hb_leaves 11 = .ok (.iload_n 2, 1) := by decide +kernel
theorem d_Hb_leaves_12 : decode b_Hb_leaves 12 = .ok (.aload_n 0, 1) := by decide +kernel
theorem d_Hb_leaves_13 : decode b_Hb_leaves 13 = .ok (.getfield 40, 3) := by decide +kernel
theorem d_Hb_leaves_16 : decode b_Hb_leaves 16 = .ok (.getfield 183, 3) := by decide +kernel
theorem d_Hb_leaves_19 : decode b_Hb_leaves 19 = .ok (.iload_n 1, 1) := by decide +kernel
theorem d_Hb_leaves_20 : decode b_Hb_leaves 20 = .ok (.iaload, 1) := by decide +kernel
theorem d_Hb_leaves_21 : decode b_Hb_leaves 21 = .ok (.if_icmp .le 16, 3) := by decide +kernel
theorem d_Hb_leaves_24 : decode b_Hb_leaves 24 = .ok (.iload_n 2, 1) := by decide +kernel
theorem d_Hb_leaves_25 : decode b_Hb_leaves 25 = .ok (.aload_n 0, 1) := by decide +kernel
theorem d_Hb_leaves_26 : decode b_Hb_leaves 26 = .ok (.getfield 40, 3) := by decide +kernel
theorem d_Hb_leaves_29 : decode b_Hb_leaves 29 = .ok (.getfield 186, 3) := by decide +kernel
theorem d_Hb_leaves_32 : decode b_Hb_leaves 32 = .ok (.iload_n 1, 1) := by decide +kernel
theorem d_Hb_leaves_33 : decode b_Hb_leaves 33 = .ok (.iaload, 1) := by decide +kernel
theorem d_Hb_leaves_34 : decode b_Hb_leaves 34 = .ok (.if_icmp .lt 5, 3) := by decide +kernel
theorem d_Hb_leaves_37 : decode b_Hb_leaves 37 = .ok (.iconst 0, 1) := by decide +kernel
theorem d_Hb_leaves_38 : decode b_Hb_leaves 38 = .ok (.ireturn, 1) := by decide +kernel
theorem d_Hb_leaves_39 : decode b_Hb_leaves 39 = .ok (.aload_n 0, 1) := by decide +kernel
theorem d_Hb_leaves_40 : decode b_Hb_leaves 40 = .ok (.getfield 40, 3) := by decide +kernel
theorem d_Hb_leaves_43 : decode b_Hb_leaves 43 = .ok (.getfield 186, 3) := by decide +kernel
theorem d_Hb_leaves_46 : decode b_Hb_leaves 46 = .ok (.iload_n 1, 1) := by decide +kernel
theorem d_Hb_leaves_47 : decode b_Hb_leaves 47 = .ok (.iload_n 2, 1) := by decide +kernel
theorem d_Hb_leaves_48 : decode b_Hb_leaves 48 = .ok (.iastore, 1) := by decide +kernel
theorem d_Hb_leaves_49 : decode b_Hb_leaves 49 = .ok (.iconst 1, 1) := by decide +kernel
theorem d_Hb_leaves_50 : decode b_Hb_leaves 50 = .ok (.ireturn, 1) := by decide +kernel
abbrev y_Tide_put : MethodName := ⟨"SmallHarbour$Tide", "put", "(II)Z"⟩
abbrev b_Tide_put : ByteArray := prog_11_method_3_code
theorem mi_Tide_put : MI y_Tide_put b_Tide_put 3 (some .boolean) 2 := ⟨w_413, w_2, by decide +kernel, by decide, by decide⟩
theorem mv_Tide_put : MV y_Tide_put := ⟨w_411, w_412⟩
theorem d_Tide_put_0 : decode b_Tide_put 0 = .ok (.iload_n 1, 1) := by decide +kernel
theorem d_Tide_put_1 : decode b_Tide_put 1 = .ok (.ifCond .lt 21, 3) := by decide +kernel
theorem d_Tide_put_4 : decode b_Tide_put 4 = .ok (.iload_n 1, 1) := by decide +kernel
theorem d_Tide_put_5 : decode b_Tide_put 5 = .ok (.aload_n 0, 1) := by decide +kernel
theorem d_Tide_put_6 : decode b_Tide_put 6 = .ok (.getfield 15, 3) := by decide +kernel
theorem d_Tide_put_9 : decode b_Tide_put 9 = .ok (.if_icmp .ge 13, 3) := by decide +kernel
theorem d_Tide_put_12 : decode b_Tide_put 12 = .ok (.iload_n 2, 1) := by decide +kernel
theorem d_Tide_put_13 : decode b_Tide_put 13 = .ok (.ifCond .lt 9, 3) := by decide +kernel
theorem d_Tide_put_16 : decode b_Tide_put 16 = .ok (.iload_n 2, 1) := by decide +kernel
theorem d_Tide_put_17 : decode b_Tide_put 17 = .ok (.bipush 40, 2) := by decide +kernel
theorem d_Tide_put_19 : decode b_Tide_put 19 = .ok (.if_icmp .le 5, 3) := by decide +kernel
theorem d_Tide_put_22 : decode b_Tide_put 22 = .ok (.iconst 0, 1) := by decide +kernel
theorem d_Tide_put_23 : decode b_Tide_put 23 = .ok (.ireturn, 1) := by decide +kernel
theorem d_Tide_put_24 : decode b_Tide_put 24 = .ok (.aload_n 0, 1) := by decide +kernel
theorem d_Tide_put_25 : decode b_Tide_put 25 = .ok (.getfield 9, 3) := by decide +kernel
theorem d_Tide_put_28 : decode b_Tide_put 28 = .ok (.iload_n 1, 1) := by decide +kernel
theorem d_Tide_put_29 : decode b_Tide_put 29 = .ok (.iload_n 2, 1) := by decide +kernel
theorem d_Tide_put_30 : decode b_Tide_put 30 = .ok (.iastore, 1) := by decide +kernel
theorem d_Tide_put_31 : decode b_Tide_put 31 = .ok (.iconst 1, 1) := by decide +kernel
theorem d_Tide_put_32 : decode b_Tide_put 32 = .ok (.ireturn, 1) := by decide +kernel
abbrev y_Hb_level : MethodName := ⟨"SmallHarbour", "level", "(II)Z"⟩
abbrev b_Hb_level : ByteArray := prog_1_method_3_code
theorem mi_Hb_level : MI y_Hb_level b_Hb_level 3 (some .boolean) 2 := ⟨w_409, w_1, by decide +kernel, by decide, by decide⟩
theorem mv_Hb_level : MV y_Hb_level := ⟨w_407, w_408⟩
theorem d_Hb_level_0 : decode b_Hb_level 0 = .ok (.aload_n 0, 1) := by decide +kernel
theorem d_Hb_level_1 : decode b_Hb_level 1 = .ok (.invokevirtual 97, 3) := by decide +kernel
theorem d_Hb_level_4 : decode b_Hb_level 4 = .ok (.ifCond .ne 19, 3) := by decide +kernel
theorem d_Hb_level_7 : decode b_Hb_level 7 = .ok (.aload_n 0, 1) := by decide +kernel
theorem d_Hb_level_8 : decode b_Hb_level 8 = .ok (.getfield 10, 3) := by decide +kernel
theorem d_Hb_level_11 : decode b_Hb_level 11 = .ok (.iload_n 1, 1) := by decide +kernel
theorem d_Hb_level_12 : decode b_Hb_level 12 = .ok (.iload_n 2, 1) := by decide +kernel
theorem d_Hb_level_13 : decode b_Hb_level 13 = .ok (.invokevirtual 105, 3) := by decide +kernel
theorem d_Hb_level_16 : decode b_Hb_level 16 = .ok (.ifCond .eq 7, 3) := by decide +kernel
theorem d_Hb_level_19 : decode b_Hb_level 19 = .ok (.iconst 1, 1) := by decide +kernel
theorem d_Hb_level_20 : decode b_Hb_level 20 = .ok (.goto 4, 3) := by decide +kernel
theorem d_Hb_level_23 : decode b_Hb_level 23 = .ok (.iconst 0, 1) := by decide +kernel
theorem d_Hb_level_24 : decode b_Hb_level 24 = .ok (.ireturn, 1) := by decide +kernel
abbrev y_Tide_restart : MethodName := ⟨"SmallHarbour$Tide", "restart", "(I)Z"⟩
abbrev b_Tide_restart : ByteArray := prog_11_method_2_code
theorem mi_Tide_restart : MI y_Tide_restart b_Tide_restart 2 (some .boolean) 1 := ⟨w_402, w_2, by decide +kernel, by decide, by decide⟩
theorem mv_Tide_restart : MV y_Tide_restart := ⟨w_400, w_401⟩
theorem d_Tide_restart_0 : decode b_Tide_restart 0 = .ok (.iload_n 1, 1) := by decide +kernel
theorem d_Tide_restart_1 : decode b_Tide_restart 1 = .ok (.iconst 1, 1) := by decide +kernel
theorem d_Tide_restart_2 : decode b_Tide_restart 2 = .ok (.if_icmp .lt 9, 3) := by decide +kernel
theorem d_Tide_restart_5 : decode b_Tide_restart 5 = .ok (.iload_n 1, 1) := by decide +kernel
theorem d_Tide_restart_6 : decode b_Tide_restart 6 = .ok (.bipush 30, 2) := by decide +kernel
theorem d_Tide_restart_8 : decode b_Tide_restart 8 = .ok (.if_icmp .le 5, 3) := by decide +kernel
theorem d_Tide_restart_11 : decode b_Tide_restart 11 = .ok (.iconst 0, 1) := by decide +kernel
theorem d_Tide_restart_12 : decode b_Tide_restart 12 = .ok (.ireturn, 1) := by decide +kernel
theorem d_Tide_restart_13 : decode b_Tide_restart 13 = .ok (.aload_n 0, 1) := by decide +kernel
theorem d_Tide_restart_14 : decode b_Tide_restart 14 = .ok (.getfield 9, 3) := by decide +kernel
theorem d_Tide_restart_17 : decode b_Tide_restart 17 = .ok (.iconst 0, 1) := by decide +kernel
theorem d_Tide_restart_18 : decode b_Tide_restart 18 = .ok (.invokestatic 19, 3) := by decide +kernel
theorem d_Tide_restart_21 : decode b_Tide_restart 21 = .ok (.aload_n 0, 1) := by decide +kernel
theorem d_Tide_restart_22 : decode b_Tide_restart 22 = .ok (.iload_n 1, 1) := by decide +kernel
theorem d_Tide_restart_23 : decode b_Tide_restart 23 = .ok (.putfield 15, 3) := by decide +kernel
theorem d_Tide_restart_26 : decode b_Tide_restart 26 = .ok (.iconst 1, 1) := by decide +kernel
theorem d_Tide_restart_27 : decode b_Tide_restart 27 = .ok (.ireturn, 1) := by decide +kernel
abbrev y_Hb_levels : MethodName := ⟨"SmallHarbour", "levels", "(I)Z"⟩
abbrev b_Hb_levels : ByteArray := prog_1_method_2_code
theorem mi_Hb_levels : MI y_Hb_levels b_Hb_levels 2 (some .boolean) 1 := ⟨w_390, w_1, by decide +kernel, by decide, by decide⟩
theorem mv_Hb_levels : MV y_Hb_levels := ⟨w_388, w_389⟩
theorem d_Hb_levels_0 : decode b_Hb_levels 0 = .ok (.aload_n 0, 1) := by decide +kernel
theorem d_Hb_levels_1 : decode b_Hb_levels 1 = .ok (.invokevirtual 97, 3) := by decide +kernel
theorem d_Hb_levels_4 : decode b_Hb_levels 4 = .ok (.ifCond .ne 18, 3) := by decide +kernel
theorem d_Hb_levels_7 : decode b_Hb_levels 7 = .ok (.aload_n 0, 1) := by decide +kernel
theorem d_Hb_levels_8 : decode b_Hb_levels 8 = .ok (.getfield 10, 3) := by decide +kernel
theorem d_Hb_levels_11 : decode b_Hb_levels 11 = .ok (.iload_n 1, 1) := by decide +kernel
theorem d_Hb_levels_12 : decode b_Hb_levels 12 = .ok (.invokevirtual 101, 3) := by decide +kernel
theorem d_Hb_levels_15 : decode b_Hb_levels 15 = .ok (.ifCond .eq 7, 3) := by decide +kernel
theorem d_Hb_levels_18 : decode b_Hb_levels 18 = .ok (.iconst 1, 1) := by decide +kernel
theorem d_Hb_levels_19 : decode b_Hb_levels 19 = .ok (.goto 4, 3) := by decide +kernel
theorem d_Hb_levels_22 : decode b_Hb_levels 22 = .ok (.iconst 0, 1) := by decide +kernel
theorem d_Hb_levels_23 : decode b_Hb_levels 23 = .ok (.ireturn, 1) := by decide +kernel
abbrev y_Hb_lies : MethodName := ⟨"SmallHarbour", "lies", "(II)I"⟩
abbrev b_Hb_lies : ByteArray := prog_1_method_8_code
theorem mi_Hb_lies : MI y_Hb_lies b_Hb_lies 4 (some .int) 2 := ⟨w_495, w_1, by decide +kernel, by decide, by decide⟩
theorem mv_Hb_lies : MV y_Hb_lies := ⟨w_493, w_494⟩
theorem d_Hb_lies_0 : decode b_Hb_lies 0 = .ok (.aload_n 0, 1) := by decide +kernel
theorem d_Hb_lies_1 : decode b_Hb_lies 1 = .ok (.getfield 19, 3) := by decide +kernel
theorem d_Hb_lies_4 : decode b_Hb_lies 4 = .ok (.iload_n 1, 1) := by decide +kernel
theorem d_Hb_lies_5 : decode b_Hb_lies 5 = .ok (.invokevirtual 148, 3) := by decide +kernel
theorem d_Hb_lies_8 : decode b_Hb_lies 8 = .ok (.ifCond .eq 10, 3) := by decide +kernel
theorem d_Hb_lies_11 : decode b_Hb_lies 11 = .ok (.iload_n 2, 1) := by decide +kernel
theorem d_Hb_lies_12 : decode b_Hb_lies 12 = .ok (.invokestatic 149, 3) := by decide +kernel
theorem d_Hb_lies_15 : decode b_Hb_lies 15 = .ok (.ifCond .ne 5, 3) := by decide +kernel
theorem d_Hb_lies_18 : decode b_Hb_lies 18 = .ok (.iconst (-1), 1) := by decide +kernel
theorem d_Hb_lies_19 : decode b_Hb_lies 19 = .ok (.ireturn, 1) := by decide +kernel
theorem d_Hb_lies_20 : decode b_Hb_lies 20 = .ok (.aload_n 0, 1) := by decide +kernel
theorem d_Hb_lies_21 : decode b_Hb_lies 21 = .ok (.iload_n 1, 1) := by decide +kernel
theorem d_Hb_lies_22 : decode b_Hb_lies 22 = .ok (.iload_n 2, 1) := by decide +kernel
theorem d_Hb_lies_23 : decode b_Hb_lies 23 = .ok (.iload_n 2, 1) := by decide +kernel
theorem d_Hb_lies_24 : decode b_Hb_lies 24 = .ok (.iconst 1, 1) := by decide +kernel
theorem d_Hb_lies_25 : decode b_Hb_lies 25 = .ok (.iadd, 1) := by decide +kernel
theorem d_Hb_lies_26 : decode b_Hb_lies 26 = .ok (.invokevirtual 156, 3) := by decide +kernel
theorem d_Hb_lies_29 : decode b_Hb_lies 29 = .ok (.ifCond .eq 13, 3) := by decide +kernel
theorem d_Hb_lies_32 : decode b_Hb_lies 32 = .ok (.aload_n 0, 1) := by decide +kernel
theorem d_Hb_lies_33 : decode b_Hb_lies 33 = .ok (.getfield 19, 3) := by decide +kernel
theorem d_Hb_lies_36 : decode b_Hb_lies 36 = .ok (.getfield 126, 3) := by decide +kernel
theorem d_Hb_lies_39 : decode b_Hb_lies 39 = .ok (.iload_n 1, 1) := by decide +kernel
theorem d_Hb_lies_40 : decode b_Hb_lies 40 = .ok (.iaload, 1) := by decide +kernel
theorem d_Hb_lies_41 : decode b_Hb_lies 41 = .ok (.ireturn, 1) := by decide +kernel
theorem d_Hb_lies_42 : decode b_Hb_lies 42 = .ok (.aload_n 0, 1) := by decide +kernel
theorem d_Hb_lies_43 : decode b_Hb_lies 43 = .ok (.getfield 40, 3) := by decide +kernel
theorem d_Hb_lies_46 : decode b_Hb_lies 46 = .ok (.iload_n 1, 1) := by decide +kernel
theorem d_Hb_lies_47 : decode b_Hb_lies 47 = .ok (.iload_n 2, 1) := by decide +kernel
theorem d_Hb_lies_48 : decode b_Hb_lies 48 = .ok (.iload_n 2, 1) := by decide +kernel
theorem d_Hb_lies_49 : decode b_Hb_lies 49 = .ok (.iconst 1, 1) := by decide +kernel
theorem d_Hb_lies_50 : decode b_Hb_lies 50 = .ok (.iadd, 1) := by decide +kernel
theorem d_Hb_lies_51 : decode b_Hb_lies 51 = .ok (.invokevirtual 159, 3) := by decide +kernel
theorem d_Hb_lies_54 : decode b_Hb_lies 54 = .ok (.istore_n 3, 1) := by decide +kernel
theorem d_Hb_lies_55 : decode b_Hb_lies 55 = .ok (.iload_n 3, 1) := by decide +kernel
theorem d_Hb_lies_56 : decode b_Hb_lies 56 = .ok (.iconst (-1), 1) := by decide +kernel
theorem d_Hb_lies_57 : decode b_Hb_lies 57 = .ok (.if_icmp .ne 7, 3) := by decide +kernel
theorem d_Hb_lies_60 : decode b_Hb_lies 60 = .ok (.iconst (-1), 1) := by decide +kernel
theorem d_Hb_lies_61 : decode b_Hb_lies 61 = .ok (.goto 12, 3) := by decide +kernel
theorem d_Hb_lies_64 : decode b_Hb_lies 64 = .ok (.aload_n 0, 1) := by decide +kernel
theorem d_Hb_lies_65 : decode b_Hb_lies 65 = .ok (.getfield 40, 3) := by decide +kernel
theorem d_Hb_lies_68 : decode b_Hb_lies 68 = .ok (.getfield 163, 3) := by decide +kernel
theorem d_Hb_lies_71 : decode b_Hb_lies 71 = .ok (.iload_n 3, 1) := by decide +kernel
theorem d_Hb_lies_72 : decode b_Hb_lies 72 = .ok (.iaload, 1) := by decide +kernel
theorem d_Hb_lies_73 : decode b_Hb_lies 73 = .ok (.ireturn, 1) := by decide +kernel
abbrev y_Hoist_add : MethodName := ⟨"SmallHarbour$Hoist", "add", "(III)I"⟩
abbrev b_Hoist_add : ByteArray := prog_4_method_3_code
theorem mi_Hoist_add : MI y_Hoist_add b_Hoist_add 4 (some .int) 3 := ⟨w_659, w_8, by decide +kernel, by decide, by decide⟩
theorem mv_Hoist_add : MV y_Hoist_add := ⟨w_657, w_658⟩
theorem d_Hoist_add_0 : decode b_Hoist_add 0 = .ok (.aload_n 0, 1) := by decide +kernel
theorem d_Hoist_add_1 : decode b_Hoist_add 1 = .ok (.getfield 15, 3) := by decide +kernel
theorem d_Hoist_add_4 : decode b_Hoist_add 4 = .ok (.bipush 40, 2) := by decide +kernel
theorem d_Hoist_add_6 : decode b_Hoist_add 6 = .ok (.if_icmp .lt 5, 3) := by decide +kernel
theorem d_Hoist_add_9 : decode b_Hoist_add 9 = .ok (.iconst (-1), 1) := by decide +kernel
theorem d_Hoist_add_10 : decode b_Hoist_add 10 = .ok (.ireturn, 1) := by decide +kernel
theorem d_Hoist_add_11 : decode b_Hoist_add 11 = .ok (.aload_n 0, 1) := by decide +kernel
theorem d_Hoist_add_12 : decode b_Hoist_add 12 = .ok (.getfield 28, 3) := by decide +kernel
theorem d_Hoist_add_15 : decode b_Hoist_add 15 = .ok (.aload_n 0, 1) := by decide +kernel
theorem d_Hoist_add_16 : decode b_Hoist_add 16 = .ok (.getfield 15, 3) := by decide +kernel
theorem d_Hoist_add_19 : decode b_Hoist_add 19 = .ok (.iload_n 1, 1) := by decide +kernel
theorem d_Hoist_add_20 : decode b_Hoist_add 20 = .ok (.iastore, 1) := by decide +kernel
theorem d_Hoist_add_21 : decode b_Hoist_add 21 = .ok (.aload_n 0, 1) := by decide +kernel
theorem d_Hoist_add_22 : decode b_Hoist_add 22 = .ok (.getfield 32, 3) := by decide +kernel
theorem d_Hoist_add_25 : decode b_Hoist_add 25 = .ok (.aload_n 0, 1) := by decide +kernel
theorem d_Hoist_add_26 : decode b_Hoist_add 26 = .ok (.getfield 15, 3) := by decide +kernel
theorem d_Hoist_add_29 : decode b_Hoist_add 29 = .ok (.iload_n 2, 1) := by decide +kernel
theorem d_Hoist_add_30 : decode b_Hoist_add 30 = .ok (.iastore, 1) := by decide +kernel
theorem d_Hoist_add_31 : decode b_Hoist_add 31 = .ok (.aload_n 0, 1) := by decide +kernel
theorem d_Hoist_add_32 : decode b_Hoist_add 32 = .ok (.getfield 35, 3) := by decide +kernel
theorem d_Hoist_add_35 : decode b_Hoist_add 35 = .ok (.aload_n 0, 1) := by decide +kernel
theorem d_Hoist_add_36 : decode b_Hoist_add 36 = .ok (.getfield 15, 3) := by decide +kernel
theorem d_Hoist_add_39 : decode b_Hoist_add 39 = .ok (.iload_n 3, 1) := by decide +kernel
theorem d_Hoist_add_40 : decode b_Hoist_add 40 = .ok (.iastore, 1) := by decide +kernel
theorem d_Hoist_add_41 : decode b_Hoist_add 41 = .ok (.aload_n 0, 1) := by decide +kernel
theorem d_Hoist_add_42 : decode b_Hoist_add 42 = .ok (.dup, 1) := by decide +kernel
theorem d_Hoist_add_43 : decode b_Hoist_add 43 = .ok (.getfield 15, 3) := by decide +kernel
theorem d_Hoist_add_46 : decode b_Hoist_add 46 = .ok (.dup_x1, 1) := by decide +kernel
theorem d_Hoist_add_47 : decode b_Hoist_add 47 = .ok (.iconst 1, 1) := by decide +kernel
theorem d_Hoist_add_48 : decode b_Hoist_add 48 = .ok (.iadd, 1) := by decide +kernel
theorem d_Hoist_add_49 : decode b_Hoist_add 49 = .ok (.putfield 15, 3) := by decide +kernel
theorem d_Hoist_add_52 : decode b_Hoist_add 52 = .ok (.ireturn, 1) := by decide +kernel
abbrev y_Hb_lift : MethodName := ⟨"SmallHarbour", "lift", "(III)I"⟩
abbrev b_Hb_lift : ByteArray := prog_1_method_17_code
theorem mi_Hb_lift : MI y_Hb_lift b_Hb_lift 4 (some .int) 3 := ⟨w_655, w_1, by decide +kernel, by decide, by decide⟩
theorem mv_Hb_lift : MV y_Hb_lift := ⟨w_653, w_654⟩
theorem d_Hb_lift_0 : decode b_Hb_lift 0 = .ok (.aload_n 0, 1) := by decide +kernel
theorem d_Hb_lift_1 : decode b_Hb_lift 1 = .ok (.getfield 26, 3) := by decide +kernel
theorem d_Hb_lift_4 : decode b_Hb_lift 4 = .ok (.iload_n 1, 1) := by decide +kernel
theorem d_Hb_lift_5 : decode b_Hb_lift 5 = .ok (.invokevirtual 130, 3) := by decide +kernel
theorem d_Hb_lift_8 : decode b_Hb_lift 8 = .ok (.ifCond .eq 21, 3) := by decide +kernel
theorem d_Hb_lift_11 : decode b_Hb_lift 11 = .ok (.iload_n 2, 1) := by decide +kernel
theorem d_Hb_lift_12 : decode b_Hb_lift 12 = .ok (.invokestatic 149, 3) := by decide +kernel
theorem d_Hb_lift_15 : decode b_Hb_lift 15 = .ok (.ifCond .eq 14, 3) := by decide +kernel
theorem d_Hb_lift_18 : decode b_Hb_lift 18 = .ok (.iload_n 3, 1) := by decide +kernel
theorem d_Hb_lift_19 : decode b_Hb_lift 19 = .ok (.iconst 1, 1) := by decide +kernel
theorem d_Hb_lift_20 : decode b_Hb_lift 20 = .ok (.sipush 600, 3) := by decide +kernel
theorem d_Hb_lift_23 : decode b_Hb_lift 23 = .ok (.invokestatic 113, 3) := by decide +kernel
theorem d_Hb_lift_26 : decode b_Hb_lift 26 = .ok (.ifCond .ne 5, 3) := by decide +kernel
theorem d_Hb_lift_29 : decode b_Hb_lift 29 = .ok (.iconst (-1), 1) := by decide +kernel
theorem d_Hb_lift_30 : decode b_Hb_lift 30 = .ok (.ireturn, 1) := by decide +kernel
theorem d_Hb_lift_31 : decode b_Hb_lift 31 = .ok (.aload_n 0, 1) := by decide +kernel
theorem d_Hb_lift_32 : decode b_Hb_lift 32 = .ok (.getfield 54, 3) := by decide +kernel
theorem d_Hb_lift_35 : decode b_Hb_lift 35 = .ok (.aload_n 0, 1) := by decide +kernel
theorem d_Hb_lift_36 : decode b_Hb_lift 36 = .ok (.getfield 26, 3) := by decide +kernel
theorem d_Hb_lift_39 : decode b_Hb_lift 39 = .ok (.getfield 139, 3) := by decide +kernel
theorem d_Hb_lift_42 : decode b_Hb_lift 42 = .ok (.iload_n 1, 1) := by decide +kernel
theorem d_Hb_lift_43 : decode b_Hb_lift 43 = .ok (.iaload, 1) := by decide +kernel
theorem d_Hb_lift_44 : decode b_Hb_lift 44 = .ok (.iload_n 2, 1) := by decide +kernel
theorem d_Hb_lift_45 : decode b_Hb_lift 45 = .ok (.iload_n 3, 1) := by decide +kernel
theorem d_Hb_lift_46 : decode b_Hb_lift 46 = .ok (.invokevirtual 215, 3) := by decide +kernel
theorem d_Hb_lift_49 : decode b_Hb_lift 49 = .ok (.ireturn, 1) := by decide +kernel
abbrev y_Hoist_firstDay : MethodName := ⟨"SmallHarbour$Hoist", "firstDay", "(IIILSmallHarbour$Tide;)I"⟩
abbrev b_Hoist_firstDay : ByteArray := prog_4_method_5_code
theorem mi_Hoist_firstDay : MI y_Hoist_firstDay b_Hoist_firstDay 7 (some .int) 4 := ⟨w_671, w_8, by decide +kernel, by decide, by decide⟩
theorem mv_Hoist_firstDay : MV y_Hoist_firstDay := ⟨w_670, w_s1_14⟩
theorem d_Hoist_firstDay_0 : decode b_Hoist_firstDay 0 = .ok (.aload_n 0, 1) := by decide +kernel
theorem d_Hoist_firstDay_1 : decode b_Hoist_firstDay 1 = .ok (.getfield 28, 3) := by decide +kernel
theorem d_Hoist_firstDay_4 : decode b_Hoist_firstDay 4 = .ok (.iload_n 1, 1) := by decide +kernel
theorem d_Hoist_firstDay_5 : decode b_Hoist_firstDay 5 = .ok (.iaload, 1) := by decide +kernel
theorem d_Hoist_firstDay_6 : decode b_Hoist_firstDay 6 = .ok (.aload_n 0, 1) := by decide +kernel
theorem d_Hoist_firstDay_7 : decode b_Hoist_firstDay 7 = .ok (.getfield 22, 3) := by decide +kernel
theorem d_Hoist_firstDay_10 : decode b_Hoist_firstDay 10 = .ok (.if_icmp .gt 16, 3) := by decide +kernel
theorem d_Hoist_firstDay_13 : decode b_Hoist_firstDay 13 = .ok (.aload_n 0, 1) := by decide +kernel
theorem d_Hoist_firstDay_14 : decode b_Hoist_firstDay 14 = .ok (.getfield 35, 3) := by decide +kernel
theorem d_Hoist_firstDay_17 : decode b_Hoist_firstDay 17 = .ok (.iload_n 1, 1) := by decide +kernel
theorem d_Hoist_firstDay_18 : decode b_Hoist_firstDay 18 = .ok (.iaload, 1) := by decide +kernel
theorem d_Hoist_firstDay_19 : decode b_Hoist_firstDay 19 = .ok (.aload_n 0, 1) := by decide +kernel
theorem d_Hoist_firstDay_20 : decode b_Hoist_firstDay 20 = .ok (.getfield 25, 3) := by decide +kernel
theorem d_Hoist_firstDay_23 : decode b_Hoist_firstDay 23 = .ok (.if_icmp .le 5, 3) := by decide +kernel
theorem d_Hoist_firstDay_26 : decode b_Hoist_firstDay 26 = .ok (.iconst (-1), 1) := by decide +kernel
theorem d_Hoist_firstDay_27 : decode b_Hoist_firstDay 27 = .ok (.ireturn, 1) := by decide +kernel
theorem d_Hoist_firstDay_28 : decode b_Hoist_firstDay 28 = .ok (.aload_n 0, 1) := by decide +kernel
theorem d_Hoist_firstDay_29 : decode b_Hoist_firstDay 29 = .ok (.getfield 32, 3) := by decide +kernel
theorem d_Hoist_firstDay_32 : decode b_Hoist_firstDay 32 = .ok (.iload_n 1, 1) := by decide +kernel
theorem d_Hoist_firstDay_33 : decode b_Hoist_firstDay 33 = .ok (.iaload, 1) := by decide +kernel
theorem d_Hoist_firstDay_34 : decode b_Hoist_firstDay 34 = .ok (.iload_n 2, 1) := by decide +kernel
theorem d_Hoist_firstDay_35 : decode b_Hoist_firstDay 35 = .ok (.invokestatic 46, 3) := by decide +kernel
theorem d_Hoist_firstDay_38 : decode b_Hoist_firstDay 38 = .ok (.istore 5, 2) := by decide +kernel
theorem d_Hoist_firstDay_40 : decode b_Hoist_firstDay 40 = .ok (.iload 5, 2) := by decide +kernel
theorem d_Hoist_firstDay_42 : decode b_Hoist_firstDay 42 = .ok (.sipush 400, 3) := by decide +kernel
theorem d_Hoist_firstDay_45 : decode b_Hoist_firstDay 45 = .ok (.if_icmp .ge 65, 3) := by decide +kernel
theorem d_Hoist_firstDay_48 : decode b_Hoist_firstDay 48 = .ok (.aload_n 0, 1) := by decide +kernel
theorem d_Hoist_firstDay_49 : decode b_Hoist_firstDay 49 = .ok (.getfield 25, 3) := by decide +kernel
theorem d_Hoist_firstDay_52 : decode b_Hoist_firstDay 52 = .ok (.iload 5, 2) := by decide +kernel
theorem d_Hoist_firstDay_54 : decode b_Hoist_firstDay 54 = .ok (.iload_n 2, 1) := by decide +kernel
theorem d_Hoist_firstDay_55 : decode b_Hoist_firstDay 55 = .ok (.if_icmp .ne 7, 3) := by decide +kernel
theorem d_Hoist_firstDay_58 : decode b_Hoist_firstDay 58 = .ok (.iload_n 3, 1) := by decide +kernel
theorem d_Hoist_firstDay_59 : decode b_Hoist_firstDay 59 = .ok (.goto 4, 3) := by decide +kernel
theorem d_Hoist_firstDay_62 : decode b_Hoist_firstDay 62 = .ok (.iconst 0, 1) := by decide +kernel
theorem d_Hoist_firstDay_63 : decode b_Hoist_firstDay 63 = .ok (.isub, 1) := by decide +kernel
theorem d_Hoist_firstDay_64 : decode b_Hoist_firstDay 64 = .ok (.istore 6, 2) := by decide +kernel
theorem d_Hoist_firstDay_66 : decode b_Hoist_firstDay 66 = .ok (.aload_n 0, 1) := by decide +kernel
theorem d_Hoist_firstDay_67 : decode b_Hoist_firstDay 67 = .ok (.getfield 35, 3) := by decide +kernel
theorem d_Hoist_firstDay_70 : decode b_Hoist_firstDay 70 = .ok (.iload_n 1, 1) := by decide +kernel
theorem d_Hoist_firstDay_71 : decode b_Hoist_firstDay 71 = .ok (.iaload, 1) := by decide +kernel
theorem d_Hoist_firstDay_72 : decode b_Hoist_firstDay 72 = .ok (.iload 6, 2) := by decide +kernel
theorem d_Hoist_firstDay_74 : decode b_Hoist_firstDay 74 = .ok (.if_icmp .gt 30, 3) := by decide +kernel
theorem d_Hoist_firstDay_77 : decode b_Hoist_firstDay 77 = .ok (.aload_n 0, 1) := by decide +kernel
theorem d_Hoist_firstDay_78 : decode b_Hoist_firstDay 78 = .ok (.getfield 9, 3) := by decide +kernel
theorem d_Hoist_firstDay_81 : decode b_Hoist_firstDay 81 = .ok (.iload 5, 2) := by decide +kernel
theorem d_Hoist_firstDay_83 : decode b_Hoist_firstDay 83 = .ok (.baload, 1) := by decide +kernel
theorem d_Hoist_firstDay_84 : decode b_Hoist_firstDay 84 = .ok (.ifCond .ne 20, 3) := by decide +kernel
theorem d_Hoist_firstDay_87 : decode b_Hoist_firstDay 87 = .ok (.aload 4, 2) := by decide +kernel
theorem d_Hoist_firstDay_89 : decode b_Hoist_firstDay 89 = .ok (.iload 5, 2) := by decide +kernel
theorem d_Hoist_firstDay_91 : decode b_Hoist_firstDay 91 = .ok (.invokevirtual 52, 3) := by decide +kernel
theorem d_Hoist_firstDay_94 : decode b_Hoist_firstDay 94 = .ok (.aload_n 0, 1) := by decide +kernel
theorem d_Hoist_firstDay_95 : decode b_Hoist_firstDay 95 = .ok (.getfield 19, 3) := by decide +kernel
theorem d_Hoist_firstDay_98 : decode b_Hoist_firstDay 98 = .ok (.if_icmp .lt 6, 3) := by decide +kernel
theorem d_Hoist_firstDay_101 : decode b_Hoist_firstDay 101 = .ok (.iload 5, 2) := by decide +kernel
theorem d_Hoist_firstDay_103 : decode b_Hoist_firstDay 103 = .ok (.ireturn, 1) := by decide +kernel
theorem d_Hoist_firstDay_104 : decode b_Hoist_firstDay 104 = .ok (.iinc 5 1, 3) := by decide +kernel
theorem d_Hoist_firstDay_107 : decode b_Hoist_firstDay 107 = .ok (.goto (-67), 3) := by decide +kernel
theorem d_Hoist_firstDay_110 : decode b_Hoist_firstDay 110 = .ok (.iconst (-1), 1) := by decide +kernel
theorem d_Hoist_firstDay_111 : decode b_Hoist_firstDay 111 = .ok (.ireturn, 1) := by decide +kernel
