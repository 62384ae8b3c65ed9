abbrev y_Hoist_dayOf : MethodName := ⟨"SmallHarbour$Hoist", "dayOf", "(ILSmallHarbour$Tide;)I"⟩
abbrev b_Hoist_dayOf : ByteArray := prog_4_method_4_code
theorem mi_Hoist_dayOf : MI y_Hoist_dayOf b_Hoist_dayOf 7 (some .int) 2 := ⟨w_667, w_8, by decide +kernel, by decide, by decide⟩
theorem mv_Hoist_dayOf : MV y_Hoist_dayOf := ⟨w_665, w_666⟩
theorem d_Hoist_dayOf_0 : decode b_Hoist_dayOf 0 = .ok (.iload_n 1, 1) := by decide +kernel
theorem d_Hoist_dayOf_1 : decode b_Hoist_dayOf 1 = .ok (.ifCond .lt 11, 3) := by decide +kernel
theorem d_Hoist_dayOf_4 : decode b_Hoist_dayOf 4 = .ok (.iload_n 1, 1) := by decide +kernel
theorem d_Hoist_dayOf_5 : decode b_Hoist_dayOf 5 = .ok (.aload_n 0, 1) := by decide +kernel
theorem d_Hoist_dayOf_6 : decode b_Hoist_dayOf 6 = .ok (.getfield 15, 3) := by decide +kernel
theorem d_Hoist_dayOf_9 : decode b_Hoist_dayOf 9 = .ok (.if_icmp .lt 5, 3) := by decide +kernel
theorem d_Hoist_dayOf_12 : decode b_Hoist_dayOf 12 = .ok (.iconst (-1), 1) := by decide +kernel
theorem d_Hoist_dayOf_13 : decode b_Hoist_dayOf 13 = .ok (.ireturn, 1) := by decide +kernel
theorem d_Hoist_dayOf_14 : decode b_Hoist_dayOf 14 = .ok (.iconst 0, 1) := by decide +kernel
theorem d_Hoist_dayOf_15 : decode b_Hoist_dayOf 15 = .ok (.istore_n 3, 1) := by decide +kernel
theorem d_Hoist_dayOf_16 : decode b_Hoist_dayOf 16 = .ok (.iconst 0, 1) := by decide +kernel
theorem d_Hoist_dayOf_17 : decode b_Hoist_dayOf 17 = .ok (.istore 4, 2) := by decide +kernel
theorem d_Hoist_dayOf_19 : decode b_Hoist_dayOf 19 = .ok (.iconst (-1), 1) := by decide +kernel
theorem d_Hoist_dayOf_20 : decode b_Hoist_dayOf 20 = .ok (.istore 5, 2) := by decide +kernel
theorem d_Hoist_dayOf_22 : decode b_Hoist_dayOf 22 = .ok (.iconst 0, 1) := by decide +kernel
theorem d_Hoist_dayOf_23 : decode b_Hoist_dayOf 23 = .ok (.istore 6, 2) := by decide +kernel
theorem d_Hoist_dayOf_25 : decode b_Hoist_dayOf 25 = .ok (.iload 6, 2) := by decide +kernel
theorem d_Hoist_dayOf_27 : decode b_Hoist_dayOf 27 = .ok (.iload_n 1, 1) := by decide +kernel
theorem d_Hoist_dayOf_28 : decode b_Hoist_dayOf 28 = .ok (.if_icmp .gt 52, 3) := by decide +kernel
theorem d_Hoist_dayOf_31 : decode b_Hoist_dayOf 31 = .ok (.aload_n 0, 1) := by decide +kernel
theorem d_Hoist_dayOf_32 : decode b_Hoist_dayOf 32 = .ok (.iload 6, 2) := by decide +kernel
theorem d_Hoist_dayOf_34 : decode b_Hoist_dayOf 34 = .ok (.iload_n 3, 1) := by decide +kernel
theorem d_Hoist_dayOf_35 : decode b_Hoist_dayOf 35 = .ok (.iload 4, 2) := by decide +kernel
theorem d_Hoist_dayOf_37 : decode b_Hoist_dayOf 37 = .ok (.aload_n 2, 1) := by decide +kernel
theorem d_Hoist_dayOf_38 : decode b_Hoist_dayOf 38 = .ok (.invokevirtual 42, 3) := by decide +kernel
theorem d_Hoist_dayOf_41 : decode b_Hoist_dayOf 41 = .ok (.istore 5, 2) := by decide +kernel
theorem d_Hoist_dayOf_43 : decode b_Hoist_dayOf 43 = .ok (.iload 5, 2) := by decide +kernel
theorem d_Hoist_dayOf_45 : decode b_Hoist_dayOf 45 = .ok (.iconst (-1), 1) := by decide +kernel
theorem d_Hoist_dayOf_46 : decode b_Hoist_dayOf 46 = .ok (.if_icmp .eq 28, 3) := by decide +kernel
theorem d_Hoist_dayOf_49 : decode b_Hoist_dayOf 49 = .ok (.aload_n 0, 1) := by decide +kernel
theorem d_Hoist_dayOf_50 : decode b_Hoist_dayOf 50 = .ok (.getfield 35, 3) := by decide +kernel
theorem d_Hoist_dayOf_53 : decode b_Hoist_dayOf 53 = .ok (.iload 6, 2) := by decide +kernel
theorem d_Hoist_dayOf_55 : decode b_Hoist_dayOf 55 = .ok (.iaload, 1) := by decide +kernel
theorem d_Hoist_dayOf_56 : decode b_Hoist_dayOf 56 = .ok (.iload 5, 2) := by decide +kernel
theorem d_Hoist_dayOf_58 : decode b_Hoist_dayOf 58 = .ok (.iload_n 3, 1) := by decide +kernel
theorem d_Hoist_dayOf_59 : decode b_Hoist_dayOf 59 = .ok (.if_icmp .ne 8, 3) := by decide +kernel
theorem d_Hoist_dayOf_62 : decode b_Hoist_dayOf 62 = .ok (.iload 4, 2) := by decide +kernel
theorem d_Hoist_dayOf_64 : decode b_Hoist_dayOf 64 = .ok (.goto 4, 3) := by decide +kernel
theorem d_Hoist_dayOf_67 : decode b_Hoist_dayOf 67 = .ok (.iconst 0, 1) := by decide +kernel
theorem d_Hoist_dayOf_68 : decode b_Hoist_dayOf 68 = .ok (.iadd, 1) := by decide +kernel
theorem d_Hoist_dayOf_69 : decode b_Hoist_dayOf 69 = .ok (.istore 4, 2) := by decide +kernel
theorem d_Hoist_dayOf_71 : decode b_Hoist_dayOf 71 = .ok (.iload 5, 2) := by decide +kernel
theorem d_Hoist_dayOf_73 : decode b_Hoist_dayOf 73 = .ok (.istore_n 3, 1) := by decide +kernel
theorem d_Hoist_dayOf_74 : decode b_Hoist_dayOf 74 = .ok (.iinc 6 1, 3) := by decide +kernel
theorem d_Hoist_dayOf_77 : decode b_Hoist_dayOf 77 = .ok (.goto (-52), 3) := by decide +kernel
theorem d_Hoist_dayOf_80 : decode b_Hoist_dayOf 80 = .ok (.iload 5, 2) := by decide +kernel
theorem d_Hoist_dayOf_82 : decode b_Hoist_dayOf 82 = .ok (.ireturn, 1) := by decide +kernel
abbrev y_Hb_lifted : MethodName := ⟨"SmallHarbour", "lifted", "(I)I"⟩
abbrev b_Hb_lifted : ByteArray := prog_1_method_18_code
theorem mi_Hb_lifted : MI y_Hb_lifted b_Hb_lifted 2 (some .int) 1 := ⟨w_663, w_1, by decide +kernel, by decide, by decide⟩
theorem mv_Hb_lifted : MV y_Hb_lifted := ⟨w_661, w_662⟩
theorem d_Hb_lifted_0 : decode b_Hb_lifted 0 = .ok (.aload_n 0, 1) := by decide +kernel
theorem d_Hb_lifted_1 : decode b_Hb_lifted 1 = .ok (.getfield 54, 3) := by decide +kernel
theorem d_Hb_lifted_4 : decode b_Hb_lifted 4 = .ok (.iload_n 1, 1) := by decide +kernel
theorem d_Hb_lifted_5 : decode b_Hb_lifted 5 = .ok (.aload_n 0, 1) := by decide +kernel
theorem d_Hb_lifted_6 : decode b_Hb_lifted 6 = .ok (.getfield 10, 3) := by decide +kernel
theorem d_Hb_lifted_9 : decode b_Hb_lifted 9 = .ok (.invokevirtual 217, 3) := by decide +kernel
theorem d_Hb_lifted_12 : decode b_Hb_lifted 12 = .ok (.ireturn, 1) := by decide +kernel
abbrev y_Hb_moved : MethodName := ⟨"SmallHarbour", "moved", "(II)I"⟩
abbrev b_Hb_moved : ByteArray := prog_1_method_13_code
theorem mi_Hb_moved : MI y_Hb_moved b_Hb_moved 3 (some .int) 2 := ⟨w_607, w_1, by decide +kernel, by decide, by decide⟩
theorem mv_Hb_moved : MV y_Hb_moved := ⟨w_605, w_606⟩
theorem d_Hb_moved_0 : decode b_Hb_moved 0 = .ok (.iload_n 1, 1) := by decide +kernel
theorem d_Hb_moved_1 : decode b_Hb_moved 1 = .ok (.ifCond .lt 20, 3) := by decide +kernel
theorem d_Hb_moved_4 : decode b_Hb_moved 4 = .ok (.iload_n 1, 1) := by decide +kernel
theorem d_Hb_moved_5 : decode b_Hb_moved 5 = .ok (.aload_n 0, 1) := by decide +kernel
theorem d_Hb_moved_6 : decode b_Hb_moved 6 = .ok (.getfield 93, 3) := by decide +kernel
theorem d_Hb_moved_9 : decode b_Hb_moved 9 = .ok (.if_icmp .ge 12, 3) := by decide +kernel
theorem d_Hb_moved_12 : decode b_Hb_moved 12 = .ok (.iload_n 2, 1) := by decide +kernel
theorem d_Hb_moved_13 : decode b_Hb_moved 13 = .ok (.ifCond .lt 8, 3) := by decide +kernel
theorem d_Hb_moved_16 : decode b_Hb_moved 16 = .ok (.iload_n 2, 1) := by decide +kernel
theorem d_Hb_moved_17 : decode b_Hb_moved 17 = .ok (.iconst 3, 1) := by decide +kernel
theorem d_Hb_moved_18 : decode b_Hb_moved 18 = .ok (.if_icmp .lt 5, 3) := by decide +kernel
theorem d_Hb_moved_21 : decode b_Hb_moved 21 = .ok (.iconst (-1), 1) := by decide +kernel
theorem d_Hb_moved_22 : decode b_Hb_moved 22 = .ok (.ireturn, 1) := by decide +kernel
theorem d_Hb_moved_23 : decode b_Hb_moved 23 = .ok (.aload_n 0, 1) := by decide +kernel
theorem d_Hb_moved_24 : decode b_Hb_moved 24 = .ok (.getfield 90, 3) := by decide +kernel
theorem d_Hb_moved_27 : decode b_Hb_moved 27 = .ok (.iload_n 2, 1) := by decide +kernel
theorem d_Hb_moved_28 : decode b_Hb_moved 28 = .ok (.aaload, 1) := by decide +kernel
theorem d_Hb_moved_29 : decode b_Hb_moved 29 = .ok (.iload_n 1, 1) := by decide +kernel
theorem d_Hb_moved_30 : decode b_Hb_moved 30 = .ok (.iaload, 1) := by decide +kernel
theorem d_Hb_moved_31 : decode b_Hb_moved 31 = .ok (.ireturn, 1) := by decide +kernel
abbrev y_Hb_moves : MethodName := ⟨"SmallHarbour", "moves", "()I"⟩
abbrev b_Hb_moves : ByteArray := prog_1_method_21_code
theorem mi_Hb_moves : MI y_Hb_moves b_Hb_moves 1 (some .int) 0 := ⟨w_708, w_1, by decide +kernel, by decide, by decide⟩
theorem mv_Hb_moves : MV y_Hb_moves := ⟨w_706, w_707⟩
theorem d_Hb_moves_0 : decode b_Hb_moves 0 = .ok (.aload_n 0, 1) := by decide +kernel
theorem d_Hb_moves_1 : decode b_Hb_moves 1 = .ok (.getfield 61, 3) := by decide +kernel
theorem d_Hb_moves_4 : decode b_Hb_moves 4 = .ok (.invokevirtual 224, 3) := by decide +kernel
theorem d_Hb_moves_7 : decode b_Hb_moves 7 = .ok (.ifCond .eq 13, 3) := by decide +kernel
theorem d_Hb_moves_10 : decode b_Hb_moves 10 = .ok (.aload_n 0, 1) := by decide +kernel
theorem d_Hb_moves_11 : decode b_Hb_moves 11 = .ok (.getfield 61, 3) := by decide +kernel
theorem d_Hb_moves_14 : decode b_Hb_moves 14 = .ok (.getfield 227, 3) := by decide +kernel
theorem d_Hb_moves_17 : decode b_Hb_moves 17 = .ok (.goto 4, 3) := by decide +kernel
theorem d_Hb_moves_20 : decode b_Hb_moves 20 = .ok (.iconst (-1), 1) := by decide +kernel
theorem d_Hb_moves_21 : decode b_Hb_moves 21 = .ok (.ireturn, 1) := by decide +kernel
abbrev y_Hb_owes : MethodName := ⟨"SmallHarbour", "owes", "(I)I"⟩
abbrev b_Hb_owes : ByteArray := prog_1_method_28_code
theorem mi_Hb_owes : MI y_Hb_owes b_Hb_owes 4 (some .int) 1 := ⟨w_825, w_1, by decide +kernel, by decide, by decide⟩
theorem mv_Hb_owes : MV y_Hb_owes := ⟨w_823, w_824⟩
theorem d_Hb_owes_0 : decode b_Hb_owes 0 = .ok (.iconst 0, 1) := by decide +kernel
theorem d_Hb_owes_1 : decode b_Hb_owes 1 = .ok (.istore_n 2, 1) := by decide +kernel
theorem d_Hb_owes_2 : decode b_Hb_owes 2 = .ok (.iconst 0, 1) := by decide +kernel
theorem d_Hb_owes_3 : decode b_Hb_owes 3 = .ok (.istore_n 3, 1) := by decide +kernel
theorem d_Hb_owes_4 : decode b_Hb_owes 4 = .ok (.iload_n 3, 1) := by decide +kernel
theorem d_Hb_owes_5 : decode b_Hb_owes 5 = .ok (.aload_n 0, 1) := by decide +kernel
theorem d_Hb_owes_6 : decode b_Hb_owes 6 = .ok (.getfield 40, 3) := by decide +kernel
theorem d_Hb_owes_9 : decode b_Hb_owes 9 = .ok (.getfield 260, 3) := by decide +kernel
theorem d_Hb_owes_12 : decode b_Hb_owes 12 = .ok (.if_icmp .ge 30, 3) := by decide +kernel
theorem d_Hb_owes_15 : decode b_Hb_owes 15 = .ok (.aload_n 0, 1) := by decide +kernel
theorem d_Hb_owes_16 : decode b_Hb_owes 16 = .ok (.getfield 40, 3) := by decide +kernel
theorem d_Hb_owes_19 : decode b_Hb_owes 19 = .ok (.getfield 163, 3) := by decide +kernel
theorem d_Hb_owes_22 : decode b_Hb_owes 22 = .ok (.iload_n 3, 1) := by decide +kernel
theorem d_Hb_owes_23 : decode b_Hb_owes 23 = .ok (.iaload, 1) := by decide +kernel
theorem d_Hb_owes_24 : decode b_Hb_owes 24 = .ok (.iload_n 1, 1) := by decide +kernel
theorem d_Hb_owes_25 : decode b_Hb_owes 25 = .ok (.if_icmp .ne 11, 3) := by decide +kernel
theorem d_Hb_owes_28 : decode b_Hb_owes 28 = .ok (.iload_n 2, 1) := by decide +kernel
theorem d_Hb_owes_29 : decode b_Hb_owes 29 = .ok (.aload_n 0, 1) := by decide +kernel
theorem d_Hb_owes_30 : decode b_Hb_owes 30 = .ok (.iload_n 3, 1) := by decide +kernel
theorem d_Hb_owes_31 : decode b_Hb_owes 31 = .ok (.invokevirtual 205, 3) := by decide +kernel
theorem d_Hb_owes_34 : decode b_Hb_owes 34 = .ok (.iadd, 1) := by decide +kernel
theorem d_Hb_owes_35 : decode b_Hb_owes 35 = .ok (.istore_n 2, 1) := by decide +kernel
theorem d_Hb_owes_36 : decode b_Hb_owes 36 = .ok (.iinc 3 1, 3) := by decide +kernel
theorem d_Hb_owes_39 : decode b_Hb_owes 39 = .ok (.goto (-35), 3) := by decide +kernel
theorem d_Hb_owes_42 : decode b_Hb_owes 42 = .ok (.iload_n 2, 1) := by decide +kernel
theorem d_Hb_owes_43 : decode b_Hb_owes 43 = .ok (.ireturn, 1) := by decide +kernel
abbrev y_Reader_isDigit : MethodName := ⟨"SmallHarbour$Reader", "isDigit", "(I)Z"⟩
abbrev b_Reader_isDigit : ByteArray := prog_5_method_18_code
theorem mi_Reader_isDigit : MI y_Reader_isDigit b_Reader_isDigit 1 (some .boolean) 1 := ⟨w_743, w_11, by decide +kernel, by decide, by decide⟩
theorem d_Reader_isDigit_0 : decode b_Reader_isDigit 0 = .ok (.iload_n 0, 1) := by decide +kernel
theorem d_Reader_isDigit_1 : decode b_Reader_isDigit 1 = .ok (.bipush 48, 2) := by decide +kernel
theorem d_Reader_isDigit_3 : decode b_Reader_isDigit 3 = .ok (.if_icmp .lt 13, 3) := by decide +kernel
theorem d_Reader_isDigit_6 : decode b_Reader_isDigit 6 = .ok (.iload_n 0, 1) := by decide +kernel
theorem d_Reader_isDigit_7 : decode b_Reader_isDigit 7 = .ok (.bipush 57, 2) := by decide +kernel
theorem d_Reader_isDigit_9 : decode b_Reader_isDigit 9 = .ok (.if_icmp .gt 7, 3) := by decide +kernel
theorem d_Reader_isDigit_12 : decode b_Reader_isDigit 12 = .ok (.iconst 1, 1) := by decide +kernel
theorem d_Reader_isDigit_13 : decode b_Reader_isDigit 13 = .ok (.goto 4, 3) := by decide +kernel
theorem d_Reader_isDigit_16 : decode b_Reader_isDigit 16 = .ok (.iconst 0, 1) := by decide +kernel
theorem d_Reader_isDigit_17 : decode b_Reader_isDigit 17 = .ok (.ireturn, 1) := by decide +kernel
abbrev y_Reader_comeToNumber : MethodName := ⟨"SmallHarbour$Reader", "comeToNumber", "()V"⟩
abbrev b_Reader_comeToNumber : ByteArray := prog_5_method_15_code
theorem mi_Reader_comeToNumber : MI y_Reader_comeToNumber b_Reader_comeToNumber 1 none 0 := ⟨w_747, w_11, by decide +kernel, by decide, by decide⟩
theorem mv_Reader_comeToNumber : MV y_Reader_comeToNumber := ⟨w_746, w_s2_3⟩
theorem d_Reader_comeToNumber_0 : decode b_Reader_comeToNumber 0 = .ok (.aload_n 0, 1) := by decide +kernel
theorem d_Reader_comeToNumber_1 : decode b_Reader_comeToNumber 1 = .ok (.bipush 48, 2) := by decide +kernel
theorem d_Reader_comeToNumber_3 : decode b_Reader_comeToNumber 3 = .ok (.putfield 44, 3) := by decide +kernel
theorem d_Reader_comeToNumber_6 : decode b_Reader_comeToNumber 6 = .ok (.aload_n 0, 1) := by decide +kernel
theorem d_Reader_comeToNumber_7 : decode b_Reader_comeToNumber 7 = .ok (.iconst 0, 1) := by decide +kernel
theorem d_Reader_comeToNumber_8 : decode b_Reader_comeToNumber 8 = .ok (.putfield 81, 3) := by decide +kernel
theorem d_Reader_comeToNumber_11 : decode b_Reader_comeToNumber 11 = .ok (.aload_n 0, 1) := by decide +kernel
theorem d_Reader_comeToNumber_12 : decode b_Reader_comeToNumber 12 = .ok (.getfield 29, 3) := by decide +kernel
theorem d_Reader_comeToNumber_15 : decode b_Reader_comeToNumber 15 = .ok (.aload_n 0, 1) := by decide +kernel
theorem d_Reader_comeToNumber_16 : decode b_Reader_comeToNumber 16 = .ok (.getfield 25, 3) := by decide +kernel
theorem d_Reader_comeToNumber_19 : decode b_Reader_comeToNumber 19 = .ok (.getfield 88, 3) := by decide +kernel
theorem d_Reader_comeToNumber_22 : decode b_Reader_comeToNumber 22 = .ok (.if_icmp .ge 66, 3) := by decide +kernel
theorem d_Reader_comeToNumber_25 : decode b_Reader_comeToNumber 25 = .ok (.aload_n 0, 1) := by decide +kernel
theorem d_Reader_comeToNumber_26 : decode b_Reader_comeToNumber 26 = .ok (.getfield 25, 3) := by decide +kernel
theorem d_Reader_comeToNumber_29 : decode b_Reader_comeToNumber 29 = .ok (.getfield 93, 3) := by decide +kernel
theorem d_Reader_comeToNumber_32 : decode b_Reader_comeToNumber 32 = .ok (.aload_n 0, 1) := by decide +kernel
theorem d_Reader_comeToNumber_33 : decode b_Reader_comeToNumber 33 = .ok (.getfield 29, 3) := by decide +kernel
theorem d_Reader_comeToNumber_36 : decode b_Reader_comeToNumber 36 = .ok (.iaload, 1) := by decide +kernel
theorem d_Reader_comeToNumber_37 : decode b_Reader_comeToNumber 37 = .ok (.invokestatic 96, 3) := by decide +kernel
theorem d_Reader_comeToNumber_40 : decode b_Reader_comeToNumber 40 = .ok (.ifCond .eq 48, 3) := by decide +kernel
theorem d_Reader_comeToNumber_43 : decode b_Reader_comeToNumber 43 = .ok (.aload_n 0, 1) := by decide +kernel
theorem d_Reader_comeToNumber_44 : decode b_Reader_comeToNumber 44 = .ok (.aload_n 0, 1) := by decide +kernel
theorem d_Reader_comeToNumber_45 : decode b_Reader_comeToNumber 45 = .ok (.getfield 81, 3) := by decide +kernel
theorem d_Reader_comeToNumber_48 : decode b_Reader_comeToNumber 48 = .ok (.bipush 10, 2) := by decide +kernel
theorem d_Reader_comeToNumber_50 : decode b_Reader_comeToNumber 50 = .ok (.imul, 1) := by decide +kernel
theorem d_Reader_comeToNumber_51 : decode b_Reader_comeToNumber 51 = .ok (.aload_n 0, 1) := by decide +kernel
theorem d_Reader_comeToNumber_52 : decode b_Reader_comeToNumber 52 = .ok (.getfield 25, 3) := by decide +kernel
theorem d_Reader_comeToNumber_55 : decode b_Reader_comeToNumber 55 = .ok (.getfield 93, 3) := by decide +kernel
theorem d_Reader_comeToNumber_58 : decode b_Reader_comeToNumber 58 = .ok (.aload_n 0, 1) := by decide +kernel
theorem d_Reader_comeToNumber_59 : decode b_Reader_comeToNumber 59 = .ok (.getfield 29, 3) := by decide +kernel
theorem d_Reader_comeToNumber_62 : decode b_Reader_comeToNumber 62 = .ok (.iaload, 1) := by decide +kernel
theorem d_Reader_comeToNumber_63 : decode b_Reader_comeToNumber 63 = .ok (.iadd, 1) := by decide +kernel
theorem d_Reader_comeToNumber_64 : decode b_Reader_comeToNumber 64 = .ok (.bipush 48, 2) := by decide +kernel
theorem d_Reader_comeToNumber_66 : decode b_Reader_comeToNumber 66 = .ok (.isub, 1) := by decide +kernel
theorem d_Reader_comeToNumber_67 : decode b_Reader_comeToNumber 67 = .ok (.ldc 111, 2) := by decide +kernel
theorem d_Reader_comeToNumber_69 : decode b_Reader_comeToNumber 69 = .ok (.invokestatic 112, 3) := by decide +kernel
theorem d_Reader_comeToNumber_72 : decode b_Reader_comeToNumber 72 = .ok (.putfield 81, 3) := by decide +kernel
theorem d_Reader_comeToNumber_75 : decode b_Reader_comeToNumber 75 = .ok (.aload_n 0, 1) := by decide +kernel
theorem d_Reader_comeToNumber_76 : decode b_Reader_comeToNumber 76 = .ok (.dup, 1) := by decide +kernel
theorem d_Reader_comeToNumber_77 : decode b_Reader_comeToNumber 77 = .ok (.getfield 29, 3) := by decide +kernel
theorem d_Reader_comeToNumber_80 : decode b_Reader_comeToNumber 80 = .ok (.iconst 1, 1) := by decide +kernel
theorem d_Reader_comeToNumber_81 : decode b_Reader_comeToNumber 81 = .ok (.iadd, 1) := by decide +kernel
theorem d_Reader_comeToNumber_82 : decode b_Reader_comeToNumber 82 = .ok (.putfield 29, 3) := by decide +kernel
theorem d_Reader_comeToNumber_85 : decode b_Reader_comeToNumber 85 = .ok (.goto (-74), 3) := by decide +kernel
theorem d_Reader_comeToNumber_88 : decode b_Reader_comeToNumber 88 = .ok (.return_, 1) := by decide +kernel
abbrev y_Reader_isLetter : MethodName := ⟨"SmallHarbour$Reader", "isLetter", "(I)Z"⟩
abbrev b_Reader_isLetter : ByteArray := prog_5_method_19_code
theorem mi_Reader_isLetter : MI y_Reader_isLetter b_Reader_isLetter 1 (some .boolean) 1 := ⟨w_752, w_11, by decide +kernel, by decide, by decide⟩
theorem d_Reader_isLetter_0 : decode b_Reader_isLetter 0 = .ok (.iload_n 0, 1) := by decide +kernel
theorem d_Reader_isLetter_1 : decode b_Reader_isLetter 1 = .ok (.bipush 97, 2) := by decide +kernel
theorem d_Reader_isLetter_3 : decode b_Reader_isLetter 3 = .ok (.if_icmp .lt 9, 3) := by decide +kernel
theorem d_Reader_isLetter_6 : decode b_Reader_isLetter 6 = .ok (.iload_n 0, 1) := by decide +kernel
theorem d_Reader_isLetter_7 : decode b_Reader_isLetter 7 = .ok (.bipush 122, 2) := by decide +kernel
theorem d_Reader_isLetter_9 : decode b_Reader_isLetter 9 = .ok (.if_icmp .le 15, 3) := by decide +kernel
theorem d_Reader_isLetter_12 : decode b_Reader_isLetter 12 = .ok (.iload_n 0, 1) := by decide +kernel
theorem d_Reader_isLetter_13 : decode b_Reader_isLetter 13 = .ok (.bipush 65, 2) := by decide +kernel
theorem d_Reader_isLetter_15 : decode b_Reader_isLetter 15 = .ok (.if_icmp .lt 13, 3) := by decide +kernel
theorem d_Reader_isLetter_18 : decode b_Reader_isLetter 18 = .ok (.iload_n 0, 1) := by decide +kernel
theorem d_Reader_isLetter_19 : decode b_Reader_isLetter 19 = .ok (.bipush 90, 2) := by decide +kernel
theorem d_Reader_isLetter_21 : decode b_Reader_isLetter 21 = .ok (.if_icmp .gt 7, 3) := by decide +kernel
theorem d_Reader_isLetter_24 : decode b_Reader_isLetter 24 = .ok (.iconst 1, 1) := by decide +kernel
theorem d_Reader_isLetter_25 : decode b_Reader_isLetter 25 = .ok (.goto 4, 3) := by decide +kernel
theorem d_Reader_isLetter_28 : decode b_Reader_isLetter 28 = .ok (.iconst 0, 1) := by decide +kernel
theorem d_Reader_isLetter_29 : decode b_Reader_isLetter 29 = .ok (.ireturn, 1) := by decide +kernel
abbrev y_Reader_isWord : MethodName := ⟨"SmallHarbour$Reader", "isWord", "(I)Z"⟩
abbrev b_Reader_isWord : ByteArray := prog_5_method_17_code
theorem mi_Reader_isWord : MI y_Reader_isWord b_Reader_isWord 1 (some .boolean) 1 := ⟨w_759, w_11, by decide +kernel, by decide, by decide⟩
theorem d_Reader_isWord_0 : decode b_Reader_isWord 0 = .ok (.iload_n 0, 1) := by decide +kernel
theorem d_Reader_isWord_1 : decode b_Reader_isWord 1 = .ok (.lookupswitch 61 #[(100, 59), (102, 59), (110, 59), (26982, 59), (1701606245, 59), (1952998766, 59)], 59) := by decide +kernel
theorem d_Reader_isWord_60 : decode b_Reader_isWord 60 = .ok (.iconst 1, 1) := by decide +kernel
theorem d_Reader_isWord_61 : decode b_Reader_isWord 61 = .ok (.ireturn, 1) := by decide +kernel
theorem d_Reader_isWord_62 : decode b_Reader_isWord 62 = .ok (.iconst 0, 1) := by decide +kernel
theorem d_Reader_isWord_63 : decode b_Reader_isWord 63 = .ok (.ireturn, 1) := by decide +kernel
abbrev y_Reader_comeToWord : MethodName := ⟨"SmallHarbour$Reader", "comeToWord", "()V"⟩
abbrev b_Reader_comeToWord : ByteArray := prog_5_method_16_code
theorem mi_Reader_comeToWord : MI y_Reader_comeToWord b_Reader_comeToWord 3 none 0 := ⟨w_756, w_11, by decide +kernel, by decide, by decide⟩
theorem mv_Reader_comeToWord : MV y_Reader_comeToWord := ⟨w_755, w_s2_4⟩
theorem d_Reader_comeToWord_0 : decode b_Reader_comeToWord 0 = .ok (.iconst 0, 1) := by decide +kernel
theorem d_Reader_comeToWord_1 : decode b_Reader_comeToWord 1 = .ok (.istore_n 1, 1) := by decide +kernel
theorem d_Reader_comeToWord_2 : decode b_Reader_comeToWord 2 = .ok (.aload_n 0, 1) := by decide +kernel
theorem d_Reader_comeToWord_3 : decode b_Reader_comeToWord 3 = .ok (.getfield 29, 3) := by decide +kernel
theorem d_Reader_comeToWord_6 : decode b_Reader_comeToWord 6 = .ok (.aload_n 0, 1) := by decide +kernel
theorem d_Reader_comeToWord_7 : decode b_Reader_comeToWord 7 = .ok (.getfield 25, 3) := by decide +kernel
theorem d_Reader_comeToWord_10 : decode b_Reader_comeToWord 10 = .ok (.getfield 88, 3) := by decide +kernel
theorem d_Reader_comeToWord_13 : decode b_Reader_comeToWord 13 = .ok (.if_icmp .ge 52, 3) := by decide +kernel
theorem d_Reader_comeToWord_16 : decode b_Reader_comeToWord 16 = .ok (.aload_n 0, 1) := by decide +kernel
theorem d_Reader_comeToWord_17 : decode b_Reader_comeToWord 17 = .ok (.getfield 25, 3) := by decide +kernel
theorem d_Reader_comeToWord_20 : decode b_Reader_comeToWord 20 = .ok (.getfield 93, 3) := by decide +kernel
theorem d_Reader_comeToWord_23 : decode b_Reader_comeToWord 23 = .ok (.aload_n 0, 1) := by decide +kernel
theorem d_Reader_comeToWord_24 : decode b_Reader_comeToWord 24 = .ok (.getfield 29, 3) := by decide +kernel
theorem d_Reader_comeToWord_27 : decode b_Reader_comeToWord 27 = .ok (.iaload, 1) := by decide +kernel
theorem d_Reader_comeToWord_28 : decode b_Reader_comeToWord 28 = .ok (.invokestatic 102, 3) := by decide +kernel
theorem d_Reader_comeToWord_31 : decode b_Reader_comeToWord 31 = .ok (.ifCond .eq 34, 3) := by decide +kernel
theorem d_Reader_comeToWord_34 : decode b_Reader_comeToWord 34 = .ok (.iload_n 1, 1) := by decide +kernel
theorem d_Reader_comeToWord_35 : decode b_Reader_comeToWord 35 = .ok (.bipush 8, 2) := by decide +kernel
theorem d_Reader_comeToWord_37 : decode b_Reader_comeToWord 37 = .ok (.ishl, 1) := by decide +kernel
theorem d_Reader_comeToWord_38 : decode b_Reader_comeToWord 38 = .ok (.aload_n 0, 1) := by decide +kernel
theorem d_Reader_comeToWord_39 : decode b_Reader_comeToWord 39 = .ok (.getfield 25, 3) := by decide +kernel
theorem d_Reader_comeToWord_42 : decode b_Reader_comeToWord 42 = .ok (.getfield 93, 3) := by decide +kernel
theorem d_Reader_comeToWord_45 : decode b_Reader_comeToWord 45 = .ok (.aload_n 0, 1) := by decide +kernel
theorem d_Reader_comeToWord_46 : decode b_Reader_comeToWord 46 = .ok (.getfield 29, 3) := by decide +kernel
theorem d_Reader_comeToWord_49 : decode b_Reader_comeToWord 49 = .ok (.iaload, 1) := by decide +kernel
theorem d_Reader_comeToWord_50 : decode b_Reader_comeToWord 50 = .ok (.ior, 1) := by decide +kernel
theorem d_Reader_comeToWord_51 : decode b_Reader_comeToWord 51 = .ok (.istore_n 1, 1) := by decide +kernel
theorem d_Reader_comeToWord_52 : decode b_Reader_comeToWord 52 = .ok (.aload_n 0, 1) := by decide +kernel
theorem d_Reader_comeToWord_53 : decode b_Reader_comeToWord 53 = .ok (.dup, 1) := by decide +kernel
theorem d_Reader_comeToWord_54 : decode b_Reader_comeToWord 54 = .ok (.getfield 29, 3) := by decide +kernel
theorem d_Reader_comeToWord_57 : decode b_Reader_comeToWord 57 = .ok (.iconst 1, 1) := by decide +kernel
theorem d_Reader_comeToWord_58 : decode b_Reader_comeToWord 58 = .ok (.iadd, 1) := by decide +kernel
theorem d_Reader_comeToWord_59 : decode b_Reader_comeToWord 59 = .ok (.putfield 29, 3) := by decide +kernel
theorem d_Reader_comeToWord_62 : decode b_Reader_comeToWord 62 = .ok (.goto (-60), 3) := by decide +kernel
theorem d_Reader_comeToWord_65 : decode b_Reader_comeToWord 65 = .ok (.aload_n 0, 1) := by decide +kernel
theorem d_Reader_comeToWord_66 : decode b_Reader_comeToWord 66 = .ok (.getfield 29, 3) := by decide +kernel
theorem d_Reader_comeToWord_69 : decode b_Reader_comeToWord 69 = .ok (.aload_n 0, 1) := by decide +kernel
theorem d_Reader_comeToWord_70 : decode b_Reader_comeToWord 70 = .ok (.getfield 85, 3) := by decide +kernel
theorem d_Reader_comeToWord_73 : decode b_Reader_comeToWord 73 = .ok (.isub, 1) := by decide +kernel
theorem d_Reader_comeToWord_74 : decode b_Reader_comeToWord 74 = .ok (.iconst 4, 1) := by decide +kernel
theorem d_Reader_comeToWord_75 : decode b_Reader_comeToWord 75 = .ok (.if_icmp .gt 7, 3) := by decide +kernel
theorem d_Reader_comeToWord_78 : decode b_Reader_comeToWord 78 = .ok (.iconst 1, 1) := by decide +kernel
theorem d_Reader_comeToWord_79 : decode b_Reader_comeToWord 79 = .ok (.goto 4, 3) := by decide +kernel
theorem d_Reader_comeToWord_82 : decode b_Reader_comeToWord 82 = .ok (.iconst 0, 1) := by decide +kernel
theorem d_Reader_comeToWord_83 : decode b_Reader_comeToWord 83 = .ok (.istore_n 2, 1) := by decide +kernel
theorem d_Reader_comeToWord_84 : decode b_Reader_comeToWord 84 = .ok (.aload_n 0, 1) := by decide +kernel
theorem d_Reader_comeToWord_85 : decode b_Reader_comeToWord 85 = .ok (.iload_n 2, 1) := by decide +kernel
theorem d_Reader_comeToWord_86 : decode b_Reader_comeToWord 86 = .ok (.ifCond .eq 14, 3) := by decide +kernel
theorem d_Reader_comeToWord_89 : decode b_Reader_comeToWord 89 = .ok (.iload_n 1, 1) := by decide +kernel
theorem d_Reader_comeToWord_90 : decode b_Reader_comeToWord 90 = .ok (.invokestatic 118, 3) := by decide +kernel
theorem d_Reader_comeToWord_93 : decode b_Reader_comeToWord 93 = .ok (.ifCond .eq 7, 3) := by decide +kernel
theorem d_Reader_comeToWord_96 : decode b_Reader_comeToWord 96 = .ok (.iload_n 1, 1) := by decide +kernel
theorem d_Reader_comeToWord_97 : decode b_Reader_comeToWord 97 = .ok (.goto 4, 3) := by decide +kernel
theorem d_Reader_comeToWord_100 : decode b_Reader_comeToWord 100 = .ok (.iconst 1, 1) := by decide +kernel
theorem d_Reader_comeToWord_101 : decode b_Reader_comeToWord 101 = .ok (.putfield 44, 3) := by decide +kernel
theorem d_Reader_comeToWord_104 : decode b_Reader_comeToWord 104 = .ok (.return_, 1) := by decide +kernel
abbrev y_Reader_isSign : MethodName := ⟨"SmallHarbour$Reader", "isSign", "(I)Z"⟩
abbrev b_Reader_isSign : ByteArray := prog_5_method_20_code
theorem mi_Reader_isSign : MI y_Reader_isSign b_Reader_isSign 1 (some .boolean) 1 := ⟨w_762, w_11, by decide +kernel, by decide, by decide⟩
theorem d_Reader_isSign_0 : decode b_Reader_isSign 0 = .ok (.iload_n 0, 1) := by decide +kernel
theorem d_Reader_isSign_1 : decode b_Reader_isSign 1 = .ok (.tableswitch 117 37 61 #[115, 117, 117, 115, 115, 115, 115, 117, 115, 117, 115, 117, 117, 117, 117, 117, 117, 117, 117, 117, 117, 117, 117, 115, 115], 115) := by decide +kernel
theorem d_Reader_isSign_116 : decode b_Reader_isSign 116 = .ok (.iconst 1, 1) := by decide +kernel
theorem d_Reader_isSign_117 : decode b_Reader_isSign 117 = .ok (.ireturn, 1) := by decide +kernel
theorem d_Reader_isSign_118 : decode b_Reader_isSign 118 = .ok (.iconst 0, 1) := by decide +kernel
theorem d_Reader_isSign_119 : decode b_Reader_isSign 119 = .ok (.ireturn, 1) := by decide +kernel
abbrev y_Reader_comeToNext : MethodName := ⟨"SmallHarbour$Reader", "comeToNext", "()V"⟩
abbrev b_Reader_comeToNext : ByteArray := prog_5_method_14_code
theorem mi_Reader_comeToNext : MI y_Reader_comeToNext b_Reader_comeToNext 2 none 0 := ⟨w_740, w_11, by decide +kernel, by decide, by decide⟩
theorem mv_Reader_comeToNext : MV y_Reader_comeToNext := ⟨w_739, w_s2_2⟩
theorem d_Reader_comeToNext_0 : decode b_Reader_comeToNext 0 = .ok (.aload_n 0, 1) := by decide +kernel
theorem d_Reader_comeToNext_1 : decode b_Reader_comeToNext 1 = .ok (.getfield 29, 3) := by decide +kernel
theorem d_Reader_comeToNext_4 : decode b_Reader_comeToNext 4 = .ok (.aload_n 0, 1) := by decide +kernel
theorem d_Reader_comeToNext_5 : decode b_Reader_comeToNext 5 = .ok (.getfield 25, 3) := by decide +kernel
theorem d_Reader_comeToNext_8 : decode b_Reader_comeToNext 8 = .ok (.getfield 88, 3) := by decide +kernel
theorem d_Reader_comeToNext_11 : decode b_Reader_comeToNext 11 = .ok (.if_icmp .ge 33, 3) := by decide +kernel
theorem d_Reader_comeToNext_14 : decode b_Reader_comeToNext 14 = .ok (.aload_n 0, 1) := by decide +kernel
theorem d_Reader_comeToNext_15 : decode b_Reader_comeToNext 15 = .ok (.getfield 25, 3) := by decide +kernel
theorem d_Reader_comeToNext_18 : decode b_Reader_comeToNext 18 = .ok (.getfield 93, 3) := by decide +kernel
theorem d_Reader_comeToNext_21 : decode b_Reader_comeToNext 21 = .ok (.aload_n 0, 1) := by decide +kernel
theorem d_Reader_comeToNext_22 : decode b_Reader_comeToNext 22 = .ok (.getfield 29, 3) := by decide +kernel
theorem d_Reader_comeToNext_25 : decode b_Reader_comeToNext 25 = .ok (.iaload, 1) := by decide +kernel
theorem d_Reader_comeToNext_26 : decode b_Reader_comeToNext 26 = .ok (.bipush 32, 2) := by decide +kernel
theorem d_Reader_comeToNext_28 : decode b_Reader_comeToNext 28 = .ok (.if_icmp .ne 16, 3) := by decide +kernel
theorem d_Reader_comeToNext_31 : decode b_Reader_comeToNext 31 = .ok (.aload_n 0, 1) := by decide +kernel
theorem d_Reader_comeToNext_32 : decode b_Reader_comeToNext 32 = .ok (.dup, 1) := by decide +kernel
theorem d_Reader_comeToNext_33 : decode b_Reader_comeToNext 33 = .ok (.getfield 29, 3) := by decide +kernel
theorem d_Reader_comeToNext_36 : decode b_Reader_comeToNext 36 = .ok (.iconst 1, 1) := by decide +kernel
theorem d_Reader_comeToNext_37 : decode b_Reader_comeToNext 37 = .ok (.iadd, 1) := by decide +kernel
theorem d_Reader_comeToNext_38 : decode b_Reader_comeToNext 38 = .ok (.putfield 29, 3) := by decide +kernel
theorem d_Reader_comeToNext_41 : decode b_Reader_comeToNext 41 = .ok (.goto (-41), 3) := by decide +kernel
theorem d_Reader_comeToNext_44 : decode b_Reader_comeToNext 44 = .ok (.aload_n 0, 1) := by decide +kernel
theorem d_Reader_comeToNext_45 : decode b_Reader_comeToNext 45 = .ok (.aload_n 0, 1) := by decide +kernel
theorem d_Reader_comeToNext_46 : decode b_Reader_comeToNext 46 = .ok (.getfield 29, 3) := by decide +kernel
theorem d_Reader_comeToNext_49 : decode b_Reader_comeToNext 49 = .ok (.putfield 85, 3) := by decide +kernel
theorem d_Reader_comeToNext_52 : decode b_Reader_comeToNext 52 = .ok (.aload_n 0, 1) := by decide +kernel
theorem d_Reader_comeToNext_53 : decode b_Reader_comeToNext 53 = .ok (.getfield 29, 3) := by decide +kernel
theorem d_Reader_comeToNext_56 : decode b_Reader_comeToNext 56 = .ok (.aload_n 0, 1) := by decide +kernel
theorem d_Reader_comeToNext_57 : decode b_Reader_comeToNext 57 = .ok (.getfield 25, 3) := by decide +kernel
theorem d_Reader_comeToNext_60 : decode b_Reader_comeToNext 60 = .ok (.getfield 88, 3) := by decide +kernel
theorem d_Reader_comeToNext_63 : decode b_Reader_comeToNext 63 = .ok (.if_icmp .lt 9, 3) := by decide +kernel
theorem d_Reader_comeToNext_66 : decode b_Reader_comeToNext 66 = .ok (.aload_n 0, 1) := by decide +kernel
theorem d_Reader_comeToNext_67 : decode b_Reader_comeToNext 67 = .ok (.iconst 0, 1) := by decide +kernel
theorem d_Reader_comeToNext_68 : decode b_Reader_comeToNext 68 = .ok (.putfield 44, 3) := by decide +kernel
theorem d_Reader_comeToNext_71 : decode b_Reader_comeToNext 71 = .ok (.return_, 1) := by decide +kernel
theorem d_Reader_comeToNext_72 : decode b_Reader_comeToNext 72 = .ok (.aload_n 0, 1) := by decide +kernel
theorem d_Reader_comeToNext_73 : decode b_Reader_comeToNext 73 = .ok (.getfield 25, 3) := by decide +kernel
theorem d_Reader_comeToNext_76 : decode b_Reader_comeToNext 76 = .ok (.getfield 93, 3) := by decide +kernel
theorem d_Reader_comeToNext_79 : decode b_Reader_comeToNext 79 = .ok (.aload_n 0, 1) := by decide +kernel
theorem d_Reader_comeToNext_80 : decode b_Reader_comeToNext 80 = .ok (.getfield 29, 3) := by decide +kernel
theorem d_Reader_comeToNext_83 : decode b_Reader_comeToNext 83 = .ok (.iaload, 1) := by decide +kernel
theorem d_Reader_comeToNext_84 : decode b_Reader_comeToNext 84 = .ok (.istore_n 1, 1) := by decide +kernel
theorem d_Reader_comeToNext_85 : decode b_Reader_comeToNext 85 = .ok (.iload_n 1, 1) := by decide +kernel
theorem d_Reader_comeToNext_86 : decode b_Reader_comeToNext 86 = .ok (.invokestatic 96, 3) := by decide +kernel
theorem d_Reader_comeToNext_89 : decode b_Reader_comeToNext 89 = .ok (.ifCond .eq 10, 3) := by decide +kernel
theorem d_Reader_comeToNext_92 : decode b_Reader_comeToNext 92 = .ok (.aload_n 0, 1) := by decide +kernel
theorem d_Reader_comeToNext_93 : decode b_Reader_comeToNext 93 = .ok (.invokevirtual 99, 3) := by decide +kernel
theorem d_Reader_comeToNext_96 : decode b_Reader_comeToNext 96 = .ok (.goto 43, 3) := by decide +kernel
theorem d_Reader_comeToNext_99 : decode b_Reader_comeToNext 99 = .ok (.iload_n 1, 1) := by decide +kernel
theorem d_Reader_comeToNext_100 : decode b_Reader_comeToNext 100 = .ok (.invokestatic 102, 3) := by decide +kernel
theorem d_Reader_comeToNext_103 : decode b_Reader_comeToNext 103 = .ok (.ifCond .eq 10, 3) := by decide +kernel
theorem d_Reader_comeToNext_106 : decode b_Reader_comeToNext 106 = .ok (.aload_n 0, 1) := by decide +kernel
theorem d_Reader_comeToNext_107 : decode b_Reader_comeToNext 107 = .ok (.invokevirtual 105, 3) := by decide +kernel
theorem d_Reader_comeToNext_110 : decode b_Reader_comeToNext 110 = .ok (.goto 29, 3) := by decide +kernel
theorem d_Reader_comeToNext_113 : decode b_Reader_comeToNext 113 = .ok (.aload_n 0, 1) := by decide +kernel
theorem d_Reader_comeToNext_114 : decode b_Reader_comeToNext 114 = .ok (.dup, 1) := by decide +kernel
theorem d_Reader_comeToNext_115 : decode b_Reader_comeToNext 115 = .ok (.getfield 29, 3) := by decide +kernel
theorem d_Reader_comeToNext_118 : decode b_Reader_comeToNext 118 = .ok (.iconst 1, 1) := by decide +kernel
theorem d_Reader_comeToNext_119 : decode b_Reader_comeToNext 119 = .ok (.iadd, 1) := by decide +kernel
theorem d_Reader_comeToNext_120 : decode b_Reader_comeToNext 120 = .ok (.putfield 29, 3) := by decide +kernel
theorem d_Reader_comeToNext_123 : decode b_Reader_comeToNext 123 = .ok (.aload_n 0, 1) := by decide +kernel
theorem d_Reader_comeToNext_124 : decode b_Reader_comeToNext 124 = .ok (.iload_n 1, 1) := by decide +kernel
theorem d_Reader_comeToNext_125 : decode b_Reader_comeToNext 125 = .ok (.invokestatic 108, 3) := by decide +kernel
theorem d_Reader_comeToNext_128 : decode b_Reader_comeToNext 128 = .ok (.ifCond .eq 7, 3) := by decide +kernel
theorem d_Reader_comeToNext_131 : decode b_Reader_comeToNext 131 = .ok (.iload_n 1, 1) := by decide +kernel
theorem d_Reader_comeToNext_132 : decode b_Reader_comeToNext 132 = .ok (.goto 4, 3) := by decide +kernel
theorem d_Reader_comeToNext_135 : decode b_Reader_comeToNext 135 = .ok (.iconst 1, 1) := by decide +kernel
theorem d_Reader_comeToNext_136 : decode b_Reader_comeToNext 136 = .ok (.putfield 44, 3) := by decide +kernel
theorem d_Reader_comeToNext_139 : decode b_Reader_comeToNext 139 = .ok (.return_, 1) := by decide +kernel
abbrev y_Reader_emit : MethodName := ⟨"SmallHarbour$Reader", "emit", "(I)V"⟩
abbrev b_Reader_emit : ByteArray := prog_5_method_13_code
theorem mi_Reader_emit : MI y_Reader_emit b_Reader_emit 2 none 1 := ⟨w_786, w_11, by decide +kernel, by decide, by decide⟩
theorem mv_Reader_emit : MV y_Reader_emit := ⟨w_785, w_s2_10⟩
theorem d_Reader_emit_0 : decode b_Reader_emit 0 = .ok (.aload_n 0, 1) := by decide +kernel
theorem d_Reader_emit_1 : decode b_Reader_emit 1 = .ok (.getfield 15, 3) := by decide +kernel
theorem d_Reader_emit_4 : decode b_Reader_emit 4 = .ok (.bipush 60, 2) := by decide +kernel
theorem d_Reader_emit_6 : decode b_Reader_emit 6 = .ok (.if_icmp .ge 23, 3) := by decide +kernel
theorem d_Reader_emit_9 : decode b_Reader_emit 9 = .ok (.aload_n 0, 1) := by decide +kernel
theorem d_Reader_emit_10 : decode b_Reader_emit 10 = .ok (.getfield 9, 3) := by decide +kernel
theorem d_Reader_emit_13 : decode b_Reader_emit 13 = .ok (.aload_n 0, 1) := by decide +kernel
theorem d_Reader_emit_14 : decode b_Reader_emit 14 = .ok (.getfield 15, 3) := by decide +kernel
theorem d_Reader_emit_17 : decode b_Reader_emit 17 = .ok (.iload_n 1, 1) := by decide +kernel
theorem d_Reader_emit_18 : decode b_Reader_emit 18 = .ok (.iastore, 1) := by decide +kernel
theorem d_Reader_emit_19 : decode b_Reader_emit 19 = .ok (.aload_n 0, 1) := by decide +kernel
theorem d_Reader_emit_20 : decode b_Reader_emit 20 = .ok (.dup, 1) := by decide +kernel
theorem d_Reader_emit_21 : decode b_Reader_emit 21 = .ok (.getfield 15, 3) := by decide +kernel
theorem d_Reader_emit_24 : decode b_Reader_emit 24 = .ok (.iconst 1, 1) := by decide +kernel
theorem d_Reader_emit_25 : decode b_Reader_emit 25 = .ok (.iadd, 1) := by decide +kernel
theorem d_Reader_emit_26 : decode b_Reader_emit 26 = .ok (.putfield 15, 3) := by decide +kernel
theorem d_Reader_emit_29 : decode b_Reader_emit 29 = .ok (.return_, 1) := by decide +kernel
abbrev y_Reader_refuse : MethodName := ⟨"SmallHarbour$Reader", "refuse", "(I)V"⟩
abbrev b_Reader_refuse : ByteArray := prog_5_method_12_code
theorem mi_Reader_refuse : MI y_Reader_refuse b_Reader_refuse 2 none 1 := ⟨w_795, w_11, by decide +kernel, by decide, by decide⟩
theorem mv_Reader_refuse : MV y_Reader_refuse := ⟨w_794, w_s2_12⟩
theorem d_Reader_refuse_0 : decode b_Reader_refuse 0 = .ok (.aload_n 0, 1) := by decide +kernel
theorem d_Reader_refuse_1 : decode b_Reader_refuse 1 = .ok (.getfield 19, 3) := by decide +kernel
theorem d_Reader_refuse_4 : decode b_Reader_refuse 4 = .ok (.ifCond .ne 16, 3) := by decide +kernel
theorem d_Reader_refuse_7 : decode b_Reader_refuse 7 = .ok (.aload_n 0, 1) := by decide +kernel
theorem d_Reader_refuse_8 : decode b_Reader_refuse 8 = .ok (.iload_n 1, 1) := by decide +kernel
theorem d_Reader_refuse_9 : decode b_Reader_refuse 9 = .ok (.putfield 19, 3) := by decide +kernel
theorem d_Reader_refuse_12 : decode b_Reader_refuse 12 = .ok (.aload_n 0, 1) := by decide +kernel
theorem d_Reader_refuse_13 : decode b_Reader_refuse 13 = .ok (.aload_n 0, 1) := by decide +kernel
theorem d_Reader_refuse_14 : decode b_Reader_refuse 14 = .ok (.getfield 85, 3) := by decide +kernel
theorem d_Reader_refuse_17 : decode b_Reader_refuse 17 = .ok (.putfield 22, 3) := by decide +kernel
theorem d_Reader_refuse_20 : decode b_Reader_refuse 20 = .ok (.return_, 1) := by decide +kernel
abbrev y_Reader_take : MethodName := ⟨"SmallHarbour$Reader", "take", "()V"⟩
abbrev b_Reader_take : ByteArray := prog_5_method_11_code
theorem mi_Reader_take : MI y_Reader_take b_Reader_take 1 none 0 := ⟨w_790, w_11, by decide +kernel, by decide, by decide⟩
theorem mv_Reader_take : MV y_Reader_take := ⟨w_789, w_s2_11⟩
theorem d_Reader_take_0 : decode b_Reader_take 0 = .ok (.aload_n 0, 1) := by decide +kernel
theorem d_Reader_take_1 : decode b_Reader_take 1 = .ok (.getfield 19, 3) := by decide +kernel
theorem d_Reader_take_4 : decode b_Reader_take 4 = .ok (.ifCond .eq 4, 3) := by decide +kernel
theorem d_Reader_take_7 : decode b_Reader_take 7 = .ok (.return_, 1) := by decide +kernel
theorem d_Reader_take_8 : decode b_Reader_take 8 = .ok (.aload_n 0, 1) := by decide +kernel
theorem d_Reader_take_9 : decode b_Reader_take 9 = .ok (.dup, 1) := by decide +kernel
theorem d_Reader_take_10 : decode b_Reader_take 10 = .ok (.getfield 32, 3) := by decide +kernel
theorem d_Reader_take_13 : decode b_Reader_take 13 = .ok (.iconst 1, 1) := by decide +kernel
theorem d_Reader_take_14 : decode b_Reader_take 14 = .ok (.iadd, 1) := by decide +kernel
theorem d_Reader_take_15 : decode b_Reader_take 15 = .ok (.putfield 32, 3) := by decide +kernel
theorem d_Reader_take_18 : decode b_Reader_take 18 = .ok (.aload_n 0, 1) := by decide +kernel
theorem d_Reader_take_19 : decode b_Reader_take 19 = .ok (.getfield 44, 3) := by decide +kernel
theorem d_Reader_take_22 : decode b_Reader_take 22 = .ok (.bipush 48, 2) := by decide +kernel
theorem d_Reader_take_24 : decode b_Reader_take 24 = .ok (.if_icmp .ne 20, 3) := by decide +kernel
theorem d_Reader_take_27 : decode b_Reader_take 27 = .ok (.aload_n 0, 1) := by decide +kernel
theorem d_Reader_take_28 : decode b_Reader_take 28 = .ok (.getfield 81, 3) := by decide +kernel
theorem d_Reader_take_31 : decode b_Reader_take 31 = .ok (.ldc 84, 2) := by decide +kernel
theorem d_Reader_take_33 : decode b_Reader_take 33 = .ok (.if_icmp .le 11, 3) := by decide +kernel
theorem d_Reader_take_36 : decode b_Reader_take 36 = .ok (.aload_n 0, 1) := by decide +kernel
theorem d_Reader_take_37 : decode b_Reader_take 37 = .ok (.iconst 2, 1) := by decide +kernel
theorem d_Reader_take_38 : decode b_Reader_take 38 = .ok (.invokevirtual 47, 3) := by decide +kernel
theorem d_Reader_take_41 : decode b_Reader_take 41 = .ok (.goto 24, 3) := by decide +kernel
theorem d_Reader_take_44 : decode b_Reader_take 44 = .ok (.aload_n 0, 1) := by decide +kernel
theorem d_Reader_take_45 : decode b_Reader_take 45 = .ok (.getfield 32, 3) := by decide +kernel
theorem d_Reader_take_48 : decode b_Reader_take 48 = .ok (.bipush 60, 2) := by decide +kernel
theorem d_Reader_take_50 : decode b_Reader_take 50 = .ok (.if_icmp .le 11, 3) := by decide +kernel
theorem d_Reader_take_53 : decode b_Reader_take 53 = .ok (.aload_n 0, 1) := by decide +kernel
theorem d_Reader_take_54 : decode b_Reader_take 54 = .ok (.iconst 3, 1) := by decide +kernel
theorem d_Reader_take_55 : decode b_Reader_take 55 = .ok (.invokevirtual 47, 3) := by decide +kernel
theorem d_Reader_take_58 : decode b_Reader_take 58 = .ok (.goto 7, 3) := by decide +kernel
theorem d_Reader_take_61 : decode b_Reader_take 61 = .ok (.aload_n 0, 1) := by decide +kernel
theorem d_Reader_take_62 : decode b_Reader_take 62 = .ok (.invokevirtual 38, 3) := by decide +kernel
theorem d_Reader_take_65 : decode b_Reader_take 65 = .ok (.return_, 1) := by decide +kernel
abbrev y_Reader_expect : MethodName := ⟨"SmallHarbour$Reader", "expect", "(I)V"⟩
abbrev b_Reader_expect : ByteArray := prog_5_method_9_code
theorem mi_Reader_expect : MI y_Reader_expect b_Reader_expect 2 none 1 := ⟨w_803, w_11, by decide +kernel, by decide, by decide⟩
theorem mv_Reader_expect : MV y_Reader_expect := ⟨w_802, w_s2_14⟩
theorem d_Reader_expect_0 : decode b_Reader_expect 0 = .ok (.aload_n 0, 1) := by decide +kernel
theorem d_Reader_expect_1 : decode b_Reader_expect 1 = .ok (.getfield 44, 3) := by decide +kernel
theorem d_Reader_expect_4 : decode b_Reader_expect 4 = .ok (.iload_n 1, 1) := by decide +kernel
theorem d_Reader_expect_5 : decode b_Reader_expect 5 = .ok (.if_icmp .ne 10, 3) := by decide +kernel
theorem d_Reader_expect_8 : decode b_Reader_expect 8 = .ok (.aload_n 0, 1) := by decide +kernel
theorem d_Reader_expect_9 : decode b_Reader_expect 9 = .ok (.invokevirtual 68, 3) := by decide +kernel
theorem d_Reader_expect_12 : decode b_Reader_expect 12 = .ok (.goto 8, 3) := by decide +kernel
theorem d_Reader_expect_15 : decode b_Reader_expect 15 = .ok (.aload_n 0, 1) := by decide +kernel
theorem d_Reader_expect_16 : decode b_Reader_expect 16 = .ok (.iconst 1, 1) := by decide +kernel
theorem d_Reader_expect_17 : decode b_Reader_expect 17 = .ok (.invokevirtual 47, 3) := by decide +kernel
theorem d_Reader_expect_20 : decode b_Reader_expect 20 = .ok (.return_, 1) := by decide +kernel
abbrev y_Reader_openOne : MethodName := ⟨"SmallHarbour$Reader", "openOne", "()V"⟩
abbrev b_Reader_openOne : ByteArray := prog_5_method_10_code
theorem mi_Reader_openOne : MI y_Reader_openOne b_Reader_openOne 1 none 0 := ⟨w_799, w_11, by decide +kernel, by decide, by decide⟩
theorem mv_Reader_openOne : MV y_Reader_openOne := ⟨w_798, w_s2_13⟩
theorem d_Reader_openOne_0 : decode b_Reader_openOne 0 = .ok (.aload_n 0, 1) := by decide +kernel
theorem d_Reader_openOne_1 : decode b_Reader_openOne 1 = .ok (.getfield 35, 3) := by decide +kernel
theorem d_Reader_openOne_4 : decode b_Reader_openOne 4 = .ok (.bipush 10, 2) := by decide +kernel
theorem d_Reader_openOne_6 : decode b_Reader_openOne 6 = .ok (.if_icmp .lt 8, 3) := by decide +kernel
theorem d_Reader_openOne_9 : decode b_Reader_openOne 9 = .ok (.aload_n 0, 1) := by decide +kernel
theorem d_Reader_openOne_10 : decode b_Reader_openOne 10 = .ok (.iconst 3, 1) := by decide +kernel
theorem d_Reader_openOne_11 : decode b_Reader_openOne 11 = .ok (.invokevirtual 47, 3) := by decide +kernel
theorem d_Reader_openOne_14 : decode b_Reader_openOne 14 = .ok (.aload_n 0, 1) := by decide +kernel
theorem d_Reader_openOne_15 : decode b_Reader_openOne 15 = .ok (.dup, 1) := by decide +kernel
theorem d_Reader_openOne_16 : decode b_Reader_openOne 16 = .ok (.getfield 35, 3) := by decide +kernel
theorem d_Reader_openOne_19 : decode b_Reader_openOne 19 = .ok (.iconst 1, 1) := by decide +kernel
theorem d_Reader_openOne_20 : decode b_Reader_openOne 20 = .ok (.iadd, 1) := by decide +kernel
theorem d_Reader_openOne_21 : decode b_Reader_openOne 21 = .ok (.putfield 35, 3) := by decide +kernel
theorem d_Reader_openOne_24 : decode b_Reader_openOne 24 = .ok (.aload_n 0, 1) := by decide +kernel
theorem d_Reader_openOne_25 : decode b_Reader_openOne 25 = .ok (.invokevirtual 68, 3) := by decide +kernel
theorem d_Reader_openOne_28 : decode b_Reader_openOne 28 = .ok (.return_, 1) := by decide +kernel
abbrev y_Reader_isOfT : MethodName := ⟨"SmallHarbour$Reader", "isOfT", "(I)Z"⟩
abbrev b_Reader_isOfT : ByteArray := prog_5_method_8_code
theorem mi_Reader_isOfT : MI y_Reader_isOfT b_Reader_isOfT 1 (some .boolean) 1 := ⟨w_806, w_11, by decide +kernel, by decide, by decide⟩
theorem d_Reader_isOfT_0 : decode b_Reader_isOfT 0 = .ok (.iload_n 0, 1) := by decide +kernel
theorem d_Reader_isOfT_1 : decode b_Reader_isOfT 1 = .ok (.bipush 42, 2) := by decide +kernel
theorem d_Reader_isOfT_3 : decode b_Reader_isOfT 3 = .ok (.if_icmp .eq 15, 3) := by decide +kernel
theorem d_Reader_isOfT_6 : decode b_Reader_isOfT 6 = .ok (.iload_n 0, 1) := by decide +kernel
theorem d_Reader_isOfT_7 : decode b_Reader_isOfT 7 = .ok (.bipush 47, 2) := by decide +kernel
theorem d_Reader_isOfT_9 : decode b_Reader_isOfT 9 = .ok (.if_icmp .eq 9, 3) := by decide +kernel
theorem d_Reader_isOfT_12 : decode b_Reader_isOfT 12 = .ok (.iload_n 0, 1) := by decide +kernel
theorem d_Reader_isOfT_13 : decode b_Reader_isOfT 13 = .ok (.bipush 37, 2) := by decide +kernel
theorem d_Reader_isOfT_15 : decode b_Reader_isOfT 15 = .ok (.if_icmp .ne 7, 3) := by decide +kernel
theorem d_Reader_isOfT_18 : decode b_Reader_isOfT 18 = .ok (.iconst 1, 1) := by decide +kernel
theorem d_Reader_isOfT_19 : decode b_Reader_isOfT 19 = .ok (.goto 4, 3) := by decide +kernel
theorem d_Reader_isOfT_22 : decode b_Reader_isOfT 22 = .ok (.iconst 0, 1) := by decide +kernel
theorem d_Reader_isOfT_23 : decode b_Reader_isOfT 23 = .ok (.ireturn, 1) := by decide +kernel
abbrev y_Reader_readU : MethodName := ⟨"SmallHarbour$Reader", "readU", "()V"⟩
abbrev b_Reader_readU : ByteArray := prog_5_method_7_code
theorem mi_Reader_readU : MI y_Reader_readU b_Reader_readU 1 none 0 := ⟨w_782, w_11, by decide +kernel, by decide, by decide⟩
theorem mv_Reader_readU : MV y_Reader_readU := ⟨w_781, w_s2_9⟩
theorem d_Reader_readU_0 : decode b_Reader_readU 0 = .ok (.aload_n 0, 1) := by decide +kernel
theorem d_Reader_readU_1 : decode b_Reader_readU 1 = .ok (.getfield 19, 3) := by decide +kernel
theorem d_Reader_readU_4 : decode b_Reader_readU 4 = .ok (.ifCond .eq 4, 3) := by decide +kernel
theorem d_Reader_readU_7 : decode b_Reader_readU 7 = .ok (.return_, 1) := by decide +kernel
theorem d_Reader_readU_8 : decode b_Reader_readU 8 = .ok (.aload_n 0, 1) := by decide +kernel
theorem d_Reader_readU_9 : decode b_Reader_readU 9 = .ok (.getfield 44, 3) := by decide +kernel
theorem d_Reader_readU_12 : decode b_Reader_readU 12 = .ok (.lookupswitch 145 #[(40, 118), (45, 91), (48, 60), (100, 75), (102, 75), (110, 75)], 60) := by decide +kernel
theorem d_Reader_readU_72 : decode b_Reader_readU 72 = .ok (.aload_n 0, 1) := by decide +kernel
theorem d_Reader_readU_73 : decode b_Reader_readU 73 = .ok (.aload_n 0, 1) := by decide +kernel
theorem d_Reader_readU_74 : decode b_Reader_readU 74 = .ok (.getfield 81, 3) := by decide +kernel
theorem d_Reader_readU_77 : decode b_Reader_readU 77 = .ok (.invokevirtual 62, 3) := by decide +kernel
theorem d_Reader_readU_80 : decode b_Reader_readU 80 = .ok (.aload_n 0, 1) := by decide +kernel
theorem d_Reader_readU_81 : decode b_Reader_readU 81 = .ok (.invokevirtual 68, 3) := by decide +kernel
theorem d_Reader_readU_84 : decode b_Reader_readU 84 = .ok (.goto 78, 3) := by decide +kernel
theorem d_Reader_readU_87 : decode b_Reader_readU 87 = .ok (.aload_n 0, 1) := by decide +kernel
theorem d_Reader_readU_88 : decode b_Reader_readU 88 = .ok (.aload_n 0, 1) := by decide +kernel
theorem d_Reader_readU_89 : decode b_Reader_readU 89 = .ok (.getfield 44, 3) := by decide +kernel
theorem d_Reader_readU_92 : decode b_Reader_readU 92 = .ok (.ineg, 1) := by decide +kernel
theorem d_Reader_readU_93 : decode b_Reader_readU 93 = .ok (.invokevirtual 62, 3) := by decide +kernel
theorem d_Reader_readU_96 : decode b_Reader_readU 96 = .ok (.aload_n 0, 1) := by decide +kernel
theorem d_Reader_readU_97 : decode b_Reader_readU 97 = .ok (.invokevirtual 68, 3) := by decide +kernel
theorem d_Reader_readU_100 : decode b_Reader_readU 100 = .ok (.goto 62, 3) := by decide +kernel
theorem d_Reader_readU_103 : decode b_Reader_readU 103 = .ok (.aload_n 0, 1) := by decide +kernel
theorem d_Reader_readU_104 : decode b_Reader_readU 104 = .ok (.invokevirtual 54, 3) := by decide +kernel
theorem d_Reader_readU_107 : decode b_Reader_readU 107 = .ok (.aload_n 0, 1) := by decide +kernel
theorem d_Reader_readU_108 : decode b_Reader_readU 108 = .ok (.invokevirtual 74, 3) := by decide +kernel
theorem d_Reader_readU_111 : decode b_Reader_readU 111 = .ok (.aload_n 0, 1) := by decide +kernel
theorem d_Reader_readU_112 : decode b_Reader_readU 112 = .ok (.bipush (-126), 2) := by decide +kernel
theorem d_Reader_readU_114 : decode b_Reader_readU 114 = .ok (.invokevirtual 62, 3) := by decide +kernel
theorem d_Reader_readU_117 : decode b_Reader_readU 117 = .ok (.aload_n 0, 1) := by decide +kernel
theorem d_Reader_readU_118 : decode b_Reader_readU 118 = .ok (.dup, 1) := by decide +kernel
theorem d_Reader_readU_119 : decode b_Reader_readU 119 = .ok (.getfield 35, 3) := by decide +kernel
theorem d_Reader_readU_122 : decode b_Reader_readU 122 = .ok (.iconst 1, 1) := by decide +kernel
theorem d_Reader_readU_123 : decode b_Reader_readU 123 = .ok (.isub, 1) := by decide +kernel
theorem d_Reader_readU_124 : decode b_Reader_readU 124 = .ok (.putfield 35, 3) := by decide +kernel
theorem d_Reader_readU_127 : decode b_Reader_readU 127 = .ok (.goto 35, 3) := by decide +kernel
theorem d_Reader_readU_130 : decode b_Reader_readU 130 = .ok (.aload_n 0, 1) := by decide +kernel
theorem d_Reader_readU_131 : decode b_Reader_readU 131 = .ok (.invokevirtual 54, 3) := by decide +kernel
theorem d_Reader_readU_134 : decode b_Reader_readU 134 = .ok (.aload_n 0, 1) := by decide +kernel
theorem d_Reader_readU_135 : decode b_Reader_readU 135 = .ok (.invokevirtual 41, 3) := by decide +kernel
theorem d_Reader_readU_138 : decode b_Reader_readU 138 = .ok (.aload_n 0, 1) := by decide +kernel
theorem d_Reader_readU_139 : decode b_Reader_readU 139 = .ok (.bipush 41, 2) := by decide +kernel
theorem d_Reader_readU_141 : decode b_Reader_readU 141 = .ok (.invokevirtual 58, 3) := by decide +kernel
theorem d_Reader_readU_144 : decode b_Reader_readU 144 = .ok (.aload_n 0, 1) := by decide +kernel
theorem d_Reader_readU_145 : decode b_Reader_readU 145 = .ok (.dup, 1) := by decide +kernel
theorem d_Reader_readU_146 : decode b_Reader_readU 146 = .ok (.getfield 35, 3) := by decide +kernel
theorem d_Reader_readU_149 : decode b_Reader_readU 149 = .ok (.iconst 1, 1) := by decide +kernel
theorem d_Reader_readU_150 : decode b_Reader_readU 150 = .ok (.isub, 1) := by decide +kernel
theorem d_Reader_readU_151 : decode b_Reader_readU 151 = .ok (.putfield 35, 3) := by decide +kernel
theorem d_Reader_readU_154 : decode b_Reader_readU 154 = .ok (.goto 8, 3) := by decide +kernel
theorem d_Reader_readU_157 : decode b_Reader_readU 157 = .ok (.aload_n 0, 1) := by decide +kernel
theorem d_Reader_readU_158 : decode b_Reader_readU 158 = .ok (.iconst 1, 1) := by decide +kernel
theorem d_Reader_readU_159 : decode b_Reader_readU 159 = .ok (.invokevirtual 47, 3) := by decide +kernel
theorem d_Reader_readU_162 : decode b_Reader_readU 162 = .ok (.return_, 1) := by decide +kernel
abbrev y_Reader_readT : MethodName := ⟨"SmallHarbour$Reader", "readT", "()V"⟩
abbrev b_Reader_readT : ByteArray := prog_5_method_6_code
theorem mi_Reader_readT : MI y_Reader_readT b_Reader_readT 3 none 0 := ⟨w_778, w_11, by decide +kernel, by decide, by decide⟩
theorem mv_Reader_readT : MV y_Reader_readT := ⟨w_777, w_s2_8⟩
theorem d_Reader_readT_0 : decode b_Reader_readT 0 = .ok (.aload_n 0, 1) := by decide +kernel
theorem d_Reader_readT_1 : decode b_Reader_readT 1 = .ok (.invokevirtual 74, 3) := by decide +kernel
theorem d_Reader_readT_4 : decode b_Reader_readT 4 = .ok (.iconst 0, 1) := by decide +kernel
theorem d_Reader_readT_5 : decode b_Reader_readT 5 = .ok (.istore_n 1, 1) := by decide +kernel
theorem d_Reader_readT_6 : decode b_Reader_readT 6 = .ok (.iload_n 1, 1) := by decide +kernel
theorem d_Reader_readT_7 : decode b_Reader_readT 7 = .ok (.bipush 60, 2) := by decide +kernel
theorem d_Reader_readT_9 : decode b_Reader_readT 9 = .ok (.if_icmp .ge 45, 3) := by decide +kernel
theorem d_Reader_readT_12 : decode b_Reader_readT 12 = .ok (.aload_n 0, 1) := by decide +kernel
theorem d_Reader_readT_13 : decode b_Reader_readT 13 = .ok (.getfield 19, 3) := by decide +kernel
theorem d_Reader_readT_16 : decode b_Reader_readT 16 = .ok (.ifCond .ne 38, 3) := by decide +kernel
theorem d_Reader_readT_19 : decode b_Reader_readT 19 = .ok (.aload_n 0, 1) := by decide +kernel
theorem d_Reader_readT_20 : decode b_Reader_readT 20 = .ok (.getfield 44, 3) := by decide +kernel
theorem d_Reader_readT_23 : decode b_Reader_readT 23 = .ok (.invokestatic 77, 3) := by decide +kernel
theorem d_Reader_readT_26 : decode b_Reader_readT 26 = .ok (.ifCond .eq 28, 3) := by decide +kernel
theorem d_Reader_readT_29 : decode b_Reader_readT 29 = .ok (.aload_n 0, 1) := by decide +kernel
theorem d_Reader_readT_30 : decode b_Reader_readT 30 = .ok (.getfield 44, 3) := by decide +kernel
theorem d_Reader_readT_33 : decode b_Reader_readT 33 = .ok (.istore_n 2, 1) := by decide +kernel
theorem d_Reader_readT_34 : decode b_Reader_readT 34 = .ok (.aload_n 0, 1) := by decide +kernel
theorem d_Reader_readT_35 : decode b_Reader_readT 35 = .ok (.invokevirtual 68, 3) := by decide +kernel
theorem d_Reader_readT_38 : decode b_Reader_readT 38 = .ok (.aload_n 0, 1) := by decide +kernel
theorem d_Reader_readT_39 : decode b_Reader_readT 39 = .ok (.invokevirtual 74, 3) := by decide +kernel
theorem d_Reader_readT_42 : decode b_Reader_readT 42 = .ok (.aload_n 0, 1) := by decide +kernel
theorem d_Reader_readT_43 : decode b_Reader_readT 43 = .ok (.iload_n 2, 1) := by decide +kernel
theorem d_Reader_readT_44 : decode b_Reader_readT 44 = .ok (.ineg, 1) := by decide +kernel
theorem d_Reader_readT_45 : decode b_Reader_readT 45 = .ok (.invokevirtual 62, 3) := by decide +kernel
theorem d_Reader_readT_48 : decode b_Reader_readT 48 = .ok (.iinc 1 1, 3) := by decide +kernel
theorem d_Reader_readT_51 : decode b_Reader_readT 51 = .ok (.goto (-45), 3) := by decide +kernel
theorem d_Reader_readT_54 : decode b_Reader_readT 54 = .ok (.return_, 1) := by decide +kernel
abbrev y_Reader_readS : MethodName := ⟨"SmallHarbour$Reader", "readS", "()V"⟩
abbrev b_Reader_readS : ByteArray := prog_5_method_5_code
theorem mi_Reader_readS : MI y_Reader_readS b_Reader_readS 3 none 0 := ⟨w_774, w_11, by decide +kernel, by decide, by decide⟩
theorem mv_Reader_readS : MV y_Reader_readS := ⟨w_773, w_s2_7⟩
theorem d_Reader_readS_0 : decode b_Reader_readS 0 = .ok (.aload_n 0, 1) := by decide +kernel
theorem d_Reader_readS_1 : decode b_Reader_readS 1 = .ok (.invokevirtual 71, 3) := by decide +kernel
theorem d_Reader_readS_4 : decode b_Reader_readS 4 = .ok (.iconst 0, 1) := by decide +kernel
theorem d_Reader_readS_5 : decode b_Reader_readS 5 = .ok (.istore_n 1, 1) := by decide +kernel
theorem d_Reader_readS_6 : decode b_Reader_readS 6 = .ok (.iload_n 1, 1) := by decide +kernel
theorem d_Reader_readS_7 : decode b_Reader_readS 7 = .ok (.bipush 60, 2) := by decide +kernel
theorem d_Reader_readS_9 : decode b_Reader_readS 9 = .ok (.if_icmp .ge 53, 3) := by decide +kernel
theorem d_Reader_readS_12 : decode b_Reader_readS 12 = .ok (.aload_n 0, 1) := by decide +kernel
theorem d_Reader_readS_13 : decode b_Reader_readS 13 = .ok (.getfield 19, 3) := by decide +kernel
theorem d_Reader_readS_16 : decode b_Reader_readS 16 = .ok (.ifCond .ne 46, 3) := by decide +kernel
theorem d_Reader_readS_19 : decode b_Reader_readS 19 = .ok (.aload_n 0, 1) := by decide +kernel
theorem d_Reader_readS_20 : decode b_Reader_readS 20 = .ok (.getfield 44, 3) := by decide +kernel
theorem d_Reader_readS_23 : decode b_Reader_readS 23 = .ok (.bipush 43, 2) := by decide +kernel
theorem d_Reader_readS_25 : decode b_Reader_readS 25 = .ok (.if_icmp .eq 12, 3) := by decide +kernel
theorem d_Reader_readS_28 : decode b_Reader_readS 28 = .ok (.aload_n 0, 1) := by decide +kernel
theorem d_Reader_readS_29 : decode b_Reader_readS 29 = .ok (.getfield 44, 3) := by decide +kernel
theorem d_Reader_readS_32 : decode b_Reader_readS 32 = .ok (.bipush 45, 2) := by decide +kernel
theorem d_Reader_readS_34 : decode b_Reader_readS 34 = .ok (.if_icmp .ne 28, 3) := by decide +kernel
theorem d_Reader_readS_37 : decode b_Reader_readS 37 = .ok (.aload_n 0, 1) := by decide +kernel
theorem d_Reader_readS_38 : decode b_Reader_readS 38 = .ok (.getfield 44, 3) := by decide +kernel
theorem d_Reader_readS_41 : decode b_Reader_readS 41 = .ok (.istore_n 2, 1) := by decide +kernel
theorem d_Reader_readS_42 : decode b_Reader_readS 42 = .ok (.aload_n 0, 1) := by decide +kernel
theorem d_Reader_readS_43 : decode b_Reader_readS 43 = .ok (.invokevirtual 68, 3) := by decide +kernel
theorem d_Reader_readS_46 : decode b_Reader_readS 46 = .ok (.aload_n 0, 1) := by decide +kernel
theorem d_Reader_readS_47 : decode b_Reader_readS 47 = .ok (.invokevirtual 71, 3) := by decide +kernel
theorem d_Reader_readS_50 : decode b_Reader_readS 50 = .ok (.aload_n 0, 1) := by decide +kernel
theorem d_Reader_readS_51 : decode b_Reader_readS 51 = .ok (.iload_n 2, 1) := by decide +kernel
theorem d_Reader_readS_52 : decode b_Reader_readS 52 = .ok (.ineg, 1) := by decide +kernel
theorem d_Reader_readS_53 : decode b_Reader_readS 53 = .ok (.invokevirtual 62, 3) := by decide +kernel
theorem d_Reader_readS_56 : decode b_Reader_readS 56 = .ok (.iinc 1 1, 3) := by decide +kernel
theorem d_Reader_readS_59 : decode b_Reader_readS 59 = .ok (.goto (-53), 3) := by decide +kernel
theorem d_Reader_readS_62 : decode b_Reader_readS 62 = .ok (.return_, 1) := by decide +kernel
abbrev y_Reader_readC : MethodName := ⟨"SmallHarbour$Reader", "readC", "()V"⟩
abbrev b_Reader_readC : ByteArray := prog_5_method_4_code
theorem mi_Reader_readC : MI y_Reader_readC b_Reader_readC 2 none 0 := ⟨w_770, w_11, by decide +kernel, by decide, by decide⟩
theorem mv_Reader_readC : MV y_Reader_readC := ⟨w_769, w_s2_6⟩
theorem d_Reader_readC_0 : decode b_Reader_readC 0 = .ok (.aload_n 0, 1) := by decide +kernel
theorem d_Reader_readC_1 : decode b_Reader_readC 1 = .ok (.invokevirtual 65, 3) := by decide +kernel
theorem d_Reader_readC_4 : decode b_Reader_readC 4 = .ok (.aload_n 0, 1) := by decide +kernel
theorem d_Reader_readC_5 : decode b_Reader_readC 5 = .ok (.getfield 19, 3) := by decide +kernel
theorem d_Reader_readC_8 : decode b_Reader_readC 8 = .ok (.ifCond .ne 40, 3) := by decide +kernel
theorem d_Reader_readC_11 : decode b_Reader_readC 11 = .ok (.aload_n 0, 1) := by decide +kernel
theorem d_Reader_readC_12 : decode b_Reader_readC 12 = .ok (.getfield 44, 3) := by decide +kernel
theorem d_Reader_readC_15 : decode b_Reader_readC 15 = .ok (.bipush 60, 2) := by decide +kernel
theorem d_Reader_readC_17 : decode b_Reader_readC 17 = .ok (.if_icmp .eq 12, 3) := by decide +kernel
theorem d_Reader_readC_20 : decode b_Reader_readC 20 = .ok (.aload_n 0, 1) := by decide +kernel
theorem d_Reader_readC_21 : decode b_Reader_readC 21 = .ok (.getfield 44, 3) := by decide +kernel
theorem d_Reader_readC_24 : decode b_Reader_readC 24 = .ok (.bipush 61, 2) := by decide +kernel
theorem d_Reader_readC_26 : decode b_Reader_readC 26 = .ok (.if_icmp .ne 22, 3) := by decide +kernel
theorem d_Reader_readC_29 : decode b_Reader_readC 29 = .ok (.aload_n 0, 1) := by decide +kernel
theorem d_Reader_readC_30 : decode b_Reader_readC 30 = .ok (.getfield 44, 3) := by decide +kernel
theorem d_Reader_readC_33 : decode b_Reader_readC 33 = .ok (.istore_n 1, 1) := by decide +kernel
theorem d_Reader_readC_34 : decode b_Reader_readC 34 = .ok (.aload_n 0, 1) := by decide +kernel
theorem d_Reader_readC_35 : decode b_Reader_readC 35 = .ok (.invokevirtual 68, 3) := by decide +kernel
theorem d_Reader_readC_38 : decode b_Reader_readC 38 = .ok (.aload_n 0, 1) := by decide +kernel
theorem d_Reader_readC_39 : decode b_Reader_readC 39 = .ok (.invokevirtual 65, 3) := by decide +kernel
theorem d_Reader_readC_42 : decode b_Reader_readC 42 = .ok (.aload_n 0, 1) := by decide +kernel
theorem d_Reader_readC_43 : decode b_Reader_readC 43 = .ok (.iload_n 1, 1) := by decide +kernel
theorem d_Reader_readC_44 : decode b_Reader_readC 44 = .ok (.ineg, 1) := by decide +kernel
theorem d_Reader_readC_45 : decode b_Reader_readC 45 = .ok (.invokevirtual 62, 3) := by decide +kernel
theorem d_Reader_readC_48 : decode b_Reader_readC 48 = .ok (.return_, 1) := by decide +kernel
abbrev y_Reader_readE : MethodName := ⟨"SmallHarbour$Reader", "readE", "()V"⟩
abbrev b_Reader_readE : ByteArray := prog_5_method_3_code
theorem mi_Reader_readE : MI y_Reader_readE b_Reader_readE 1 none 0 := ⟨w_766, w_11, by decide +kernel, by decide, by decide⟩
theorem mv_Reader_readE : MV y_Reader_readE := ⟨w_765, w_s2_5⟩
theorem d_Reader_readE_0 : decode b_Reader_readE 0 = .ok (.aload_n 0, 1) := by decide +kernel
theorem d_Reader_readE_1 : decode b_Reader_readE 1 = .ok (.getfield 19, 3) := by decide +kernel
theorem d_Reader_readE_4 : decode b_Reader_readE 4 = .ok (.ifCond .eq 4, 3) := by decide +kernel
theorem d_Reader_readE_7 : decode b_Reader_readE 7 = .ok (.return_, 1) := by decide +kernel
theorem d_Reader_readE_8 : decode b_Reader_readE 8 = .ok (.aload_n 0, 1) := by decide +kernel
theorem d_Reader_readE_9 : decode b_Reader_readE 9 = .ok (.getfield 44, 3) := by decide +kernel
theorem d_Reader_readE_12 : decode b_Reader_readE 12 = .ok (.sipush 26982, 3) := by decide +kernel
theorem d_Reader_readE_15 : decode b_Reader_readE 15 = .ok (.if_icmp .eq 8, 3) := by decide +kernel
theorem d_Reader_readE_18 : decode b_Reader_readE 18 = .ok (.aload_n 0, 1) := by decide +kernel
theorem d_Reader_readE_19 : decode b_Reader_readE 19 = .ok (.invokevirtual 51, 3) := by decide +kernel
theorem d_Reader_readE_22 : decode b_Reader_readE 22 = .ok (.return_, 1) := by decide +kernel
theorem d_Reader_readE_23 : decode b_Reader_readE 23 = .ok (.aload_n 0, 1) := by decide +kernel
theorem d_Reader_readE_24 : decode b_Reader_readE 24 = .ok (.invokevirtual 54, 3) := by decide +kernel
theorem d_Reader_readE_27 : decode b_Reader_readE 27 = .ok (.aload_n 0, 1) := by decide +kernel
theorem d_Reader_readE_28 : decode b_Reader_readE 28 = .ok (.invokevirtual 41, 3) := by decide +kernel
theorem d_Reader_readE_31 : decode b_Reader_readE 31 = .ok (.aload_n 0, 1) := by decide +kernel
theorem d_Reader_readE_32 : decode b_Reader_readE 32 = .ok (.ldc 57, 2) := by decide +kernel
theorem d_Reader_readE_34 : decode b_Reader_readE 34 = .ok (.invokevirtual 58, 3) := by decide +kernel
theorem d_Reader_readE_37 : decode b_Reader_readE 37 = .ok (.aload_n 0, 1) := by decide +kernel
theorem d_Reader_readE_38 : decode b_Reader_readE 38 = .ok (.invokevirtual 41, 3) := by decide +kernel
theorem d_Reader_readE_41 : decode b_Reader_readE 41 = .ok (.aload_n 0, 1) := by decide +kernel
theorem d_Reader_readE_42 : decode b_Reader_readE 42 = .ok (.ldc 61, 2) := by decide +kernel
theorem d_Reader_readE_44 : decode b_Reader_readE 44 = .ok (.invokevirtual 58, 3) := by decide +kernel
theorem d_Reader_readE_47 : decode b_Reader_readE 47 = .ok (.aload_n 0, 1) := by decide +kernel
theorem d_Reader_readE_48 : decode b_Reader_readE 48 = .ok (.invokevirtual 41, 3) := by decide +kernel
theorem d_Reader_readE_51 : decode b_Reader_readE 51 = .ok (.aload_n 0, 1) := by decide +kernel
theorem d_Reader_readE_52 : decode b_Reader_readE 52 = .ok (.bipush (-63), 2) := by decide +kernel
theorem d_Reader_readE_54 : decode b_Reader_readE 54 = .ok (.invokevirtual 62, 3) := by decide +kernel
theorem d_Reader_readE_57 : decode b_Reader_readE 57 = .ok (.aload_n 0, 1) := by decide +kernel
theorem d_Reader_readE_58 : decode b_Reader_readE 58 = .ok (.dup, 1) := by decide +kernel
theorem d_Reader_readE_59 : decode b_Reader_readE 59 = .ok (.getfield 35, 3) := by decide +kernel
theorem d_Reader_readE_62 : decode b_Reader_readE 62 = .ok (.iconst 1, 1) := by decide +kernel
theorem d_Reader_readE_63 : decode b_Reader_readE 63 = .ok (.isub, 1) := by decide +kernel
theorem d_Reader_readE_64 : decode b_Reader_readE 64 = .ok (.putfield 35, 3) := by decide +kernel
theorem d_Reader_readE_67 : decode b_Reader_readE 67 = .ok (.return_, 1) := by decide +kernel
abbrev y_Reader_readTape : MethodName := ⟨"SmallHarbour$Reader", "readTape", "()Z"⟩
abbrev b_Reader_readTape : ByteArray := prog_5_method_2_code
theorem mi_Reader_readTape : MI y_Reader_readTape b_Reader_readTape 1 (some .boolean) 0 := ⟨w_736, w_11, by decide +kernel, by decide, by decide⟩
theorem mv_Reader_readTape : MV y_Reader_readTape := ⟨w_734, w_735⟩
theorem d_Reader_readTape_0 : decode b_Reader_readTape 0 = .ok (.aload_n 0, 1) := by decide +kernel
theorem d_Reader_readTape_1 : decode b_Reader_readTape 1 = .ok (.iconst 0, 1) := by decide +kernel
theorem d_Reader_readTape_2 : decode b_Reader_readTape 2 = .ok (.putfield 15, 3) := by decide +kernel
theorem d_Reader_readTape_5 : decode b_Reader_readTape 5 = .ok (.aload_n 0, 1) := by decide +kernel
theorem d_Reader_readTape_6 : decode b_Reader_readTape 6 = .ok (.iconst 0, 1) := by decide +kernel
theorem d_Reader_readTape_7 : decode b_Reader_readTape 7 = .ok (.putfield 19, 3) := by decide +kernel
theorem d_Reader_readTape_10 : decode b_Reader_readTape 10 = .ok (.aload_n 0, 1) := by decide +kernel
theorem d_Reader_readTape_11 : decode b_Reader_readTape 11 = .ok (.iconst (-1), 1) := by decide +kernel
theorem d_Reader_readTape_12 : decode b_Reader_readTape 12 = .ok (.putfield 22, 3) := by decide +kernel
theorem d_Reader_readTape_15 : decode b_Reader_readTape 15 = .ok (.aload_n 0, 1) := by decide +kernel
theorem d_Reader_readTape_16 : decode b_Reader_readTape 16 = .ok (.iconst 0, 1) := by decide +kernel
theorem d_Reader_readTape_17 : decode b_Reader_readTape 17 = .ok (.putfield 29, 3) := by decide +kernel
theorem d_Reader_readTape_20 : decode b_Reader_readTape 20 = .ok (.aload_n 0, 1) := by decide +kernel
theorem d_Reader_readTape_21 : decode b_Reader_readTape 21 = .ok (.iconst 0, 1) := by decide +kernel
theorem d_Reader_readTape_22 : decode b_Reader_readTape 22 = .ok (.putfield 32, 3) := by decide +kernel
theorem d_Reader_readTape_25 : decode b_Reader_readTape 25 = .ok (.aload_n 0, 1) := by decide +kernel
theorem d_Reader_readTape_26 : decode b_Reader_readTape 26 = .ok (.iconst 0, 1) := by decide +kernel
theorem d_Reader_readTape_27 : decode b_Reader_readTape 27 = .ok (.putfield 35, 3) := by decide +kernel
theorem d_Reader_readTape_30 : decode b_Reader_readTape 30 = .ok (.aload_n 0, 1) := by decide +kernel
theorem d_Reader_readTape_31 : decode b_Reader_readTape 31 = .ok (.invokevirtual 38, 3) := by decide +kernel
theorem d_Reader_readTape_34 : decode b_Reader_readTape 34 = .ok (.aload_n 0, 1) := by decide +kernel
theorem d_Reader_readTape_35 : decode b_Reader_readTape 35 = .ok (.invokevirtual 41, 3) := by decide +kernel
theorem d_Reader_readTape_38 : decode b_Reader_readTape 38 = .ok (.aload_n 0, 1) := by decide +kernel
theorem d_Reader_readTape_39 : decode b_Reader_readTape 39 = .ok (.getfield 19, 3) := by decide +kernel
theorem d_Reader_readTape_42 : decode b_Reader_readTape 42 = .ok (.ifCond .ne 15, 3) := by decide +kernel
theorem d_Reader_readTape_45 : decode b_Reader_readTape 45 = .ok (.aload_n 0, 1) := by decide +kernel
theorem d_Reader_readTape_46 : decode b_Reader_readTape 46 = .ok (.getfield 44, 3) := by decide +kernel
theorem d_Reader_readTape_49 : decode b_Reader_readTape 49 = .ok (.ifCond .eq 8, 3) := by decide +kernel
theorem d_Reader_readTape_52 : decode b_Reader_readTape 52 = .ok (.aload_n 0, 1) := by decide +kernel
theorem d_Reader_readTape_53 : decode b_Reader_readTape 53 = .ok (.iconst 1, 1) := by decide +kernel
theorem d_Reader_readTape_54 : decode b_Reader_readTape 54 = .ok (.invokevirtual 47, 3) := by decide +kernel
theorem d_Reader_readTape_57 : decode b_Reader_readTape 57 = .ok (.aload_n 0, 1) := by decide +kernel
theorem d_Reader_readTape_58 : decode b_Reader_readTape 58 = .ok (.getfield 19, 3) := by decide +kernel
theorem d_Reader_readTape_61 : decode b_Reader_readTape 61 = .ok (.ifCond .ne 7, 3) := by decide +kernel
theorem d_Reader_readTape_64 : decode b_Reader_readTape 64 = .ok (.iconst 1, 1) := by decide +kernel
theorem d_Reader_readTape_65 : decode b_Reader_readTape 65 = .ok (.goto 4, 3) := by decide +kernel
theorem d_Reader_readTape_68 : decode b_Reader_readTape 68 = .ok (.iconst 0, 1) := by decide +kernel
theorem d_Reader_readTape_69 : decode b_Reader_readTape 69 = .ok (.ireturn, 1) := by decide +kernel
abbrev y_Rules_add : MethodName := ⟨"SmallHarbour$Rules", "add", "(I[II)I"⟩
abbrev b_Rules_add : ByteArray := prog_6_method_2_code
theorem mi_Rules_add : MI y_Rules_add b_Rules_add 4 (some .int) 3 := ⟨w_812, w_12, by decide +kernel, by decide, by decide⟩
theorem mv_Rules_add : MV y_Rules_add := ⟨w_810, w_811⟩
theorem d_Rules_add_0 : decode b_Rules_add 0 = .ok (.aload_n 0, 1) := by decide +kernel
theorem d_Rules_add_1 : decode b_Rules_add 1 = .ok (.getfield 9, 3) := by decide +kernel
theorem d_Rules_add_4 : decode b_Rules_add 4 = .ok (.bipush 8, 2) := by decide +kernel
theorem d_Rules_add_6 : decode b_Rules_add 6 = .ok (.if_icmp .ge 9, 3) := by decide +kernel
theorem d_Rules_add_9 : decode b_Rules_add 9 = .ok (.iload_n 3, 1) := by decide +kernel
theorem d_Rules_add_10 : decode b_Rules_add 10 = .ok (.bipush 60, 2) := by decide +kernel
theorem d_Rules_add_12 : decode b_Rules_add 12 = .ok (.if_icmp .le 5, 3) := by decide +kernel
theorem d_Rules_add_15 : decode b_Rules_add 15 = .ok (.iconst (-1), 1) := by decide +kernel
theorem d_Rules_add_16 : decode b_Rules_add 16 = .ok (.ireturn, 1) := by decide +kernel
theorem d_Rules_add_17 : decode b_Rules_add 17 = .ok (.aload_n 0, 1) := by decide +kernel
theorem d_Rules_add_18 : decode b_Rules_add 18 = .ok (.getfield 15, 3) := by decide +kernel
theorem d_Rules_add_21 : decode b_Rules_add 21 = .ok (.aload_n 0, 1) := by decide +kernel
theorem d_Rules_add_22 : decode b_Rules_add 22 = .ok (.getfield 9, 3) := by decide +kernel
theorem d_Rules_add_25 : decode b_Rules_add 25 = .ok (.iload_n 1, 1) := by decide +kernel
theorem d_Rules_add_26 : decode b_Rules_add 26 = .ok (.iastore, 1) := by decide +kernel
theorem d_Rules_add_27 : decode b_Rules_add 27 = .ok (.aload_n 0, 1) := by decide +kernel
theorem d_Rules_add_28 : decode b_Rules_add 28 = .ok (.getfield 19, 3) := by decide +kernel
theorem d_Rules_add_31 : decode b_Rules_add 31 = .ok (.aload_n 0, 1) := by decide +kernel
theorem d_Rules_add_32 : decode b_Rules_add 32 = .ok (.getfield 9, 3) := by decide +kernel
theorem d_Rules_add_35 : decode b_Rules_add 35 = .ok (.iload_n 3, 1) := by decide +kernel
theorem d_Rules_add_36 : decode b_Rules_add 36 = .ok (.iastore, 1) := by decide +kernel
theorem d_Rules_add_37 : decode b_Rules_add 37 = .ok (.aload_n 2, 1) := by decide +kernel
theorem d_Rules_add_38 : decode b_Rules_add 38 = .ok (.iconst 0, 1) := by decide +kernel
theorem d_Rules_add_39 : decode b_Rules_add 39 = .ok (.aload_n 0, 1) := by decide +kernel
theorem d_Rules_add_40 : decode b_Rules_add 40 = .ok (.getfield 22, 3) := by decide +kernel
theorem d_Rules_add_43 : decode b_Rules_add 43 = .ok (.aload_n 0, 1) := by decide +kernel
theorem d_Rules_add_44 : decode b_Rules_add 44 = .ok (.getfield 9, 3) := by decide +kernel
theorem d_Rules_add_47 : decode b_Rules_add 47 = .ok (.bipush 60, 2) := by decide +kernel
theorem d_Rules_add_49 : decode b_Rules_add 49 = .ok (.imul, 1) := by decide +kernel
theorem d_Rules_add_50 : decode b_Rules_add 50 = .ok (.iload_n 3, 1) := by decide +kernel
theorem d_Rules_add_51 : decode b_Rules_add 51 = .ok (.invokestatic 31, 3) := by decide +kernel
theorem d_Rules_add_54 : decode b_Rules_add 54 = .ok (.aload_n 0, 1) := by decide +kernel
theorem d_Rules_add_55 : decode b_Rules_add 55 = .ok (.dup, 1) := by decide +kernel
theorem d_Rules_add_56 : decode b_Rules_add 56 = .ok (.getfield 9, 3) := by decide +kernel
theorem d_Rules_add_59 : decode b_Rules_add 59 = .ok (.dup_x1, 1) := by decide +kernel
theorem d_Rules_add_60 : decode b_Rules_add 60 = .ok (.iconst 1, 1) := by decide +kernel
theorem d_Rules_add_61 : decode b_Rules_add 61 = .ok (.iadd, 1) := by decide +kernel
theorem d_Rules_add_62 : decode b_Rules_add 62 = .ok (.putfield 9, 3) := by decide +kernel
theorem d_Rules_add_65 : decode b_Rules_add 65 = .ok (.ireturn, 1) := by decide +kernel
abbrev y_Hb_rule : MethodName := ⟨"SmallHarbour", "rule", "(I)I"⟩
abbrev b_Hb_rule : ByteArray := prog_1_method_25_code
theorem mi_Hb_rule : MI y_Hb_rule b_Hb_rule 3 (some .int) 1 := ⟨w_732, w_1, by decide +kernel, by decide, by decide⟩
theorem mv_Hb_rule : MV y_Hb_rule := ⟨w_730, w_731⟩
theorem d_Hb_rule_0 : decode b_Hb_rule 0 = .ok (.iload_n 1, 1) := by decide +kernel
theorem d_Hb_rule_1 : decode b_Hb_rule 1 = .ok (.invokestatic 149, 3) := by decide +kernel
theorem d_Hb_rule_4 : decode b_Hb_rule 4 = .ok (.ifCond .eq 15, 3) := by decide +kernel
theorem d_Hb_rule_7 : decode b_Hb_rule 7 = .ok (.aload_n 0, 1) := by decide +kernel
theorem d_Hb_rule_8 : decode b_Hb_rule 8 = .ok (.getfield 84, 3) := by decide +kernel
theorem d_Hb_rule_11 : decode b_Hb_rule 11 = .ok (.getfield 238, 3) := by decide +kernel
theorem d_Hb_rule_14 : decode b_Hb_rule 14 = .ok (.bipush 8, 2) := by decide +kernel
theorem d_Hb_rule_16 : decode b_Hb_rule 16 = .ok (.if_icmp .lt 5, 3) := by decide +kernel
theorem d_Hb_rule_19 : decode b_Hb_rule 19 = .ok (.iconst (-1), 1) := by decide +kernel
theorem d_Hb_rule_20 : decode b_Hb_rule 20 = .ok (.ireturn, 1) := by decide +kernel
theorem d_Hb_rule_21 : decode b_Hb_rule 21 = .ok (.aload_n 0, 1) := by decide +kernel
theorem d_Hb_rule_22 : decode b_Hb_rule 22 = .ok (.getfield 77, 3) := by decide +kernel
theorem d_Hb_rule_25 : decode b_Hb_rule 25 = .ok (.invokevirtual 239, 3) := by decide +kernel
theorem d_Hb_rule_28 : decode b_Hb_rule 28 = .ok (.istore_n 2, 1) := by decide +kernel
theorem d_Hb_rule_29 : decode b_Hb_rule 29 = .ok (.aload_n 0, 1) := by decide +kernel
theorem d_Hb_rule_30 : decode b_Hb_rule 30 = .ok (.getfield 68, 3) := by decide +kernel
theorem d_Hb_rule_33 : decode b_Hb_rule 33 = .ok (.iconst 0, 1) := by decide +kernel
theorem d_Hb_rule_34 : decode b_Hb_rule 34 = .ok (.putfield 234, 3) := by decide +kernel
theorem d_Hb_rule_37 : decode b_Hb_rule 37 = .ok (.iload_n 2, 1) := by decide +kernel
theorem d_Hb_rule_38 : decode b_Hb_rule 38 = .ok (.ifCond .eq 28, 3) := by decide +kernel
theorem d_Hb_rule_41 : decode b_Hb_rule 41 = .ok (.aload_n 0, 1) := by decide +kernel
theorem d_Hb_rule_42 : decode b_Hb_rule 42 = .ok (.getfield 84, 3) := by decide +kernel
theorem d_Hb_rule_45 : decode b_Hb_rule 45 = .ok (.iload_n 1, 1) := by decide +kernel
theorem d_Hb_rule_46 : decode b_Hb_rule 46 = .ok (.aload_n 0, 1) := by decide +kernel
theorem d_Hb_rule_47 : decode b_Hb_rule 47 = .ok (.getfield 77, 3) := by decide +kernel
theorem d_Hb_rule_50 : decode b_Hb_rule 50 = .ok (.getfield 242, 3) := by decide +kernel
theorem d_Hb_rule_53 : decode b_Hb_rule 53 = .ok (.aload_n 0, 1) := by decide +kernel
theorem d_Hb_rule_54 : decode b_Hb_rule 54 = .ok (.getfield 77, 3) := by decide +kernel
theorem d_Hb_rule_57 : decode b_Hb_rule 57 = .ok (.getfield 245, 3) := by decide +kernel
theorem d_Hb_rule_60 : decode b_Hb_rule 60 = .ok (.invokevirtual 248, 3) := by decide +kernel
theorem d_Hb_rule_63 : decode b_Hb_rule 63 = .ok (.goto 4, 3) := by decide +kernel
theorem d_Hb_rule_66 : decode b_Hb_rule 66 = .ok (.iconst (-1), 1) := by decide +kernel
theorem d_Hb_rule_67 : decode b_Hb_rule 67 = .ok (.ireturn, 1) := by decide +kernel
abbrev y_Hb_says : MethodName := ⟨"SmallHarbour", "says", "(IIII)I"⟩
abbrev b_Hb_says : ByteArray := prog_1_method_27_code
theorem mi_Hb_says : MI y_Hb_says b_Hb_says 5 (some .int) 4 := ⟨w_821, w_1, by decide +kernel, by decide, by decide⟩
theorem mv_Hb_says : MV y_Hb_says := ⟨w_819, w_820⟩
theorem d_Hb_says_0 : decode b_Hb_says 0 = .ok (.aload_n 0, 1) := by decide +kernel
theorem d_Hb_says_1 : decode b_Hb_says 1 = .ok (.getfield 84, 3) := by decide +kernel
theorem d_Hb_says_4 : decode b_Hb_says 4 = .ok (.iload_n 1, 1) := by decide +kernel
theorem d_Hb_says_5 : decode b_Hb_says 5 = .ok (.iload_n 2, 1) := by decide +kernel
theorem d_Hb_says_6 : decode b_Hb_says 6 = .ok (.iload_n 3, 1) := by decide +kernel
theorem d_Hb_says_7 : decode b_Hb_says 7 = .ok (.iload 4, 2) := by decide +kernel
theorem d_Hb_says_9 : decode b_Hb_says 9 = .ok (.invokevirtual 257, 3) := by decide +kernel
theorem d_Hb_says_12 : decode b_Hb_says 12 = .ok (.ireturn, 1) := by decide +kernel
abbrev y_Shed_restart : MethodName := ⟨"SmallHarbour$Shed", "restart", "(II)Z"⟩
abbrev b_Shed_restart : ByteArray := prog_7_method_2_code
theorem mi_Shed_restart : MI y_Shed_restart b_Shed_restart 3 (some .boolean) 2 := ⟨w_681, w_9, by decide +kernel, by decide, by decide⟩
theorem mv_Shed_restart : MV y_Shed_restart := ⟨w_679, w_680⟩
theorem d_Shed_restart_0 : decode b_Shed_restart 0 = .ok (.iload_n 1, 1) := by decide +kernel
theorem d_Shed_restart_1 : decode b_Shed_restart 1 = .ok (.iconst 1, 1) := by decide +kernel
theorem d_Shed_restart_2 : decode b_Shed_restart 2 = .ok (.iconst 4, 1) := by decide +kernel
theorem d_Shed_restart_3 : decode b_Shed_restart 3 = .ok (.invokestatic 43, 3) := by decide +kernel
theorem d_Shed_restart_6 : decode b_Shed_restart 6 = .ok (.ifCond .eq 15, 3) := by decide +kernel
theorem d_Shed_restart_9 : decode b_Shed_restart 9 = .ok (.iload_n 2, 1) := by decide +kernel
theorem d_Shed_restart_10 : decode b_Shed_restart 10 = .ok (.bipush 10, 2) := by decide +kernel
theorem d_Shed_restart_12 : decode b_Shed_restart 12 = .ok (.sipush 2000, 3) := by decide +kernel
theorem d_Shed_restart_15 : decode b_Shed_restart 15 = .ok (.invokestatic 43, 3) := by decide +kernel
theorem d_Shed_restart_18 : decode b_Shed_restart 18 = .ok (.ifCond .ne 5, 3) := by decide +kernel
theorem d_Shed_restart_21 : decode b_Shed_restart 21 = .ok (.iconst 0, 1) := by decide +kernel
theorem d_Shed_restart_22 : decode b_Shed_restart 22 = .ok (.ireturn, 1) := by decide +kernel
theorem d_Shed_restart_23 : decode b_Shed_restart 23 = .ok (.aload_n 0, 1) := by decide +kernel
theorem d_Shed_restart_24 : decode b_Shed_restart 24 = .ok (.iload_n 1, 1) := by decide +kernel
theorem d_Shed_restart_25 : decode b_Shed_restart 25 = .ok (.putfield 22, 3) := by decide +kernel
theorem d_Shed_restart_28 : decode b_Shed_restart 28 = .ok (.aload_n 0, 1) := by decide +kernel
theorem d_Shed_restart_29 : decode b_Shed_restart 29 = .ok (.iload_n 2, 1) := by decide +kernel
theorem d_Shed_restart_30 : decode b_Shed_restart 30 = .ok (.putfield 25, 3) := by decide +kernel
theorem d_Shed_restart_33 : decode b_Shed_restart 33 = .ok (.aload_n 0, 1) := by decide +kernel
theorem d_Shed_restart_34 : decode b_Shed_restart 34 = .ok (.iconst 0, 1) := by decide +kernel
theorem d_Shed_restart_35 : decode b_Shed_restart 35 = .ok (.putfield 9, 3) := by decide +kernel
theorem d_Shed_restart_38 : decode b_Shed_restart 38 = .ok (.aload_n 0, 1) := by decide +kernel
theorem d_Shed_restart_39 : decode b_Shed_restart 39 = .ok (.iconst 0, 1) := by decide +kernel
theorem d_Shed_restart_40 : decode b_Shed_restart 40 = .ok (.putfield 15, 3) := by decide +kernel
theorem d_Shed_restart_43 : decode b_Shed_restart 43 = .ok (.iconst 1, 1) := by decide +kernel
theorem d_Shed_restart_44 : decode b_Shed_restart 44 = .ok (.ireturn, 1) := by decide +kernel
abbrev y_Hb_shed : MethodName := ⟨"SmallHarbour", "shed", "(II)Z"⟩
abbrev b_Hb_shed : ByteArray := prog_1_method_19_code
theorem mi_Hb_shed : MI y_Hb_shed b_Hb_shed 3 (some .boolean) 2 := ⟨w_677, w_1, by decide +kernel, by decide, by decide⟩
theorem mv_Hb_shed : MV y_Hb_shed := ⟨w_675, w_676⟩
theorem d_Hb_shed_0 : decode b_Hb_shed 0 = .ok (.aload_n 0, 1) := by decide +kernel
theorem d_Hb_shed_1 : decode b_Hb_shed 1 = .ok (.getfield 61, 3) := by decide +kernel
theorem d_Hb_shed_4 : decode b_Hb_shed 4 = .ok (.iload_n 1, 1) := by decide +kernel
theorem d_Hb_shed_5 : decode b_Hb_shed 5 = .ok (.iload_n 2, 1) := by decide +kernel
theorem d_Hb_shed_6 : decode b_Hb_shed 6 = .ok (.invokevirtual 221, 3) := by decide +kernel
theorem d_Hb_shed_9 : decode b_Hb_shed 9 = .ok (.ireturn, 1) := by decide +kernel
abbrev y_Hb_stay : MethodName := ⟨"SmallHarbour", "stay", "(III)I"⟩
abbrev b_Hb_stay : ByteArray := prog_1_method_10_code
theorem mi_Hb_stay : MI y_Hb_stay b_Hb_stay 5 (some .int) 3 := ⟨w_522, w_1, by decide +kernel, by decide, by decide⟩
theorem mv_Hb_stay : MV y_Hb_stay := ⟨w_520, w_521⟩
theorem d_Hb_stay_0 : decode b_Hb_stay 0 = .ok (.aload_n 0, 1) := by decide +kernel
theorem d_Hb_stay_1 : decode b_Hb_stay 1 = .ok (.getfield 26, 3) := by decide +kernel
theorem d_Hb_stay_4 : decode b_Hb_stay 4 = .ok (.iload_n 1, 1) := by decide +kernel
theorem d_Hb_stay_5 : decode b_Hb_stay 5 = .ok (.invokevirtual 130, 3) := by decide +kernel
theorem d_Hb_stay_8 : decode b_Hb_stay 8 = .ok (.ifCond .eq 24, 3) := by decide +kernel
theorem d_Hb_stay_11 : decode b_Hb_stay 11 = .ok (.aload_n 0, 1) := by decide +kernel
theorem d_Hb_stay_12 : decode b_Hb_stay 12 = .ok (.getfield 26, 3) := by decide +kernel
theorem d_Hb_stay_15 : decode b_Hb_stay 15 = .ok (.getfield 142, 3) := by decide +kernel
theorem d_Hb_stay_18 : decode b_Hb_stay 18 = .ok (.iload_n 1, 1) := by decide +kernel
theorem d_Hb_stay_19 : decode b_Hb_stay 19 = .ok (.iaload, 1) := by decide +kernel
theorem d_Hb_stay_20 : decode b_Hb_stay 20 = .ok (.iconst (-1), 1) := by decide +kernel
theorem d_Hb_stay_21 : decode b_Hb_stay 21 = .ok (.if_icmp .ne 11, 3) := by decide +kernel
theorem d_Hb_stay_24 : decode b_Hb_stay 24 = .ok (.iload_n 2, 1) := by decide +kernel
theorem d_Hb_stay_25 : decode b_Hb_stay 25 = .ok (.iload_n 3, 1) := by decide +kernel
theorem d_Hb_stay_26 : decode b_Hb_stay 26 = .ok (.invokestatic 166, 3) := by decide +kernel
theorem d_Hb_stay_29 : decode b_Hb_stay 29 = .ok (.ifCond .ne 5, 3) := by decide +kernel
theorem d_Hb_stay_32 : decode b_Hb_stay 32 = .ok (.iconst (-1), 1) := by decide +kernel
theorem d_Hb_stay_33 : decode b_Hb_stay 33 = .ok (.ireturn, 1) := by decide +kernel
theorem d_Hb_stay_34 : decode b_Hb_stay 34 = .ok (.aload_n 0, 1) := by decide +kernel
theorem d_Hb_stay_35 : decode b_Hb_stay 35 = .ok (.getfield 40, 3) := by decide +kernel
theorem d_Hb_stay_38 : decode b_Hb_stay 38 = .ok (.iload_n 1, 1) := by decide +kernel
theorem d_Hb_stay_39 : decode b_Hb_stay 39 = .ok (.iload_n 2, 1) := by decide +kernel
theorem d_Hb_stay_40 : decode b_Hb_stay 40 = .ok (.iload_n 3, 1) := by decide +kernel
theorem d_Hb_stay_41 : decode b_Hb_stay 41 = .ok (.invokevirtual 174, 3) := by decide +kernel
theorem d_Hb_stay_44 : decode b_Hb_stay 44 = .ok (.iconst (-1), 1) := by decide +kernel
theorem d_Hb_stay_45 : decode b_Hb_stay 45 = .ok (.if_icmp .eq 5, 3) := by decide +kernel
theorem d_Hb_stay_48 : decode b_Hb_stay 48 = .ok (.iconst (-1), 1) := by decide +kernel
theorem d_Hb_stay_49 : decode b_Hb_stay 49 = .ok (.ireturn, 1) := by decide +kernel
theorem d_Hb_stay_50 : decode b_Hb_stay 50 = .ok (.iconst 0, 1) := by decide +kernel
theorem d_Hb_stay_51 : decode b_Hb_stay 51 = .ok (.istore 4, 2) := by decide +kernel
theorem d_Hb_stay_53 : decode b_Hb_stay 53 = .ok (.iload 4, 2) := by decide +kernel
theorem d_Hb_stay_55 : decode b_Hb_stay 55 = .ok (.aload_n 0, 1) := by decide +kernel
theorem d_Hb_stay_56 : decode b_Hb_stay 56 = .ok (.getfield 19, 3) := by decide +kernel
theorem d_Hb_stay_59 : decode b_Hb_stay 59 = .ok (.getfield 177, 3) := by decide +kernel
theorem d_Hb_stay_62 : decode b_Hb_stay 62 = .ok (.if_icmp .ge 49, 3) := by decide +kernel
theorem d_Hb_stay_65 : decode b_Hb_stay 65 = .ok (.aload_n 0, 1) := by decide +kernel
theorem d_Hb_stay_66 : decode b_Hb_stay 66 = .ok (.iload_n 1, 1) := by decide +kernel
theorem d_Hb_stay_67 : decode b_Hb_stay 67 = .ok (.iload 4, 2) := by decide +kernel
theorem d_Hb_stay_69 : decode b_Hb_stay 69 = .ok (.iload_n 2, 1) := by decide +kernel
theorem d_Hb_stay_70 : decode b_Hb_stay 70 = .ok (.iload_n 3, 1) := by decide +kernel
theorem d_Hb_stay_71 : decode b_Hb_stay 71 = .ok (.invokevirtual 178, 3) := by decide +kernel
theorem d_Hb_stay_74 : decode b_Hb_stay 74 = .ok (.ifCond .eq 31, 3) := by decide +kernel
theorem d_Hb_stay_77 : decode b_Hb_stay 77 = .ok (.aload_n 0, 1) := by decide +kernel
theorem d_Hb_stay_78 : decode b_Hb_stay 78 = .ok (.getfield 40, 3) := by decide +kernel
theorem d_Hb_stay_81 : decode b_Hb_stay 81 = .ok (.iload 4, 2) := by decide +kernel
theorem d_Hb_stay_83 : decode b_Hb_stay 83 = .ok (.iload_n 2, 1) := by decide +kernel
theorem d_Hb_stay_84 : decode b_Hb_stay 84 = .ok (.iload_n 3, 1) := by decide +kernel
theorem d_Hb_stay_85 : decode b_Hb_stay 85 = .ok (.invokevirtual 159, 3) := by decide +kernel
theorem d_Hb_stay_88 : decode b_Hb_stay 88 = .ok (.iconst (-1), 1) := by decide +kernel
theorem d_Hb_stay_89 : decode b_Hb_stay 89 = .ok (.if_icmp .ne 16, 3) := by decide +kernel
theorem d_Hb_stay_92 : decode b_Hb_stay 92 = .ok (.aload_n 0, 1) := by decide +kernel
theorem d_Hb_stay_93 : decode b_Hb_stay 93 = .ok (.getfield 40, 3) := by decide +kernel
theorem d_Hb_stay_96 : decode b_Hb_stay 96 = .ok (.iload_n 1, 1) := by decide +kernel
theorem d_Hb_stay_97 : decode b_Hb_stay 97 = .ok (.iload 4, 2) := by decide +kernel
theorem d_Hb_stay_99 : decode b_Hb_stay 99 = .ok (.iload_n 2, 1) := by decide +kernel
theorem d_Hb_stay_100 : decode b_Hb_stay 100 = .ok (.iload_n 3, 1) := by decide +kernel
theorem d_Hb_stay_101 : decode b_Hb_stay 101 = .ok (.invokevirtual 181, 3) := by decide +kernel
theorem d_Hb_stay_104 : decode b_Hb_stay 104 = .ok (.ireturn, 1) := by decide +kernel
theorem d_Hb_stay_105 : decode b_Hb_stay 105 = .ok (.iinc 4 1, 3) := by decide +kernel
theorem d_Hb_stay_108 : decode b_Hb_stay 108 = .ok (.goto (-55), 3) := by decide +kernel
theorem d_Hb_stay_111 : decode b_Hb_stay 111 = .ok (.iconst (-1), 1) := by decide +kernel
theorem d_Hb_stay_112 : decode b_Hb_stay 112 = .ok (.ireturn, 1) := by decide +kernel
