abbrev y_Hb_berthOf : MethodName := ⟨"SmallHarbour", "berthOf", "(II)I"⟩
abbrev b_Hb_berthOf : ByteArray := prog_1_method_38_code
theorem mi_Hb_berthOf : MI y_Hb_berthOf b_Hb_berthOf 5 (some .int) 2 := ⟨w_472, w_1, by decide +kernel, by decide, by decide⟩
theorem mv_Hb_berthOf : MV y_Hb_berthOf := ⟨w_471, w_s1_2⟩
theorem d_Hb_berthOf_0 : decode b_Hb_berthOf 0 = .ok (.iload_n 2, 1) := by decide +kernel
theorem d_Hb_berthOf_1 : decode b_Hb_berthOf 1 = .ok (.invokestatic 149, 3) := by decide +kernel
theorem d_Hb_berthOf_4 : decode b_Hb_berthOf 4 = .ok (.ifCond .ne 5, 3) := by decide +kernel
theorem d_Hb_berthOf_7 : decode b_Hb_berthOf 7 = .ok (.iconst (-1), 1) := by decide +kernel
theorem d_Hb_berthOf_8 : decode b_Hb_berthOf 8 = .ok (.ireturn, 1) := by decide +kernel
theorem d_Hb_berthOf_9 : decode b_Hb_berthOf 9 = .ok (.aload_n 0, 1) := by decide +kernel
theorem d_Hb_berthOf_10 : decode b_Hb_berthOf 10 = .ok (.getfield 26, 3) := by decide +kernel
theorem d_Hb_berthOf_13 : decode b_Hb_berthOf 13 = .ok (.getfield 142, 3) := by decide +kernel
theorem d_Hb_berthOf_16 : decode b_Hb_berthOf 16 = .ok (.iload_n 1, 1) := by decide +kernel
theorem d_Hb_berthOf_17 : decode b_Hb_berthOf 17 = .ok (.iaload, 1) := by decide +kernel
theorem d_Hb_berthOf_18 : decode b_Hb_berthOf 18 = .ok (.istore_n 3, 1) := by decide +kernel
theorem d_Hb_berthOf_19 : decode b_Hb_berthOf 19 = .ok (.iload_n 3, 1) := by decide +kernel
theorem d_Hb_berthOf_20 : decode b_Hb_berthOf 20 = .ok (.iconst (-1), 1) := by decide +kernel
theorem d_Hb_berthOf_21 : decode b_Hb_berthOf 21 = .ok (.if_icmp .eq 22, 3) := by decide +kernel
theorem d_Hb_berthOf_24 : decode b_Hb_berthOf 24 = .ok (.aload_n 0, 1) := by decide +kernel
theorem d_Hb_berthOf_25 : decode b_Hb_berthOf 25 = .ok (.getfield 33, 3) := by decide +kernel
theorem d_Hb_berthOf_28 : decode b_Hb_berthOf 28 = .ok (.iload_n 1, 1) := by decide +kernel
theorem d_Hb_berthOf_29 : decode b_Hb_berthOf 29 = .ok (.iload_n 2, 1) := by decide +kernel
theorem d_Hb_berthOf_30 : decode b_Hb_berthOf 30 = .ok (.invokevirtual 189, 3) := by decide +kernel
theorem d_Hb_berthOf_33 : decode b_Hb_berthOf 33 = .ok (.iconst (-1), 1) := by decide +kernel
theorem d_Hb_berthOf_34 : decode b_Hb_berthOf 34 = .ok (.if_icmp .ne 7, 3) := by decide +kernel
theorem d_Hb_berthOf_37 : decode b_Hb_berthOf 37 = .ok (.iload_n 3, 1) := by decide +kernel
theorem d_Hb_berthOf_38 : decode b_Hb_berthOf 38 = .ok (.goto 4, 3) := by decide +kernel
theorem d_Hb_berthOf_41 : decode b_Hb_berthOf 41 = .ok (.iconst (-1), 1) := by decide +kernel
theorem d_Hb_berthOf_42 : decode b_Hb_berthOf 42 = .ok (.ireturn, 1) := by decide +kernel
theorem d_Hb_berthOf_43 : decode b_Hb_berthOf 43 = .ok (.aload_n 0, 1) := by decide +kernel
theorem d_Hb_berthOf_44 : decode b_Hb_berthOf 44 = .ok (.getfield 40, 3) := by decide +kernel
theorem d_Hb_berthOf_47 : decode b_Hb_berthOf 47 = .ok (.iload_n 1, 1) := by decide +kernel
theorem d_Hb_berthOf_48 : decode b_Hb_berthOf 48 = .ok (.iload_n 2, 1) := by decide +kernel
theorem d_Hb_berthOf_49 : decode b_Hb_berthOf 49 = .ok (.iload_n 2, 1) := by decide +kernel
theorem d_Hb_berthOf_50 : decode b_Hb_berthOf 50 = .ok (.iconst 1, 1) := by decide +kernel
theorem d_Hb_berthOf_51 : decode b_Hb_berthOf 51 = .ok (.iadd, 1) := by decide +kernel
theorem d_Hb_berthOf_52 : decode b_Hb_berthOf 52 = .ok (.invokevirtual 174, 3) := by decide +kernel
theorem d_Hb_berthOf_55 : decode b_Hb_berthOf 55 = .ok (.istore 4, 2) := by decide +kernel
theorem d_Hb_berthOf_57 : decode b_Hb_berthOf 57 = .ok (.iload 4, 2) := by decide +kernel
theorem d_Hb_berthOf_59 : decode b_Hb_berthOf 59 = .ok (.iconst (-1), 1) := by decide +kernel
theorem d_Hb_berthOf_60 : decode b_Hb_berthOf 60 = .ok (.if_icmp .ne 7, 3) := by decide +kernel
theorem d_Hb_berthOf_63 : decode b_Hb_berthOf 63 = .ok (.iconst (-1), 1) := by decide +kernel
theorem d_Hb_berthOf_64 : decode b_Hb_berthOf 64 = .ok (.goto 13, 3) := by decide +kernel
theorem d_Hb_berthOf_67 : decode b_Hb_berthOf 67 = .ok (.aload_n 0, 1) := by decide +kernel
theorem d_Hb_berthOf_68 : decode b_Hb_berthOf 68 = .ok (.getfield 40, 3) := by decide +kernel
theorem d_Hb_berthOf_71 : decode b_Hb_berthOf 71 = .ok (.getfield 202, 3) := by decide +kernel
theorem d_Hb_berthOf_74 : decode b_Hb_berthOf 74 = .ok (.iload 4, 2) := by decide +kernel
theorem d_Hb_berthOf_76 : decode b_Hb_berthOf 76 = .ok (.iaload, 1) := by decide +kernel
theorem d_Hb_berthOf_77 : decode b_Hb_berthOf 77 = .ok (.ireturn, 1) := by decide +kernel
abbrev y_Rules_inForce : MethodName := ⟨"SmallHarbour$Rules", "inForce", "(I)I"⟩
abbrev b_Rules_inForce : ByteArray := prog_6_method_3_code
theorem mi_Rules_inForce : MI y_Rules_inForce b_Rules_inForce 4 (some .int) 1 := ⟨w_619, w_12, by decide +kernel, by decide, by decide⟩
theorem mv_Rules_inForce : MV y_Rules_inForce := ⟨w_617, w_618⟩
theorem d_Rules_inForce_0 : decode b_Rules_inForce 0 = .ok (.iconst (-1), 1) := by decide +kernel
theorem d_Rules_inForce_1 : decode b_Rules_inForce 1 = .ok (.istore_n 2, 1) := by decide +kernel
theorem d_Rules_inForce_2 : decode b_Rules_inForce 2 = .ok (.iconst 0, 1) := by decide +kernel
theorem d_Rules_inForce_3 : decode b_Rules_inForce 3 = .ok (.istore_n 3, 1) := by decide +kernel
theorem d_Rules_inForce_4 : decode b_Rules_inForce 4 = .ok (.iload_n 3, 1) := by decide +kernel
theorem d_Rules_inForce_5 : decode b_Rules_inForce 5 = .ok (.aload_n 0, 1) := by decide +kernel
theorem d_Rules_inForce_6 : decode b_Rules_inForce 6 = .ok (.getfield 9, 3) := by decide +kernel
theorem d_Rules_inForce_9 : decode b_Rules_inForce 9 = .ok (.if_icmp .ge 41, 3) := by decide +kernel
theorem d_Rules_inForce_12 : decode b_Rules_inForce 12 = .ok (.aload_n 0, 1) := by decide +kernel
theorem d_Rules_inForce_13 : decode b_Rules_inForce 13 = .ok (.getfield 15, 3) := by decide +kernel
theorem d_Rules_inForce_16 : decode b_Rules_inForce 16 = .ok (.iload_n 3, 1) := by decide +kernel
theorem d_Rules_inForce_17 : decode b_Rules_inForce 17 = .ok (.iaload, 1) := by decide +kernel
theorem d_Rules_inForce_18 : decode b_Rules_inForce 18 = .ok (.iload_n 1, 1) := by decide +kernel
theorem d_Rules_inForce_19 : decode b_Rules_inForce 19 = .ok (.if_icmp .gt 25, 3) := by decide +kernel
theorem d_Rules_inForce_22 : decode b_Rules_inForce 22 = .ok (.iload_n 2, 1) := by decide +kernel
theorem d_Rules_inForce_23 : decode b_Rules_inForce 23 = .ok (.iconst (-1), 1) := by decide +kernel
theorem d_Rules_inForce_24 : decode b_Rules_inForce 24 = .ok (.if_icmp .eq 18, 3) := by decide +kernel
theorem d_Rules_inForce_27 : decode b_Rules_inForce 27 = .ok (.aload_n 0, 1) := by decide +kernel
theorem d_Rules_inForce_28 : decode b_Rules_inForce 28 = .ok (.getfield 15, 3) := by decide +kernel
theorem d_Rules_inForce_31 : decode b_Rules_inForce 31 = .ok (.iload_n 3, 1) := by decide +kernel
theorem d_Rules_inForce_32 : decode b_Rules_inForce 32 = .ok (.iaload, 1) := by decide +kernel
theorem d_Rules_inForce_33 : decode b_Rules_inForce 33 = .ok (.aload_n 0, 1) := by decide +kernel
theorem d_Rules_inForce_34 : decode b_Rules_inForce 34 = .ok (.getfield 15, 3) := by decide +kernel
theorem d_Rules_inForce_37 : decode b_Rules_inForce 37 = .ok (.iload_n 2, 1) := by decide +kernel
theorem d_Rules_inForce_38 : decode b_Rules_inForce 38 = .ok (.iaload, 1) := by decide +kernel
theorem d_Rules_inForce_39 : decode b_Rules_inForce 39 = .ok (.if_icmp .lt 5, 3) := by decide +kernel
theorem d_Rules_inForce_42 : decode b_Rules_inForce 42 = .ok (.iload_n 3, 1) := by decide +kernel
theorem d_Rules_inForce_43 : decode b_Rules_inForce 43 = .ok (.istore_n 2, 1) := by decide +kernel
theorem d_Rules_inForce_44 : decode b_Rules_inForce 44 = .ok (.iinc 3 1, 3) := by decide +kernel
theorem d_Rules_inForce_47 : decode b_Rules_inForce 47 = .ok (.goto (-43), 3) := by decide +kernel
theorem d_Rules_inForce_50 : decode b_Rules_inForce 50 = .ok (.iload_n 2, 1) := by decide +kernel
theorem d_Rules_inForce_51 : decode b_Rules_inForce 51 = .ok (.ireturn, 1) := by decide +kernel
abbrev y_Rules_pop : MethodName := ⟨"SmallHarbour$Rules", "pop", "()I"⟩
abbrev b_Rules_pop : ByteArray := prog_6_method_8_code
theorem mi_Rules_pop : MI y_Rules_pop b_Rules_pop 1 (some .int) 0 := ⟨w_635, w_12, by decide +kernel, by decide, by decide⟩
theorem mv_Rules_pop : MV y_Rules_pop := ⟨w_634, w_s1_13⟩
theorem d_Rules_pop_0 : decode b_Rules_pop 0 = .ok (.aload_n 0, 1) := by decide +kernel
theorem d_Rules_pop_1 : decode b_Rules_pop 1 = .ok (.getfield 28, 3) := by decide +kernel
theorem d_Rules_pop_4 : decode b_Rules_pop 4 = .ok (.ifCond .gt 5, 3) := by decide +kernel
theorem d_Rules_pop_7 : decode b_Rules_pop 7 = .ok (.iconst 0, 1) := by decide +kernel
theorem d_Rules_pop_8 : decode b_Rules_pop 8 = .ok (.ireturn, 1) := by decide +kernel
theorem d_Rules_pop_9 : decode b_Rules_pop 9 = .ok (.aload_n 0, 1) := by decide +kernel
theorem d_Rules_pop_10 : decode b_Rules_pop 10 = .ok (.dup, 1) := by decide +kernel
theorem d_Rules_pop_11 : decode b_Rules_pop 11 = .ok (.getfield 28, 3) := by decide +kernel
theorem d_Rules_pop_14 : decode b_Rules_pop 14 = .ok (.iconst 1, 1) := by decide +kernel
theorem d_Rules_pop_15 : decode b_Rules_pop 15 = .ok (.isub, 1) := by decide +kernel
theorem d_Rules_pop_16 : decode b_Rules_pop 16 = .ok (.putfield 28, 3) := by decide +kernel
theorem d_Rules_pop_19 : decode b_Rules_pop 19 = .ok (.aload_n 0, 1) := by decide +kernel
theorem d_Rules_pop_20 : decode b_Rules_pop 20 = .ok (.getfield 25, 3) := by decide +kernel
theorem d_Rules_pop_23 : decode b_Rules_pop 23 = .ok (.aload_n 0, 1) := by decide +kernel
theorem d_Rules_pop_24 : decode b_Rules_pop 24 = .ok (.getfield 28, 3) := by decide +kernel
theorem d_Rules_pop_27 : decode b_Rules_pop 27 = .ok (.iaload, 1) := by decide +kernel
theorem d_Rules_pop_28 : decode b_Rules_pop 28 = .ok (.ireturn, 1) := by decide +kernel
abbrev y_Rules_push : MethodName := ⟨"SmallHarbour$Rules", "push", "(I)V"⟩
abbrev b_Rules_push : ByteArray := prog_6_method_7_code
theorem mi_Rules_push : MI y_Rules_push b_Rules_push 2 none 1 := ⟨w_627, w_12, by decide +kernel, by decide, by decide⟩
theorem mv_Rules_push : MV y_Rules_push := ⟨w_626, w_s1_11⟩
theorem d_Rules_push_0 : decode b_Rules_push 0 = .ok (.aload_n 0, 1) := by decide +kernel
theorem d_Rules_push_1 : decode b_Rules_push 1 = .ok (.getfield 28, 3) := by decide +kernel
theorem d_Rules_push_4 : decode b_Rules_push 4 = .ok (.bipush 60, 2) := by decide +kernel
theorem d_Rules_push_6 : decode b_Rules_push 6 = .ok (.if_icmp .ge 23, 3) := by decide +kernel
theorem d_Rules_push_9 : decode b_Rules_push 9 = .ok (.aload_n 0, 1) := by decide +kernel
theorem d_Rules_push_10 : decode b_Rules_push 10 = .ok (.getfield 25, 3) := by decide +kernel
theorem d_Rules_push_13 : decode b_Rules_push 13 = .ok (.aload_n 0, 1) := by decide +kernel
theorem d_Rules_push_14 : decode b_Rules_push 14 = .ok (.getfield 28, 3) := by decide +kernel
theorem d_Rules_push_17 : decode b_Rules_push 17 = .ok (.iload_n 1, 1) := by decide +kernel
theorem d_Rules_push_18 : decode b_Rules_push 18 = .ok (.iastore, 1) := by decide +kernel
theorem d_Rules_push_19 : decode b_Rules_push 19 = .ok (.aload_n 0, 1) := by decide +kernel
theorem d_Rules_push_20 : decode b_Rules_push 20 = .ok (.dup, 1) := by decide +kernel
theorem d_Rules_push_21 : decode b_Rules_push 21 = .ok (.getfield 28, 3) := by decide +kernel
theorem d_Rules_push_24 : decode b_Rules_push 24 = .ok (.iconst 1, 1) := by decide +kernel
theorem d_Rules_push_25 : decode b_Rules_push 25 = .ok (.iadd, 1) := by decide +kernel
theorem d_Rules_push_26 : decode b_Rules_push 26 = .ok (.putfield 28, 3) := by decide +kernel
theorem d_Rules_push_29 : decode b_Rules_push 29 = .ok (.return_, 1) := by decide +kernel
abbrev y_Rules_join : MethodName := ⟨"SmallHarbour$Rules", "join", "(III)I"⟩
abbrev b_Rules_join : ByteArray := prog_6_method_6_code
theorem mi_Rules_join : MI y_Rules_join b_Rules_join 3 (some .int) 3 := ⟨w_638, w_12, by decide +kernel, by decide, by decide⟩
theorem d_Rules_join_0 : decode b_Rules_join 0 = .ok (.iload_n 0, 1) := by decide +kernel
theorem d_Rules_join_1 : decode b_Rules_join 1 = .ok (.lookupswitch 106 #[(37, 83), (42, 67), (43, 59), (45, 63), (47, 71), (60, 95)], 59) := by decide +kernel
theorem d_Rules_join_60 : decode b_Rules_join 60 = .ok (.iload_n 1, 1) := by decide +kernel
theorem d_Rules_join_61 : decode b_Rules_join 61 = .ok (.iload_n 2, 1) := by decide +kernel
theorem d_Rules_join_62 : decode b_Rules_join 62 = .ok (.iadd, 1) := by decide +kernel
theorem d_Rules_join_63 : decode b_Rules_join 63 = .ok (.ireturn, 1) := by decide +kernel
theorem d_Rules_join_64 : decode b_Rules_join 64 = .ok (.iload_n 1, 1) := by decide +kernel
theorem d_Rules_join_65 : decode b_Rules_join 65 = .ok (.iload_n 2, 1) := by decide +kernel
theorem d_Rules_join_66 : decode b_Rules_join 66 = .ok (.isub, 1) := by decide +kernel
theorem d_Rules_join_67 : decode b_Rules_join 67 = .ok (.ireturn, 1) := by decide +kernel
theorem d_Rules_join_68 : decode b_Rules_join 68 = .ok (.iload_n 1, 1) := by decide +kernel
theorem d_Rules_join_69 : decode b_Rules_join 69 = .ok (.iload_n 2, 1) := by decide +kernel
theorem d_Rules_join_70 : decode b_Rules_join 70 = .ok (.imul, 1) := by decide +kernel
theorem d_Rules_join_71 : decode b_Rules_join 71 = .ok (.ireturn, 1) := by decide +kernel
theorem d_Rules_join_72 : decode b_Rules_join 72 = .ok (.iload_n 2, 1) := by decide +kernel
theorem d_Rules_join_73 : decode b_Rules_join 73 = .ok (.ifCond .ne 7, 3) := by decide +kernel
theorem d_Rules_join_76 : decode b_Rules_join 76 = .ok (.iconst 0, 1) := by decide +kernel
theorem d_Rules_join_77 : decode b_Rules_join 77 = .ok (.goto 6, 3) := by decide +kernel
theorem d_Rules_join_80 : decode b_Rules_join 80 = .ok (.iload_n 1, 1) := by decide +kernel
theorem d_Rules_join_81 : decode b_Rules_join 81 = .ok (.iload_n 2, 1) := by decide +kernel
theorem d_Rules_join_82 : decode b_Rules_join 82 = .ok (.idiv, 1) := by decide +kernel
theorem d_Rules_join_83 : decode b_Rules_join 83 = .ok (.ireturn, 1) := by decide +kernel
theorem d_Rules_join_84 : decode b_Rules_join 84 = .ok (.iload_n 2, 1) := by decide +kernel
theorem d_Rules_join_85 : decode b_Rules_join 85 = .ok (.ifCond .ne 7, 3) := by decide +kernel
theorem d_Rules_join_88 : decode b_Rules_join 88 = .ok (.iconst 0, 1) := by decide +kernel
theorem d_Rules_join_89 : decode b_Rules_join 89 = .ok (.goto 6, 3) := by decide +kernel
theorem d_Rules_join_92 : decode b_Rules_join 92 = .ok (.iload_n 1, 1) := by decide +kernel
theorem d_Rules_join_93 : decode b_Rules_join 93 = .ok (.iload_n 2, 1) := by decide +kernel
theorem d_Rules_join_94 : decode b_Rules_join 94 = .ok (.irem, 1) := by decide +kernel
theorem d_Rules_join_95 : decode b_Rules_join 95 = .ok (.ireturn, 1) := by decide +kernel
theorem d_Rules_join_96 : decode b_Rules_join 96 = .ok (.iload_n 1, 1) := by decide +kernel
theorem d_Rules_join_97 : decode b_Rules_join 97 = .ok (.iload_n 2, 1) := by decide +kernel
theorem d_Rules_join_98 : decode b_Rules_join 98 = .ok (.if_icmp .ge 7, 3) := by decide +kernel
theorem d_Rules_join_101 : decode b_Rules_join 101 = .ok (.iconst 1, 1) := by decide +kernel
theorem d_Rules_join_102 : decode b_Rules_join 102 = .ok (.goto 4, 3) := by decide +kernel
theorem d_Rules_join_105 : decode b_Rules_join 105 = .ok (.iconst 0, 1) := by decide +kernel
theorem d_Rules_join_106 : decode b_Rules_join 106 = .ok (.ireturn, 1) := by decide +kernel
theorem d_Rules_join_107 : decode b_Rules_join 107 = .ok (.iload_n 1, 1) := by decide +kernel
theorem d_Rules_join_108 : decode b_Rules_join 108 = .ok (.iload_n 2, 1) := by decide +kernel
theorem d_Rules_join_109 : decode b_Rules_join 109 = .ok (.if_icmp .ne 7, 3) := by decide +kernel
theorem d_Rules_join_112 : decode b_Rules_join 112 = .ok (.iconst 1, 1) := by decide +kernel
theorem d_Rules_join_113 : decode b_Rules_join 113 = .ok (.goto 4, 3) := by decide +kernel
theorem d_Rules_join_116 : decode b_Rules_join 116 = .ok (.iconst 0, 1) := by decide +kernel
theorem d_Rules_join_117 : decode b_Rules_join 117 = .ok (.ireturn, 1) := by decide +kernel
abbrev y_Rules_workOn : MethodName := ⟨"SmallHarbour$Rules", "workOn", "(I)V"⟩
abbrev b_Rules_workOn : ByteArray := prog_6_method_5_code
theorem mi_Rules_workOn : MI y_Rules_workOn b_Rules_workOn 4 none 1 := ⟨w_631, w_12, by decide +kernel, by decide, by decide⟩
theorem mv_Rules_workOn : MV y_Rules_workOn := ⟨w_630, w_s1_12⟩
theorem d_Rules_workOn_0 : decode b_Rules_workOn 0 = .ok (.iload_n 1, 1) := by decide +kernel
theorem d_Rules_workOn_1 : decode b_Rules_workOn 1 = .ok (.ifCond .lt 11, 3) := by decide +kernel
theorem d_Rules_workOn_4 : decode b_Rules_workOn 4 = .ok (.aload_n 0, 1) := by decide +kernel
theorem d_Rules_workOn_5 : decode b_Rules_workOn 5 = .ok (.iload_n 1, 1) := by decide +kernel
theorem d_Rules_workOn_6 : decode b_Rules_workOn 6 = .ok (.invokevirtual 37, 3) := by decide +kernel
theorem d_Rules_workOn_9 : decode b_Rules_workOn 9 = .ok (.goto 75, 3) := by decide +kernel
theorem d_Rules_workOn_12 : decode b_Rules_workOn 12 = .ok (.iload_n 1, 1) := by decide +kernel
theorem d_Rules_workOn_13 : decode b_Rules_workOn 13 = .ok (.bipush (-126), 2) := by decide +kernel
theorem d_Rules_workOn_15 : decode b_Rules_workOn 15 = .ok (.if_icmp .ne 15, 3) := by decide +kernel
theorem d_Rules_workOn_18 : decode b_Rules_workOn 18 = .ok (.aload_n 0, 1) := by decide +kernel
theorem d_Rules_workOn_19 : decode b_Rules_workOn 19 = .ok (.aload_n 0, 1) := by decide +kernel
theorem d_Rules_workOn_20 : decode b_Rules_workOn 20 = .ok (.invokevirtual 44, 3) := by decide +kernel
theorem d_Rules_workOn_23 : decode b_Rules_workOn 23 = .ok (.ineg, 1) := by decide +kernel
theorem d_Rules_workOn_24 : decode b_Rules_workOn 24 = .ok (.invokevirtual 37, 3) := by decide +kernel
theorem d_Rules_workOn_27 : decode b_Rules_workOn 27 = .ok (.goto 57, 3) := by decide +kernel
theorem d_Rules_workOn_30 : decode b_Rules_workOn 30 = .ok (.iload_n 1, 1) := by decide +kernel
theorem d_Rules_workOn_31 : decode b_Rules_workOn 31 = .ok (.bipush (-63), 2) := by decide +kernel
theorem d_Rules_workOn_33 : decode b_Rules_workOn 33 = .ok (.if_icmp .ne 32, 3) := by decide +kernel
theorem d_Rules_workOn_36 : decode b_Rules_workOn 36 = .ok (.aload_n 0, 1) := by decide +kernel
theorem d_Rules_workOn_37 : decode b_Rules_workOn 37 = .ok (.invokevirtual 44, 3) := by decide +kernel
theorem d_Rules_workOn_40 : decode b_Rules_workOn 40 = .ok (.istore_n 2, 1) := by decide +kernel
theorem d_Rules_workOn_41 : decode b_Rules_workOn 41 = .ok (.aload_n 0, 1) := by decide +kernel
theorem d_Rules_workOn_42 : decode b_Rules_workOn 42 = .ok (.invokevirtual 44, 3) := by decide +kernel
theorem d_Rules_workOn_45 : decode b_Rules_workOn 45 = .ok (.istore_n 3, 1) := by decide +kernel
theorem d_Rules_workOn_46 : decode b_Rules_workOn 46 = .ok (.aload_n 0, 1) := by decide +kernel
theorem d_Rules_workOn_47 : decode b_Rules_workOn 47 = .ok (.aload_n 0, 1) := by decide +kernel
theorem d_Rules_workOn_48 : decode b_Rules_workOn 48 = .ok (.invokevirtual 44, 3) := by decide +kernel
theorem d_Rules_workOn_51 : decode b_Rules_workOn 51 = .ok (.ifCond .eq 7, 3) := by decide +kernel
theorem d_Rules_workOn_54 : decode b_Rules_workOn 54 = .ok (.iload_n 3, 1) := by decide +kernel
theorem d_Rules_workOn_55 : decode b_Rules_workOn 55 = .ok (.goto 4, 3) := by decide +kernel
theorem d_Rules_workOn_58 : decode b_Rules_workOn 58 = .ok (.iload_n 2, 1) := by decide +kernel
theorem d_Rules_workOn_59 : decode b_Rules_workOn 59 = .ok (.invokevirtual 37, 3) := by decide +kernel
theorem d_Rules_workOn_62 : decode b_Rules_workOn 62 = .ok (.goto 22, 3) := by decide +kernel
theorem d_Rules_workOn_65 : decode b_Rules_workOn 65 = .ok (.aload_n 0, 1) := by decide +kernel
theorem d_Rules_workOn_66 : decode b_Rules_workOn 66 = .ok (.invokevirtual 44, 3) := by decide +kernel
theorem d_Rules_workOn_69 : decode b_Rules_workOn 69 = .ok (.istore_n 2, 1) := by decide +kernel
theorem d_Rules_workOn_70 : decode b_Rules_workOn 70 = .ok (.aload_n 0, 1) := by decide +kernel
theorem d_Rules_workOn_71 : decode b_Rules_workOn 71 = .ok (.iload_n 1, 1) := by decide +kernel
theorem d_Rules_workOn_72 : decode b_Rules_workOn 72 = .ok (.ineg, 1) := by decide +kernel
theorem d_Rules_workOn_73 : decode b_Rules_workOn 73 = .ok (.aload_n 0, 1) := by decide +kernel
theorem d_Rules_workOn_74 : decode b_Rules_workOn 74 = .ok (.invokevirtual 44, 3) := by decide +kernel
theorem d_Rules_workOn_77 : decode b_Rules_workOn 77 = .ok (.iload_n 2, 1) := by decide +kernel
theorem d_Rules_workOn_78 : decode b_Rules_workOn 78 = .ok (.invokestatic 48, 3) := by decide +kernel
theorem d_Rules_workOn_81 : decode b_Rules_workOn 81 = .ok (.invokevirtual 37, 3) := by decide +kernel
theorem d_Rules_workOn_84 : decode b_Rules_workOn 84 = .ok (.return_, 1) := by decide +kernel
abbrev y_Rules_reckon : MethodName := ⟨"SmallHarbour$Rules", "reckon", "(IIII)I"⟩
abbrev b_Rules_reckon : ByteArray := prog_6_method_4_code
theorem mi_Rules_reckon : MI y_Rules_reckon b_Rules_reckon 8 (some .int) 4 := ⟨w_623, w_12, by decide +kernel, by decide, by decide⟩
theorem mv_Rules_reckon : MV y_Rules_reckon := ⟨w_621, w_622⟩
theorem d_Rules_reckon_0 : decode b_Rules_reckon 0 = .ok (.iload_n 1, 1) := by decide +kernel
theorem d_Rules_reckon_1 : decode b_Rules_reckon 1 = .ok (.ifCond .lt 11, 3) := by decide +kernel
theorem d_Rules_reckon_4 : decode b_Rules_reckon 4 = .ok (.iload_n 1, 1) := by decide +kernel
theorem d_Rules_reckon_5 : decode b_Rules_reckon 5 = .ok (.aload_n 0, 1) := by decide +kernel
theorem d_Rules_reckon_6 : decode b_Rules_reckon 6 = .ok (.getfield 9, 3) := by decide +kernel
theorem d_Rules_reckon_9 : decode b_Rules_reckon 9 = .ok (.if_icmp .lt 5, 3) := by decide +kernel
theorem d_Rules_reckon_12 : decode b_Rules_reckon 12 = .ok (.iconst 0, 1) := by decide +kernel
theorem d_Rules_reckon_13 : decode b_Rules_reckon 13 = .ok (.ireturn, 1) := by decide +kernel
theorem d_Rules_reckon_14 : decode b_Rules_reckon 14 = .ok (.aload_n 0, 1) := by decide +kernel
theorem d_Rules_reckon_15 : decode b_Rules_reckon 15 = .ok (.iconst 0, 1) := by decide +kernel
theorem d_Rules_reckon_16 : decode b_Rules_reckon 16 = .ok (.putfield 28, 3) := by decide +kernel
theorem d_Rules_reckon_19 : decode b_Rules_reckon 19 = .ok (.iload_n 1, 1) := by decide +kernel
theorem d_Rules_reckon_20 : decode b_Rules_reckon 20 = .ok (.bipush 60, 2) := by decide +kernel
theorem d_Rules_reckon_22 : decode b_Rules_reckon 22 = .ok (.imul, 1) := by decide +kernel
theorem d_Rules_reckon_23 : decode b_Rules_reckon 23 = .ok (.istore 5, 2) := by decide +kernel
theorem d_Rules_reckon_25 : decode b_Rules_reckon 25 = .ok (.iload 5, 2) := by decide +kernel
theorem d_Rules_reckon_27 : decode b_Rules_reckon 27 = .ok (.istore 6, 2) := by decide +kernel
theorem d_Rules_reckon_29 : decode b_Rules_reckon 29 = .ok (.iload 6, 2) := by decide +kernel
theorem d_Rules_reckon_31 : decode b_Rules_reckon 31 = .ok (.iload 5, 2) := by decide +kernel
theorem d_Rules_reckon_33 : decode b_Rules_reckon 33 = .ok (.aload_n 0, 1) := by decide +kernel
theorem d_Rules_reckon_34 : decode b_Rules_reckon 34 = .ok (.getfield 19, 3) := by decide +kernel
theorem d_Rules_reckon_37 : decode b_Rules_reckon 37 = .ok (.iload_n 1, 1) := by decide +kernel
theorem d_Rules_reckon_38 : decode b_Rules_reckon 38 = .ok (.iaload, 1) := by decide +kernel
theorem d_Rules_reckon_39 : decode b_Rules_reckon 39 = .ok (.iadd, 1) := by decide +kernel
theorem d_Rules_reckon_40 : decode b_Rules_reckon 40 = .ok (.if_icmp .ge 85, 3) := by decide +kernel
theorem d_Rules_reckon_43 : decode b_Rules_reckon 43 = .ok (.aload_n 0, 1) := by decide +kernel
theorem d_Rules_reckon_44 : decode b_Rules_reckon 44 = .ok (.getfield 22, 3) := by decide +kernel
theorem d_Rules_reckon_47 : decode b_Rules_reckon 47 = .ok (.iload 6, 2) := by decide +kernel
theorem d_Rules_reckon_49 : decode b_Rules_reckon 49 = .ok (.iaload, 1) := by decide +kernel
theorem d_Rules_reckon_50 : decode b_Rules_reckon 50 = .ok (.istore 7, 2) := by decide +kernel
theorem d_Rules_reckon_52 : decode b_Rules_reckon 52 = .ok (.iload 7, 2) := by decide +kernel
theorem d_Rules_reckon_54 : decode b_Rules_reckon 54 = .ok (.lookupswitch 59 #[(-110, 42), (-102, 34), (-100, 50)], 34) := by decide +kernel
theorem d_Rules_reckon_88 : decode b_Rules_reckon 88 = .ok (.aload_n 0, 1) := by decide +kernel
theorem d_Rules_reckon_89 : decode b_Rules_reckon 89 = .ok (.iload_n 2, 1) := by decide +kernel
theorem d_Rules_reckon_90 : decode b_Rules_reckon 90 = .ok (.invokevirtual 37, 3) := by decide +kernel
theorem d_Rules_reckon_93 : decode b_Rules_reckon 93 = .ok (.goto 26, 3) := by decide +kernel
theorem d_Rules_reckon_96 : decode b_Rules_reckon 96 = .ok (.aload_n 0, 1) := by decide +kernel
theorem d_Rules_reckon_97 : decode b_Rules_reckon 97 = .ok (.iload_n 3, 1) := by decide +kernel
theorem d_Rules_reckon_98 : decode b_Rules_reckon 98 = .ok (.invokevirtual 37, 3) := by decide +kernel
theorem d_Rules_reckon_101 : decode b_Rules_reckon 101 = .ok (.goto 18, 3) := by decide +kernel
theorem d_Rules_reckon_104 : decode b_Rules_reckon 104 = .ok (.aload_n 0, 1) := by decide +kernel
theorem d_Rules_reckon_105 : decode b_Rules_reckon 105 = .ok (.iload 4, 2) := by decide +kernel
theorem d_Rules_reckon_107 : decode b_Rules_reckon 107 = .ok (.invokevirtual 37, 3) := by decide +kernel
theorem d_Rules_reckon_110 : decode b_Rules_reckon 110 = .ok (.goto 9, 3) := by decide +kernel
theorem d_Rules_reckon_113 : decode b_Rules_reckon 113 = .ok (.aload_n 0, 1) := by decide +kernel
theorem d_Rules_reckon_114 : decode b_Rules_reckon 114 = .ok (.iload 7, 2) := by decide +kernel
theorem d_Rules_reckon_116 : decode b_Rules_reckon 116 = .ok (.invokevirtual 41, 3) := by decide +kernel
theorem d_Rules_reckon_119 : decode b_Rules_reckon 119 = .ok (.iinc 6 1, 3) := by decide +kernel
theorem d_Rules_reckon_122 : decode b_Rules_reckon 122 = .ok (.goto (-93), 3) := by decide +kernel
theorem d_Rules_reckon_125 : decode b_Rules_reckon 125 = .ok (.aload_n 0, 1) := by decide +kernel
theorem d_Rules_reckon_126 : decode b_Rules_reckon 126 = .ok (.invokevirtual 44, 3) := by decide +kernel
theorem d_Rules_reckon_129 : decode b_Rules_reckon 129 = .ok (.ireturn, 1) := by decide +kernel
abbrev y_Hb_billOf : MethodName := ⟨"SmallHarbour", "billOf", "(I)I"⟩
abbrev b_Hb_billOf : ByteArray := prog_1_method_42_code
theorem mi_Hb_billOf : MI y_Hb_billOf b_Hb_billOf 4 (some .int) 1 := ⟨w_615, w_1, by decide +kernel, by decide, by decide⟩
theorem mv_Hb_billOf : MV y_Hb_billOf := ⟨w_614, w_s1_10⟩
theorem d_Hb_billOf_0 : decode b_Hb_billOf 0 = .ok (.aload_n 0, 1) := by decide +kernel
theorem d_Hb_billOf_1 : decode b_Hb_billOf 1 = .ok (.getfield 40, 3) := by decide +kernel
theorem d_Hb_billOf_4 : decode b_Hb_billOf 4 = .ok (.getfield 183, 3) := by decide +kernel
theorem d_Hb_billOf_7 : decode b_Hb_billOf 7 = .ok (.iload_n 1, 1) := by decide +kernel
theorem d_Hb_billOf_8 : decode b_Hb_billOf 8 = .ok (.iaload, 1) := by decide +kernel
theorem d_Hb_billOf_9 : decode b_Hb_billOf 9 = .ok (.istore_n 2, 1) := by decide +kernel
theorem d_Hb_billOf_10 : decode b_Hb_billOf 10 = .ok (.aload_n 0, 1) := by decide +kernel
theorem d_Hb_billOf_11 : decode b_Hb_billOf 11 = .ok (.getfield 40, 3) := by decide +kernel
theorem d_Hb_billOf_14 : decode b_Hb_billOf 14 = .ok (.getfield 186, 3) := by decide +kernel
theorem d_Hb_billOf_17 : decode b_Hb_billOf 17 = .ok (.iload_n 1, 1) := by decide +kernel
theorem d_Hb_billOf_18 : decode b_Hb_billOf 18 = .ok (.iaload, 1) := by decide +kernel
theorem d_Hb_billOf_19 : decode b_Hb_billOf 19 = .ok (.iload_n 2, 1) := by decide +kernel
theorem d_Hb_billOf_20 : decode b_Hb_billOf 20 = .ok (.isub, 1) := by decide +kernel
theorem d_Hb_billOf_21 : decode b_Hb_billOf 21 = .ok (.istore_n 3, 1) := by decide +kernel
theorem d_Hb_billOf_22 : decode b_Hb_billOf 22 = .ok (.aload_n 0, 1) := by decide +kernel
theorem d_Hb_billOf_23 : decode b_Hb_billOf 23 = .ok (.getfield 84, 3) := by decide +kernel
theorem d_Hb_billOf_26 : decode b_Hb_billOf 26 = .ok (.aload_n 0, 1) := by decide +kernel
theorem d_Hb_billOf_27 : decode b_Hb_billOf 27 = .ok (.getfield 84, 3) := by decide +kernel
theorem d_Hb_billOf_30 : decode b_Hb_billOf 30 = .ok (.iload_n 2, 1) := by decide +kernel
theorem d_Hb_billOf_31 : decode b_Hb_billOf 31 = .ok (.invokevirtual 311, 3) := by decide +kernel
theorem d_Hb_billOf_34 : decode b_Hb_billOf 34 = .ok (.aload_n 0, 1) := by decide +kernel
theorem d_Hb_billOf_35 : decode b_Hb_billOf 35 = .ok (.getfield 26, 3) := by decide +kernel
theorem d_Hb_billOf_38 : decode b_Hb_billOf 38 = .ok (.getfield 133, 3) := by decide +kernel
theorem d_Hb_billOf_41 : decode b_Hb_billOf 41 = .ok (.aload_n 0, 1) := by decide +kernel
theorem d_Hb_billOf_42 : decode b_Hb_billOf 42 = .ok (.getfield 40, 3) := by decide +kernel
theorem d_Hb_billOf_45 : decode b_Hb_billOf 45 = .ok (.getfield 163, 3) := by decide +kernel
theorem d_Hb_billOf_48 : decode b_Hb_billOf 48 = .ok (.iload_n 1, 1) := by decide +kernel
theorem d_Hb_billOf_49 : decode b_Hb_billOf 49 = .ok (.iaload, 1) := by decide +kernel
theorem d_Hb_billOf_50 : decode b_Hb_billOf 50 = .ok (.iaload, 1) := by decide +kernel
theorem d_Hb_billOf_51 : decode b_Hb_billOf 51 = .ok (.iload_n 3, 1) := by decide +kernel
theorem d_Hb_billOf_52 : decode b_Hb_billOf 52 = .ok (.iload_n 2, 1) := by decide +kernel
theorem d_Hb_billOf_53 : decode b_Hb_billOf 53 = .ok (.invokevirtual 257, 3) := by decide +kernel
theorem d_Hb_billOf_56 : decode b_Hb_billOf 56 = .ok (.ireturn, 1) := by decide +kernel
abbrev y_Stays_atBerth : MethodName := ⟨"SmallHarbour$Stays", "atBerth", "(III)I"⟩
abbrev b_Stays_atBerth : ByteArray := prog_9_method_4_code
theorem mi_Stays_atBerth : MI y_Stays_atBerth b_Stays_atBerth 5 (some .int) 3 := ⟨w_445, w_6, by decide +kernel, by decide, by decide⟩
theorem mv_Stays_atBerth : MV y_Stays_atBerth := ⟨w_443, w_444⟩
theorem d_Stays_atBerth_0 : decode b_Stays_atBerth 0 = .ok (.iconst 0, 1) := by decide +kernel
theorem d_Stays_atBerth_1 : decode b_Stays_atBerth 1 = .ok (.istore 4, 2) := by decide +kernel
theorem d_Stays_atBerth_3 : decode b_Stays_atBerth 3 = .ok (.iload 4, 2) := by decide +kernel
theorem d_Stays_atBerth_5 : decode b_Stays_atBerth 5 = .ok (.aload_n 0, 1) := by decide +kernel
theorem d_Stays_atBerth_6 : decode b_Stays_atBerth 6 = .ok (.getfield 24, 3) := by decide +kernel
theorem d_Stays_atBerth_9 : decode b_Stays_atBerth 9 = .ok (.if_icmp .ge 45, 3) := by decide +kernel
theorem d_Stays_atBerth_12 : decode b_Stays_atBerth 12 = .ok (.aload_n 0, 1) := by decide +kernel
theorem d_Stays_atBerth_13 : decode b_Stays_atBerth 13 = .ok (.getfield 15, 3) := by decide +kernel
theorem d_Stays_atBerth_16 : decode b_Stays_atBerth 16 = .ok (.iload 4, 2) := by decide +kernel
theorem d_Stays_atBerth_18 : decode b_Stays_atBerth 18 = .ok (.iaload, 1) := by decide +kernel
theorem d_Stays_atBerth_19 : decode b_Stays_atBerth 19 = .ok (.iload_n 1, 1) := by decide +kernel
theorem d_Stays_atBerth_20 : decode b_Stays_atBerth 20 = .ok (.if_icmp .ne 28, 3) := by decide +kernel
theorem d_Stays_atBerth_23 : decode b_Stays_atBerth 23 = .ok (.aload_n 0, 1) := by decide +kernel
theorem d_Stays_atBerth_24 : decode b_Stays_atBerth 24 = .ok (.getfield 18, 3) := by decide +kernel
theorem d_Stays_atBerth_27 : decode b_Stays_atBerth 27 = .ok (.iload 4, 2) := by decide +kernel
theorem d_Stays_atBerth_29 : decode b_Stays_atBerth 29 = .ok (.iaload, 1) := by decide +kernel
theorem d_Stays_atBerth_30 : decode b_Stays_atBerth 30 = .ok (.iload_n 3, 1) := by decide +kernel
theorem d_Stays_atBerth_31 : decode b_Stays_atBerth 31 = .ok (.if_icmp .ge 17, 3) := by decide +kernel
theorem d_Stays_atBerth_34 : decode b_Stays_atBerth 34 = .ok (.iload_n 2, 1) := by decide +kernel
theorem d_Stays_atBerth_35 : decode b_Stays_atBerth 35 = .ok (.aload_n 0, 1) := by decide +kernel
theorem d_Stays_atBerth_36 : decode b_Stays_atBerth 36 = .ok (.getfield 21, 3) := by decide +kernel
theorem d_Stays_atBerth_39 : decode b_Stays_atBerth 39 = .ok (.iload 4, 2) := by decide +kernel
theorem d_Stays_atBerth_41 : decode b_Stays_atBerth 41 = .ok (.iaload, 1) := by decide +kernel
theorem d_Stays_atBerth_42 : decode b_Stays_atBerth 42 = .ok (.if_icmp .ge 6, 3) := by decide +kernel
theorem d_Stays_atBerth_45 : decode b_Stays_atBerth 45 = .ok (.iload 4, 2) := by decide +kernel
theorem d_Stays_atBerth_47 : decode b_Stays_atBerth 47 = .ok (.ireturn, 1) := by decide +kernel
theorem d_Stays_atBerth_48 : decode b_Stays_atBerth 48 = .ok (.iinc 4 1, 3) := by decide +kernel
theorem d_Stays_atBerth_51 : decode b_Stays_atBerth 51 = .ok (.goto (-48), 3) := by decide +kernel
theorem d_Stays_atBerth_54 : decode b_Stays_atBerth 54 = .ok (.iconst (-1), 1) := by decide +kernel
theorem d_Stays_atBerth_55 : decode b_Stays_atBerth 55 = .ok (.ireturn, 1) := by decide +kernel
abbrev y_Tide_on : MethodName := ⟨"SmallHarbour$Tide", "on", "(I)I"⟩
abbrev b_Tide_on : ByteArray := prog_11_method_4_code
theorem mi_Tide_on : MI y_Tide_on b_Tide_on 2 (some .int) 1 := ⟨w_456, w_2, by decide +kernel, by decide, by decide⟩
theorem mv_Tide_on : MV y_Tide_on := ⟨w_454, w_455⟩
theorem d_Tide_on_0 : decode b_Tide_on 0 = .ok (.iload_n 1, 1) := by decide +kernel
theorem d_Tide_on_1 : decode b_Tide_on 1 = .ok (.ifCond .lt 11, 3) := by decide +kernel
theorem d_Tide_on_4 : decode b_Tide_on 4 = .ok (.aload_n 0, 1) := by decide +kernel
theorem d_Tide_on_5 : decode b_Tide_on 5 = .ok (.getfield 15, 3) := by decide +kernel
theorem d_Tide_on_8 : decode b_Tide_on 8 = .ok (.iconst 1, 1) := by decide +kernel
theorem d_Tide_on_9 : decode b_Tide_on 9 = .ok (.if_icmp .ge 7, 3) := by decide +kernel
theorem d_Tide_on_12 : decode b_Tide_on 12 = .ok (.iconst 0, 1) := by decide +kernel
theorem d_Tide_on_13 : decode b_Tide_on 13 = .ok (.goto 14, 3) := by decide +kernel
theorem d_Tide_on_16 : decode b_Tide_on 16 = .ok (.aload_n 0, 1) := by decide +kernel
theorem d_Tide_on_17 : decode b_Tide_on 17 = .ok (.getfield 9, 3) := by decide +kernel
theorem d_Tide_on_20 : decode b_Tide_on 20 = .ok (.iload_n 1, 1) := by decide +kernel
theorem d_Tide_on_21 : decode b_Tide_on 21 = .ok (.aload_n 0, 1) := by decide +kernel
theorem d_Tide_on_22 : decode b_Tide_on 22 = .ok (.getfield 15, 3) := by decide +kernel
theorem d_Tide_on_25 : decode b_Tide_on 25 = .ok (.irem, 1) := by decide +kernel
theorem d_Tide_on_26 : decode b_Tide_on 26 = .ok (.iaload, 1) := by decide +kernel
theorem d_Tide_on_27 : decode b_Tide_on 27 = .ok (.ireturn, 1) := by decide +kernel
abbrev y_Tide_lowest : MethodName := ⟨"SmallHarbour$Tide", "lowest", "(II)I"⟩
abbrev b_Tide_lowest : ByteArray := prog_11_method_5_code
theorem mi_Tide_lowest : MI y_Tide_lowest b_Tide_lowest 6 (some .int) 2 := ⟨w_449, w_2, by decide +kernel, by decide, by decide⟩
theorem mv_Tide_lowest : MV y_Tide_lowest := ⟨w_447, w_448⟩
theorem d_Tide_lowest_0 : decode b_Tide_lowest 0 = .ok (.iload_n 2, 1) := by decide +kernel
theorem d_Tide_lowest_1 : decode b_Tide_lowest 1 = .ok (.iload_n 1, 1) := by decide +kernel
theorem d_Tide_lowest_2 : decode b_Tide_lowest 2 = .ok (.aload_n 0, 1) := by decide +kernel
theorem d_Tide_lowest_3 : decode b_Tide_lowest 3 = .ok (.getfield 15, 3) := by decide +kernel
theorem d_Tide_lowest_6 : decode b_Tide_lowest 6 = .ok (.iadd, 1) := by decide +kernel
theorem d_Tide_lowest_7 : decode b_Tide_lowest 7 = .ok (.invokestatic 25, 3) := by decide +kernel
theorem d_Tide_lowest_10 : decode b_Tide_lowest 10 = .ok (.istore_n 3, 1) := by decide +kernel
theorem d_Tide_lowest_11 : decode b_Tide_lowest 11 = .ok (.bipush 40, 2) := by decide +kernel
theorem d_Tide_lowest_13 : decode b_Tide_lowest 13 = .ok (.istore 4, 2) := by decide +kernel
theorem d_Tide_lowest_15 : decode b_Tide_lowest 15 = .ok (.iload_n 1, 1) := by decide +kernel
theorem d_Tide_lowest_16 : decode b_Tide_lowest 16 = .ok (.istore 5, 2) := by decide +kernel
theorem d_Tide_lowest_18 : decode b_Tide_lowest 18 = .ok (.iload 5, 2) := by decide +kernel
theorem d_Tide_lowest_20 : decode b_Tide_lowest 20 = .ok (.iload_n 3, 1) := by decide +kernel
theorem d_Tide_lowest_21 : decode b_Tide_lowest 21 = .ok (.if_icmp .ge 22, 3) := by decide +kernel
theorem d_Tide_lowest_24 : decode b_Tide_lowest 24 = .ok (.iload 4, 2) := by decide +kernel
theorem d_Tide_lowest_26 : decode b_Tide_lowest 26 = .ok (.aload_n 0, 1) := by decide +kernel
theorem d_Tide_lowest_27 : decode b_Tide_lowest 27 = .ok (.iload 5, 2) := by decide +kernel
theorem d_Tide_lowest_29 : decode b_Tide_lowest 29 = .ok (.invokevirtual 31, 3) := by decide +kernel
theorem d_Tide_lowest_32 : decode b_Tide_lowest 32 = .ok (.invokestatic 25, 3) := by decide +kernel
theorem d_Tide_lowest_35 : decode b_Tide_lowest 35 = .ok (.istore 4, 2) := by decide +kernel
theorem d_Tide_lowest_37 : decode b_Tide_lowest 37 = .ok (.iinc 5 1, 3) := by decide +kernel
theorem d_Tide_lowest_40 : decode b_Tide_lowest 40 = .ok (.goto (-22), 3) := by decide +kernel
theorem d_Tide_lowest_43 : decode b_Tide_lowest 43 = .ok (.iload 4, 2) := by decide +kernel
theorem d_Tide_lowest_45 : decode b_Tide_lowest 45 = .ok (.ireturn, 1) := by decide +kernel
abbrev y_Hb_canBeHome : MethodName := ⟨"SmallHarbour", "canBeHome", "(III)Z"⟩
abbrev b_Hb_canBeHome : ByteArray := prog_1_method_34_code
theorem mi_Hb_canBeHome : MI y_Hb_canBeHome b_Hb_canBeHome 4 (some .boolean) 3 := ⟨w_437, w_1, by decide +kernel, by decide, by decide⟩
theorem mv_Hb_canBeHome : MV y_Hb_canBeHome := ⟨w_436, w_s1_1⟩
theorem d_Hb_canBeHome_0 : decode b_Hb_canBeHome 0 = .ok (.aload_n 0, 1) := by decide +kernel
theorem d_Hb_canBeHome_1 : decode b_Hb_canBeHome 1 = .ok (.getfield 19, 3) := by decide +kernel
theorem d_Hb_canBeHome_4 : decode b_Hb_canBeHome 4 = .ok (.iload_n 1, 1) := by decide +kernel
theorem d_Hb_canBeHome_5 : decode b_Hb_canBeHome 5 = .ok (.invokevirtual 148, 3) := by decide +kernel
theorem d_Hb_canBeHome_8 : decode b_Hb_canBeHome 8 = .ok (.ifCond .eq 16, 3) := by decide +kernel
theorem d_Hb_canBeHome_11 : decode b_Hb_canBeHome 11 = .ok (.aload_n 0, 1) := by decide +kernel
theorem d_Hb_canBeHome_12 : decode b_Hb_canBeHome 12 = .ok (.getfield 19, 3) := by decide +kernel
theorem d_Hb_canBeHome_15 : decode b_Hb_canBeHome 15 = .ok (.getfield 126, 3) := by decide +kernel
theorem d_Hb_canBeHome_18 : decode b_Hb_canBeHome 18 = .ok (.iload_n 1, 1) := by decide +kernel
theorem d_Hb_canBeHome_19 : decode b_Hb_canBeHome 19 = .ok (.iaload, 1) := by decide +kernel
theorem d_Hb_canBeHome_20 : decode b_Hb_canBeHome 20 = .ok (.iconst (-1), 1) := by decide +kernel
theorem d_Hb_canBeHome_21 : decode b_Hb_canBeHome 21 = .ok (.if_icmp .eq 5, 3) := by decide +kernel
theorem d_Hb_canBeHome_24 : decode b_Hb_canBeHome 24 = .ok (.iconst 0, 1) := by decide +kernel
theorem d_Hb_canBeHome_25 : decode b_Hb_canBeHome 25 = .ok (.ireturn, 1) := by decide +kernel
theorem d_Hb_canBeHome_26 : decode b_Hb_canBeHome 26 = .ok (.aload_n 0, 1) := by decide +kernel
theorem d_Hb_canBeHome_27 : decode b_Hb_canBeHome 27 = .ok (.getfield 40, 3) := by decide +kernel
theorem d_Hb_canBeHome_30 : decode b_Hb_canBeHome 30 = .ok (.iload_n 1, 1) := by decide +kernel
theorem d_Hb_canBeHome_31 : decode b_Hb_canBeHome 31 = .ok (.iconst 0, 1) := by decide +kernel
theorem d_Hb_canBeHome_32 : decode b_Hb_canBeHome 32 = .ok (.sipush 400, 3) := by decide +kernel
theorem d_Hb_canBeHome_35 : decode b_Hb_canBeHome 35 = .ok (.invokevirtual 159, 3) := by decide +kernel
theorem d_Hb_canBeHome_38 : decode b_Hb_canBeHome 38 = .ok (.iconst (-1), 1) := by decide +kernel
theorem d_Hb_canBeHome_39 : decode b_Hb_canBeHome 39 = .ok (.if_icmp .ne 31, 3) := by decide +kernel
theorem d_Hb_canBeHome_42 : decode b_Hb_canBeHome 42 = .ok (.aload_n 0, 1) := by decide +kernel
theorem d_Hb_canBeHome_43 : decode b_Hb_canBeHome 43 = .ok (.getfield 19, 3) := by decide +kernel
theorem d_Hb_canBeHome_46 : decode b_Hb_canBeHome 46 = .ok (.iload_n 1, 1) := by decide +kernel
theorem d_Hb_canBeHome_47 : decode b_Hb_canBeHome 47 = .ok (.iload_n 2, 1) := by decide +kernel
theorem d_Hb_canBeHome_48 : decode b_Hb_canBeHome 48 = .ok (.iload_n 3, 1) := by decide +kernel
theorem d_Hb_canBeHome_49 : decode b_Hb_canBeHome 49 = .ok (.aload_n 0, 1) := by decide +kernel
theorem d_Hb_canBeHome_50 : decode b_Hb_canBeHome 50 = .ok (.getfield 10, 3) := by decide +kernel
theorem d_Hb_canBeHome_53 : decode b_Hb_canBeHome 53 = .ok (.iconst 0, 1) := by decide +kernel
theorem d_Hb_canBeHome_54 : decode b_Hb_canBeHome 54 = .ok (.sipush 400, 3) := by decide +kernel
theorem d_Hb_canBeHome_57 : decode b_Hb_canBeHome 57 = .ok (.invokevirtual 266, 3) := by decide +kernel
theorem d_Hb_canBeHome_60 : decode b_Hb_canBeHome 60 = .ok (.invokevirtual 269, 3) := by decide +kernel
theorem d_Hb_canBeHome_63 : decode b_Hb_canBeHome 63 = .ok (.ifCond .eq 7, 3) := by decide +kernel
theorem d_Hb_canBeHome_66 : decode b_Hb_canBeHome 66 = .ok (.iconst 1, 1) := by decide +kernel
theorem d_Hb_canBeHome_67 : decode b_Hb_canBeHome 67 = .ok (.goto 4, 3) := by decide +kernel
theorem d_Hb_canBeHome_70 : decode b_Hb_canBeHome 70 = .ok (.iconst 0, 1) := by decide +kernel
theorem d_Hb_canBeHome_71 : decode b_Hb_canBeHome 71 = .ok (.ireturn, 1) := by decide +kernel
abbrev y_Hb_boat : MethodName := ⟨"SmallHarbour", "boat", "(IIII)I"⟩
abbrev b_Hb_boat : ByteArray := prog_1_method_5_code
theorem mi_Hb_boat : MI y_Hb_boat b_Hb_boat 6 (some .int) 4 := ⟨w_428, w_1, by decide +kernel, by decide, by decide⟩
theorem mv_Hb_boat : MV y_Hb_boat := ⟨w_426, w_427⟩
theorem d_Hb_boat_0 : decode b_Hb_boat 0 = .ok (.iload_n 1, 1) := by decide +kernel
theorem d_Hb_boat_1 : decode b_Hb_boat 1 = .ok (.bipush 10, 2) := by decide +kernel
theorem d_Hb_boat_3 : decode b_Hb_boat 3 = .ok (.sipush 400, 3) := by decide +kernel
theorem d_Hb_boat_6 : decode b_Hb_boat 6 = .ok (.invokestatic 113, 3) := by decide +kernel
theorem d_Hb_boat_9 : decode b_Hb_boat 9 = .ok (.ifCond .eq 13, 3) := by decide +kernel
theorem d_Hb_boat_12 : decode b_Hb_boat 12 = .ok (.iload_n 2, 1) := by decide +kernel
theorem d_Hb_boat_13 : decode b_Hb_boat 13 = .ok (.iconst 0, 1) := by decide +kernel
theorem d_Hb_boat_14 : decode b_Hb_boat 14 = .ok (.bipush 60, 2) := by decide +kernel
theorem d_Hb_boat_16 : decode b_Hb_boat 16 = .ok (.invokestatic 113, 3) := by decide +kernel
theorem d_Hb_boat_19 : decode b_Hb_boat 19 = .ok (.ifCond .ne 5, 3) := by decide +kernel
theorem d_Hb_boat_22 : decode b_Hb_boat 22 = .ok (.iconst (-1), 1) := by decide +kernel
theorem d_Hb_boat_23 : decode b_Hb_boat 23 = .ok (.ireturn, 1) := by decide +kernel
theorem d_Hb_boat_24 : decode b_Hb_boat 24 = .ok (.iload_n 3, 1) := by decide +kernel
theorem d_Hb_boat_25 : decode b_Hb_boat 25 = .ok (.iconst 1, 1) := by decide +kernel
theorem d_Hb_boat_26 : decode b_Hb_boat 26 = .ok (.sipush 500, 3) := by decide +kernel
theorem d_Hb_boat_29 : decode b_Hb_boat 29 = .ok (.invokestatic 113, 3) := by decide +kernel
theorem d_Hb_boat_32 : decode b_Hb_boat 32 = .ok (.ifCond .eq 15, 3) := by decide +kernel
theorem d_Hb_boat_35 : decode b_Hb_boat 35 = .ok (.aload_n 0, 1) := by decide +kernel
theorem d_Hb_boat_36 : decode b_Hb_boat 36 = .ok (.getfield 26, 3) := by decide +kernel
theorem d_Hb_boat_39 : decode b_Hb_boat 39 = .ok (.getfield 117, 3) := by decide +kernel
theorem d_Hb_boat_42 : decode b_Hb_boat 42 = .ok (.bipush 30, 2) := by decide +kernel
theorem d_Hb_boat_44 : decode b_Hb_boat 44 = .ok (.if_icmp .lt 5, 3) := by decide +kernel
theorem d_Hb_boat_47 : decode b_Hb_boat 47 = .ok (.iconst (-1), 1) := by decide +kernel
theorem d_Hb_boat_48 : decode b_Hb_boat 48 = .ok (.ireturn, 1) := by decide +kernel
theorem d_Hb_boat_49 : decode b_Hb_boat 49 = .ok (.iload 4, 2) := by decide +kernel
theorem d_Hb_boat_51 : decode b_Hb_boat 51 = .ok (.iconst (-1), 1) := by decide +kernel
theorem d_Hb_boat_52 : decode b_Hb_boat 52 = .ok (.if_icmp .ne 15, 3) := by decide +kernel
theorem d_Hb_boat_55 : decode b_Hb_boat 55 = .ok (.aload_n 0, 1) := by decide +kernel
theorem d_Hb_boat_56 : decode b_Hb_boat 56 = .ok (.getfield 26, 3) := by decide +kernel
theorem d_Hb_boat_59 : decode b_Hb_boat 59 = .ok (.iload_n 1, 1) := by decide +kernel
theorem d_Hb_boat_60 : decode b_Hb_boat 60 = .ok (.iload_n 2, 1) := by decide +kernel
theorem d_Hb_boat_61 : decode b_Hb_boat 61 = .ok (.iload_n 3, 1) := by decide +kernel
theorem d_Hb_boat_62 : decode b_Hb_boat 62 = .ok (.iconst (-1), 1) := by decide +kernel
theorem d_Hb_boat_63 : decode b_Hb_boat 63 = .ok (.invokevirtual 120, 3) := by decide +kernel
theorem d_Hb_boat_66 : decode b_Hb_boat 66 = .ok (.ireturn, 1) := by decide +kernel
theorem d_Hb_boat_67 : decode b_Hb_boat 67 = .ok (.aload_n 0, 1) := by decide +kernel
theorem d_Hb_boat_68 : decode b_Hb_boat 68 = .ok (.iload 4, 2) := by decide +kernel
theorem d_Hb_boat_70 : decode b_Hb_boat 70 = .ok (.iload_n 1, 1) := by decide +kernel
theorem d_Hb_boat_71 : decode b_Hb_boat 71 = .ok (.iload_n 2, 1) := by decide +kernel
theorem d_Hb_boat_72 : decode b_Hb_boat 72 = .ok (.invokevirtual 123, 3) := by decide +kernel
theorem d_Hb_boat_75 : decode b_Hb_boat 75 = .ok (.ifCond .ne 5, 3) := by decide +kernel
theorem d_Hb_boat_78 : decode b_Hb_boat 78 = .ok (.iconst (-1), 1) := by decide +kernel
theorem d_Hb_boat_79 : decode b_Hb_boat 79 = .ok (.ireturn, 1) := by decide +kernel
theorem d_Hb_boat_80 : decode b_Hb_boat 80 = .ok (.aload_n 0, 1) := by decide +kernel
theorem d_Hb_boat_81 : decode b_Hb_boat 81 = .ok (.getfield 26, 3) := by decide +kernel
theorem d_Hb_boat_84 : decode b_Hb_boat 84 = .ok (.iload_n 1, 1) := by decide +kernel
theorem d_Hb_boat_85 : decode b_Hb_boat 85 = .ok (.iload_n 2, 1) := by decide +kernel
theorem d_Hb_boat_86 : decode b_Hb_boat 86 = .ok (.iload_n 3, 1) := by decide +kernel
theorem d_Hb_boat_87 : decode b_Hb_boat 87 = .ok (.iload 4, 2) := by decide +kernel
theorem d_Hb_boat_89 : decode b_Hb_boat 89 = .ok (.invokevirtual 120, 3) := by decide +kernel
theorem d_Hb_boat_92 : decode b_Hb_boat 92 = .ok (.istore 5, 2) := by decide +kernel
theorem d_Hb_boat_94 : decode b_Hb_boat 94 = .ok (.aload_n 0, 1) := by decide +kernel
theorem d_Hb_boat_95 : decode b_Hb_boat 95 = .ok (.getfield 19, 3) := by decide +kernel
theorem d_Hb_boat_98 : decode b_Hb_boat 98 = .ok (.getfield 126, 3) := by decide +kernel
theorem d_Hb_boat_101 : decode b_Hb_boat 101 = .ok (.iload 4, 2) := by decide +kernel
theorem d_Hb_boat_103 : decode b_Hb_boat 103 = .ok (.iload 5, 2) := by decide +kernel
theorem d_Hb_boat_105 : decode b_Hb_boat 105 = .ok (.iastore, 1) := by decide +kernel
theorem d_Hb_boat_106 : decode b_Hb_boat 106 = .ok (.iload 5, 2) := by decide +kernel
theorem d_Hb_boat_108 : decode b_Hb_boat 108 = .ok (.ireturn, 1) := by decide +kernel
abbrev y_Hb_boatOf : MethodName := ⟨"SmallHarbour", "boatOf", "(II)I"⟩
abbrev b_Hb_boatOf : ByteArray := prog_1_method_6_code
theorem mi_Hb_boatOf : MI y_Hb_boatOf b_Hb_boatOf 3 (some .int) 2 := ⟨w_464, w_1, by decide +kernel, by decide, by decide⟩
theorem mv_Hb_boatOf : MV y_Hb_boatOf := ⟨w_462, w_463⟩
theorem d_Hb_boatOf_0 : decode b_Hb_boatOf 0 = .ok (.aload_n 0, 1) := by decide +kernel
theorem d_Hb_boatOf_1 : decode b_Hb_boatOf 1 = .ok (.getfield 26, 3) := by decide +kernel
theorem d_Hb_boatOf_4 : decode b_Hb_boatOf 4 = .ok (.iload_n 1, 1) := by decide +kernel
theorem d_Hb_boatOf_5 : decode b_Hb_boatOf 5 = .ok (.invokevirtual 130, 3) := by decide +kernel
theorem d_Hb_boatOf_8 : decode b_Hb_boatOf 8 = .ok (.ifCond .ne 5, 3) := by decide +kernel
theorem d_Hb_boatOf_11 : decode b_Hb_boatOf 11 = .ok (.iconst (-1), 1) := by decide +kernel
theorem d_Hb_boatOf_12 : decode b_Hb_boatOf 12 = .ok (.ireturn, 1) := by decide +kernel
theorem d_Hb_boatOf_13 : decode b_Hb_boatOf 13 = .ok (.iload_n 2, 1) := by decide +kernel
theorem d_Hb_boatOf_14 : decode b_Hb_boatOf 14 = .ok (.tableswitch 70 0 3 #[30, 40, 50, 60], 30) := by decide +kernel
theorem d_Hb_boatOf_44 : decode b_Hb_boatOf 44 = .ok (.aload_n 0, 1) := by decide +kernel
theorem d_Hb_boatOf_45 : decode b_Hb_boatOf 45 = .ok (.getfield 26, 3) := by decide +kernel
theorem d_Hb_boatOf_48 : decode b_Hb_boatOf 48 = .ok (.getfield 133, 3) := by decide +kernel
theorem d_Hb_boatOf_51 : decode b_Hb_boatOf 51 = .ok (.iload_n 1, 1) := by decide +kernel
theorem d_Hb_boatOf_52 : decode b_Hb_boatOf 52 = .ok (.iaload, 1) := by decide +kernel
theorem d_Hb_boatOf_53 : decode b_Hb_boatOf 53 = .ok (.ireturn, 1) := by decide +kernel
theorem d_Hb_boatOf_54 : decode b_Hb_boatOf 54 = .ok (.aload_n 0, 1) := by decide +kernel
theorem d_Hb_boatOf_55 : decode b_Hb_boatOf 55 = .ok (.getfield 26, 3) := by decide +kernel
theorem d_Hb_boatOf_58 : decode b_Hb_boatOf 58 = .ok (.getfield 136, 3) := by decide +kernel
theorem d_Hb_boatOf_61 : decode b_Hb_boatOf 61 = .ok (.iload_n 1, 1) := by decide +kernel
theorem d_Hb_boatOf_62 : decode b_Hb_boatOf 62 = .ok (.iaload, 1) := by decide +kernel
theorem d_Hb_boatOf_63 : decode b_Hb_boatOf 63 = .ok (.ireturn, 1) := by decide +kernel
theorem d_Hb_boatOf_64 : decode b_Hb_boatOf 64 = .ok (.aload_n 0, 1) := by decide +kernel
theorem d_Hb_boatOf_65 : decode b_Hb_boatOf 65 = .ok (.getfield 26, 3) := by decide +kernel
theorem d_Hb_boatOf_68 : decode b_Hb_boatOf 68 = .ok (.getfield 139, 3) := by decide +kernel
theorem d_Hb_boatOf_71 : decode b_Hb_boatOf 71 = .ok (.iload_n 1, 1) := by decide +kernel
theorem d_Hb_boatOf_72 : decode b_Hb_boatOf 72 = .ok (.iaload, 1) := by decide +kernel
theorem d_Hb_boatOf_73 : decode b_Hb_boatOf 73 = .ok (.ireturn, 1) := by decide +kernel
theorem d_Hb_boatOf_74 : decode b_Hb_boatOf 74 = .ok (.aload_n 0, 1) := by decide +kernel
theorem d_Hb_boatOf_75 : decode b_Hb_boatOf 75 = .ok (.getfield 26, 3) := by decide +kernel
theorem d_Hb_boatOf_78 : decode b_Hb_boatOf 78 = .ok (.getfield 142, 3) := by decide +kernel
theorem d_Hb_boatOf_81 : decode b_Hb_boatOf 81 = .ok (.iload_n 1, 1) := by decide +kernel
theorem d_Hb_boatOf_82 : decode b_Hb_boatOf 82 = .ok (.iaload, 1) := by decide +kernel
theorem d_Hb_boatOf_83 : decode b_Hb_boatOf 83 = .ok (.ireturn, 1) := by decide +kernel
theorem d_Hb_boatOf_84 : decode b_Hb_boatOf 84 = .ok (.iload_n 2, 1) := by decide +kernel
theorem d_Hb_boatOf_85 : decode b_Hb_boatOf 85 = .ok (.bipush 100, 2) := by decide +kernel
theorem d_Hb_boatOf_87 : decode b_Hb_boatOf 87 = .ok (.if_icmp .ge 7, 3) := by decide +kernel
theorem d_Hb_boatOf_90 : decode b_Hb_boatOf 90 = .ok (.iconst (-1), 1) := by decide +kernel
theorem d_Hb_boatOf_91 : decode b_Hb_boatOf 91 = .ok (.goto 12, 3) := by decide +kernel
theorem d_Hb_boatOf_94 : decode b_Hb_boatOf 94 = .ok (.aload_n 0, 1) := by decide +kernel
theorem d_Hb_boatOf_95 : decode b_Hb_boatOf 95 = .ok (.iload_n 1, 1) := by decide +kernel
theorem d_Hb_boatOf_96 : decode b_Hb_boatOf 96 = .ok (.iload_n 2, 1) := by decide +kernel
theorem d_Hb_boatOf_97 : decode b_Hb_boatOf 97 = .ok (.bipush 100, 2) := by decide +kernel
theorem d_Hb_boatOf_99 : decode b_Hb_boatOf 99 = .ok (.isub, 1) := by decide +kernel
theorem d_Hb_boatOf_100 : decode b_Hb_boatOf 100 = .ok (.invokevirtual 145, 3) := by decide +kernel
theorem d_Hb_boatOf_103 : decode b_Hb_boatOf 103 = .ok (.ireturn, 1) := by decide +kernel
abbrev y_Hb_broken : MethodName := ⟨"SmallHarbour", "broken", "(IZ)Z"⟩
abbrev b_Hb_broken : ByteArray := prog_1_method_16_code
theorem mi_Hb_broken : MI y_Hb_broken b_Hb_broken 3 (some .boolean) 2 := ⟨w_651, w_1, by decide +kernel, by decide, by decide⟩
theorem mv_Hb_broken : MV y_Hb_broken := ⟨w_649, w_650⟩
theorem d_Hb_broken_0 : decode b_Hb_broken 0 = .ok (.iload_n 1, 1) := by decide +kernel
theorem d_Hb_broken_1 : decode b_Hb_broken 1 = .ok (.invokestatic 149, 3) := by decide +kernel
theorem d_Hb_broken_4 : decode b_Hb_broken 4 = .ok (.ifCond .ne 5, 3) := by decide +kernel
theorem d_Hb_broken_7 : decode b_Hb_broken 7 = .ok (.iconst 0, 1) := by decide +kernel
theorem d_Hb_broken_8 : decode b_Hb_broken 8 = .ok (.ireturn, 1) := by decide +kernel
theorem d_Hb_broken_9 : decode b_Hb_broken 9 = .ok (.aload_n 0, 1) := by decide +kernel
theorem d_Hb_broken_10 : decode b_Hb_broken 10 = .ok (.getfield 54, 3) := by decide +kernel
theorem d_Hb_broken_13 : decode b_Hb_broken 13 = .ok (.getfield 211, 3) := by decide +kernel
theorem d_Hb_broken_16 : decode b_Hb_broken 16 = .ok (.iload_n 1, 1) := by decide +kernel
theorem d_Hb_broken_17 : decode b_Hb_broken 17 = .ok (.iload_n 2, 1) := by decide +kernel
theorem d_Hb_broken_18 : decode b_Hb_broken 18 = .ok (.bastore, 1) := by decide +kernel
theorem d_Hb_broken_19 : decode b_Hb_broken 19 = .ok (.iconst 1, 1) := by decide +kernel
theorem d_Hb_broken_20 : decode b_Hb_broken 20 = .ok (.ireturn, 1) := by decide +kernel
abbrev y_Hb_fitsAllNights : MethodName := ⟨"SmallHarbour", "fitsAllNights", "(IIII)Z"⟩
abbrev b_Hb_fitsAllNights : ByteArray := prog_1_method_35_code
theorem mi_Hb_fitsAllNights : MI y_Hb_fitsAllNights b_Hb_fitsAllNights 5 (some .boolean) 4 := ⟨w_491, w_1, by decide +kernel, by decide, by decide⟩
theorem mv_Hb_fitsAllNights : MV y_Hb_fitsAllNights := ⟨w_490, w_s1_3⟩
theorem d_Hb_fitsAllNights_0 : decode b_Hb_fitsAllNights 0 = .ok (.aload_n 0, 1) := by decide +kernel
theorem d_Hb_fitsAllNights_1 : decode b_Hb_fitsAllNights 1 = .ok (.getfield 19, 3) := by decide +kernel
theorem d_Hb_fitsAllNights_4 : decode b_Hb_fitsAllNights 4 = .ok (.iload_n 2, 1) := by decide +kernel
theorem d_Hb_fitsAllNights_5 : decode b_Hb_fitsAllNights 5 = .ok (.aload_n 0, 1) := by decide +kernel
theorem d_Hb_fitsAllNights_6 : decode b_Hb_fitsAllNights 6 = .ok (.getfield 26, 3) := by decide +kernel
theorem d_Hb_fitsAllNights_9 : decode b_Hb_fitsAllNights 9 = .ok (.getfield 133, 3) := by decide +kernel
theorem d_Hb_fitsAllNights_12 : decode b_Hb_fitsAllNights 12 = .ok (.iload_n 1, 1) := by decide +kernel
theorem d_Hb_fitsAllNights_13 : decode b_Hb_fitsAllNights 13 = .ok (.iaload, 1) := by decide +kernel
theorem d_Hb_fitsAllNights_14 : decode b_Hb_fitsAllNights 14 = .ok (.aload_n 0, 1) := by decide +kernel
theorem d_Hb_fitsAllNights_15 : decode b_Hb_fitsAllNights 15 = .ok (.getfield 26, 3) := by decide +kernel
theorem d_Hb_fitsAllNights_18 : decode b_Hb_fitsAllNights 18 = .ok (.getfield 136, 3) := by decide +kernel
theorem d_Hb_fitsAllNights_21 : decode b_Hb_fitsAllNights 21 = .ok (.iload_n 1, 1) := by decide +kernel
theorem d_Hb_fitsAllNights_22 : decode b_Hb_fitsAllNights 22 = .ok (.iaload, 1) := by decide +kernel
theorem d_Hb_fitsAllNights_23 : decode b_Hb_fitsAllNights 23 = .ok (.aload_n 0, 1) := by decide +kernel
theorem d_Hb_fitsAllNights_24 : decode b_Hb_fitsAllNights 24 = .ok (.getfield 10, 3) := by decide +kernel
theorem d_Hb_fitsAllNights_27 : decode b_Hb_fitsAllNights 27 = .ok (.iload_n 3, 1) := by decide +kernel
theorem d_Hb_fitsAllNights_28 : decode b_Hb_fitsAllNights 28 = .ok (.iload 4, 2) := by decide +kernel
theorem d_Hb_fitsAllNights_30 : decode b_Hb_fitsAllNights 30 = .ok (.invokevirtual 266, 3) := by decide +kernel
theorem d_Hb_fitsAllNights_33 : decode b_Hb_fitsAllNights 33 = .ok (.invokevirtual 269, 3) := by decide +kernel
theorem d_Hb_fitsAllNights_36 : decode b_Hb_fitsAllNights 36 = .ok (.ireturn, 1) := by decide +kernel
abbrev y_Hb_isOwnerThere : MethodName := ⟨"SmallHarbour", "isOwnerThere", "(III)Z"⟩
abbrev b_Hb_isOwnerThere : ByteArray := prog_1_method_36_code
theorem mi_Hb_isOwnerThere : MI y_Hb_isOwnerThere b_Hb_isOwnerThere 5 (some .boolean) 3 := ⟨w_499, w_1, by decide +kernel, by decide, by decide⟩
theorem mv_Hb_isOwnerThere : MV y_Hb_isOwnerThere := ⟨w_498, w_s1_4⟩
theorem d_Hb_isOwnerThere_0 : decode b_Hb_isOwnerThere 0 = .ok (.aload_n 0, 1) := by decide +kernel
theorem d_Hb_isOwnerThere_1 : decode b_Hb_isOwnerThere 1 = .ok (.getfield 19, 3) := by decide +kernel
theorem d_Hb_isOwnerThere_4 : decode b_Hb_isOwnerThere 4 = .ok (.getfield 126, 3) := by decide +kernel
theorem d_Hb_isOwnerThere_7 : decode b_Hb_isOwnerThere 7 = .ok (.iload_n 1, 1) := by decide +kernel
theorem d_Hb_isOwnerThere_8 : decode b_Hb_isOwnerThere 8 = .ok (.iaload, 1) := by decide +kernel
theorem d_Hb_isOwnerThere_9 : decode b_Hb_isOwnerThere 9 = .ok (.istore 4, 2) := by decide +kernel
theorem d_Hb_isOwnerThere_11 : decode b_Hb_isOwnerThere 11 = .ok (.iload 4, 2) := by decide +kernel
theorem d_Hb_isOwnerThere_13 : decode b_Hb_isOwnerThere 13 = .ok (.iconst (-1), 1) := by decide +kernel
theorem d_Hb_isOwnerThere_14 : decode b_Hb_isOwnerThere 14 = .ok (.if_icmp .eq 24, 3) := by decide +kernel
theorem d_Hb_isOwnerThere_17 : decode b_Hb_isOwnerThere 17 = .ok (.aload_n 0, 1) := by decide +kernel
theorem d_Hb_isOwnerThere_18 : decode b_Hb_isOwnerThere 18 = .ok (.getfield 33, 3) := by decide +kernel
theorem d_Hb_isOwnerThere_21 : decode b_Hb_isOwnerThere 21 = .ok (.iload 4, 2) := by decide +kernel
theorem d_Hb_isOwnerThere_23 : decode b_Hb_isOwnerThere 23 = .ok (.iload_n 2, 1) := by decide +kernel
theorem d_Hb_isOwnerThere_24 : decode b_Hb_isOwnerThere 24 = .ok (.iload_n 3, 1) := by decide +kernel
theorem d_Hb_isOwnerThere_25 : decode b_Hb_isOwnerThere 25 = .ok (.invokevirtual 169, 3) := by decide +kernel
theorem d_Hb_isOwnerThere_28 : decode b_Hb_isOwnerThere 28 = .ok (.iload_n 3, 1) := by decide +kernel
theorem d_Hb_isOwnerThere_29 : decode b_Hb_isOwnerThere 29 = .ok (.iload_n 2, 1) := by decide +kernel
theorem d_Hb_isOwnerThere_30 : decode b_Hb_isOwnerThere 30 = .ok (.isub, 1) := by decide +kernel
theorem d_Hb_isOwnerThere_31 : decode b_Hb_isOwnerThere 31 = .ok (.if_icmp .ge 7, 3) := by decide +kernel
theorem d_Hb_isOwnerThere_34 : decode b_Hb_isOwnerThere 34 = .ok (.iconst 1, 1) := by decide +kernel
theorem d_Hb_isOwnerThere_35 : decode b_Hb_isOwnerThere 35 = .ok (.goto 4, 3) := by decide +kernel
theorem d_Hb_isOwnerThere_38 : decode b_Hb_isOwnerThere 38 = .ok (.iconst 0, 1) := by decide +kernel
theorem d_Hb_isOwnerThere_39 : decode b_Hb_isOwnerThere 39 = .ok (.ireturn, 1) := by decide +kernel
abbrev y_Hb_canLie : MethodName := ⟨"SmallHarbour", "canLie", "(IIII)Z"⟩
abbrev b_Hb_canLie : ByteArray := prog_1_method_37_code
theorem mi_Hb_canLie : MI y_Hb_canLie b_Hb_canLie 5 (some .boolean) 4 := ⟨w_526, w_1, by decide +kernel, by decide, by decide⟩
theorem mv_Hb_canLie : MV y_Hb_canLie := ⟨w_525, w_s1_5⟩
theorem d_Hb_canLie_0 : decode b_Hb_canLie 0 = .ok (.aload_n 0, 1) := by decide +kernel
theorem d_Hb_canLie_1 : decode b_Hb_canLie 1 = .ok (.iload_n 1, 1) := by decide +kernel
theorem d_Hb_canLie_2 : decode b_Hb_canLie 2 = .ok (.iload_n 2, 1) := by decide +kernel
theorem d_Hb_canLie_3 : decode b_Hb_canLie 3 = .ok (.iload_n 3, 1) := by decide +kernel
theorem d_Hb_canLie_4 : decode b_Hb_canLie 4 = .ok (.iload 4, 2) := by decide +kernel
theorem d_Hb_canLie_6 : decode b_Hb_canLie 6 = .ok (.invokevirtual 152, 3) := by decide +kernel
theorem d_Hb_canLie_9 : decode b_Hb_canLie 9 = .ok (.ifCond .eq 18, 3) := by decide +kernel
theorem d_Hb_canLie_12 : decode b_Hb_canLie 12 = .ok (.aload_n 0, 1) := by decide +kernel
theorem d_Hb_canLie_13 : decode b_Hb_canLie 13 = .ok (.iload_n 2, 1) := by decide +kernel
theorem d_Hb_canLie_14 : decode b_Hb_canLie 14 = .ok (.iload_n 3, 1) := by decide +kernel
theorem d_Hb_canLie_15 : decode b_Hb_canLie 15 = .ok (.iload 4, 2) := by decide +kernel
theorem d_Hb_canLie_17 : decode b_Hb_canLie 17 = .ok (.invokevirtual 156, 3) := by decide +kernel
theorem d_Hb_canLie_20 : decode b_Hb_canLie 20 = .ok (.ifCond .ne 7, 3) := by decide +kernel
theorem d_Hb_canLie_23 : decode b_Hb_canLie 23 = .ok (.iconst 1, 1) := by decide +kernel
theorem d_Hb_canLie_24 : decode b_Hb_canLie 24 = .ok (.goto 4, 3) := by decide +kernel
theorem d_Hb_canLie_27 : decode b_Hb_canLie 27 = .ok (.iconst 0, 1) := by decide +kernel
theorem d_Hb_canLie_28 : decode b_Hb_canLie 28 = .ok (.ireturn, 1) := by decide +kernel
abbrev y_Stays_add : MethodName := ⟨"SmallHarbour$Stays", "add", "(IIII)I"⟩
abbrev b_Stays_add : ByteArray := prog_9_method_3_code
theorem mi_Stays_add : MI y_Stays_add b_Stays_add 5 (some .int) 4 := ⟨w_530, w_6, by decide +kernel, by decide, by decide⟩
theorem mv_Stays_add : MV y_Stays_add := ⟨w_528, w_529⟩
theorem d_Stays_add_0 : decode b_Stays_add 0 = .ok (.aload_n 0, 1) := by decide +kernel
theorem d_Stays_add_1 : decode b_Stays_add 1 = .ok (.getfield 24, 3) := by decide +kernel
theorem d_Stays_add_4 : decode b_Stays_add 4 = .ok (.bipush 40, 2) := by decide +kernel
theorem d_Stays_add_6 : decode b_Stays_add 6 = .ok (.if_icmp .lt 5, 3) := by decide +kernel
theorem d_Stays_add_9 : decode b_Stays_add 9 = .ok (.iconst (-1), 1) := by decide +kernel
theorem d_Stays_add_10 : decode b_Stays_add 10 = .ok (.ireturn, 1) := by decide +kernel
theorem d_Stays_add_11 : decode b_Stays_add 11 = .ok (.aload_n 0, 1) := by decide +kernel
theorem d_Stays_add_12 : decode b_Stays_add 12 = .ok (.getfield 9, 3) := by decide +kernel
theorem d_Stays_add_15 : decode b_Stays_add 15 = .ok (.aload_n 0, 1) := by decide +kernel
theorem d_Stays_add_16 : decode b_Stays_add 16 = .ok (.getfield 24, 3) := by decide +kernel
theorem d_Stays_add_19 : decode b_Stays_add 19 = .ok (.iload_n 1, 1) := by decide +kernel
theorem d_Stays_add_20 : decode b_Stays_add 20 = .ok (.iastore, 1) := by decide +kernel
theorem d_Stays_add_21 : decode b_Stays_add 21 = .ok (.aload_n 0, 1) := by decide +kernel
theorem d_Stays_add_22 : decode b_Stays_add 22 = .ok (.getfield 15, 3) := by decide +kernel
theorem d_Stays_add_25 : decode b_Stays_add 25 = .ok (.aload_n 0, 1) := by decide +kernel
theorem d_Stays_add_26 : decode b_Stays_add 26 = .ok (.getfield 24, 3) := by decide +kernel
theorem d_Stays_add_29 : decode b_Stays_add 29 = .ok (.iload_n 2, 1) := by decide +kernel
theorem d_Stays_add_30 : decode b_Stays_add 30 = .ok (.iastore, 1) := by decide +kernel
theorem d_Stays_add_31 : decode b_Stays_add 31 = .ok (.aload_n 0, 1) := by decide +kernel
theorem d_Stays_add_32 : decode b_Stays_add 32 = .ok (.getfield 18, 3) := by decide +kernel
theorem d_Stays_add_35 : decode b_Stays_add 35 = .ok (.aload_n 0, 1) := by decide +kernel
theorem d_Stays_add_36 : decode b_Stays_add 36 = .ok (.getfield 24, 3) := by decide +kernel
theorem d_Stays_add_39 : decode b_Stays_add 39 = .ok (.iload_n 3, 1) := by decide +kernel
theorem d_Stays_add_40 : decode b_Stays_add 40 = .ok (.iastore, 1) := by decide +kernel
theorem d_Stays_add_41 : decode b_Stays_add 41 = .ok (.aload_n 0, 1) := by decide +kernel
theorem d_Stays_add_42 : decode b_Stays_add 42 = .ok (.getfield 21, 3) := by decide +kernel
theorem d_Stays_add_45 : decode b_Stays_add 45 = .ok (.aload_n 0, 1) := by decide +kernel
theorem d_Stays_add_46 : decode b_Stays_add 46 = .ok (.getfield 24, 3) := by decide +kernel
theorem d_Stays_add_49 : decode b_Stays_add 49 = .ok (.iload 4, 2) := by decide +kernel
theorem d_Stays_add_51 : decode b_Stays_add 51 = .ok (.iastore, 1) := by decide +kernel
theorem d_Stays_add_52 : decode b_Stays_add 52 = .ok (.aload_n 0, 1) := by decide +kernel
theorem d_Stays_add_53 : decode b_Stays_add 53 = .ok (.dup, 1) := by decide +kernel
theorem d_Stays_add_54 : decode b_Stays_add 54 = .ok (.getfield 24, 3) := by decide +kernel
theorem d_Stays_add_57 : decode b_Stays_add 57 = .ok (.dup_x1, 1) := by decide +kernel
theorem d_Stays_add_58 : decode b_Stays_add 58 = .ok (.iconst 1, 1) := by decide +kernel
theorem d_Stays_add_59 : decode b_Stays_add 59 = .ok (.iadd, 1) := by decide +kernel
theorem d_Stays_add_60 : decode b_Stays_add 60 = .ok (.putfield 24, 3) := by decide +kernel
theorem d_Stays_add_63 : decode b_Stays_add 63 = .ok (.ireturn, 1) := by decide +kernel
abbrev y_Walk_isMoved : MethodName := ⟨"SmallHarbour$Walk", "isMoved", "(I)Z"⟩
abbrev b_Walk_isMoved : ByteArray := prog_12_method_8_code
theorem mi_Walk_isMoved : MI y_Walk_isMoved b_Walk_isMoved 2 (some .boolean) 1 := ⟨w_594, w_7, by decide +kernel, by decide, by decide⟩
theorem mv_Walk_isMoved : MV y_Walk_isMoved := ⟨w_592, w_593⟩
theorem d_Walk_isMoved_0 : decode b_Walk_isMoved 0 = .ok (.aload_n 0, 1) := by decide +kernel
theorem d_Walk_isMoved_1 : decode b_Walk_isMoved 1 = .ok (.getfield 15, 3) := by decide +kernel
theorem d_Walk_isMoved_4 : decode b_Walk_isMoved 4 = .ok (.iload_n 1, 1) := by decide +kernel
theorem d_Walk_isMoved_5 : decode b_Walk_isMoved 5 = .ok (.iaload, 1) := by decide +kernel
theorem d_Walk_isMoved_6 : decode b_Walk_isMoved 6 = .ok (.aload_n 0, 1) := by decide +kernel
theorem d_Walk_isMoved_7 : decode b_Walk_isMoved 7 = .ok (.getfield 22, 3) := by decide +kernel
theorem d_Walk_isMoved_10 : decode b_Walk_isMoved 10 = .ok (.iload_n 1, 1) := by decide +kernel
theorem d_Walk_isMoved_11 : decode b_Walk_isMoved 11 = .ok (.iaload, 1) := by decide +kernel
theorem d_Walk_isMoved_12 : decode b_Walk_isMoved 12 = .ok (.if_icmp .eq 7, 3) := by decide +kernel
theorem d_Walk_isMoved_15 : decode b_Walk_isMoved 15 = .ok (.iconst 1, 1) := by decide +kernel
theorem d_Walk_isMoved_16 : decode b_Walk_isMoved 16 = .ok (.goto 4, 3) := by decide +kernel
theorem d_Walk_isMoved_19 : decode b_Walk_isMoved 19 = .ok (.iconst 0, 1) := by decide +kernel
theorem d_Walk_isMoved_20 : decode b_Walk_isMoved 20 = .ok (.ireturn, 1) := by decide +kernel
abbrev y_Hb_carryOut : MethodName := ⟨"SmallHarbour", "carryOut", "(I)V"⟩
abbrev b_Hb_carryOut : ByteArray := prog_1_method_41_code
theorem mi_Hb_carryOut : MI y_Hb_carryOut b_Hb_carryOut 5 none 1 := ⟨w_598, w_1, by decide +kernel, by decide, by decide⟩
theorem mv_Hb_carryOut : MV y_Hb_carryOut := ⟨w_597, w_s1_9⟩
theorem d_Hb_carryOut_0 : decode b_Hb_carryOut 0 = .ok (.aload_n 0, 1) := by decide +kernel
theorem d_Hb_carryOut_1 : decode b_Hb_carryOut 1 = .ok (.iconst 0, 1) := by decide +kernel
theorem d_Hb_carryOut_2 : decode b_Hb_carryOut 2 = .ok (.putfield 93, 3) := by decide +kernel
theorem d_Hb_carryOut_5 : decode b_Hb_carryOut 5 = .ok (.iconst 0, 1) := by decide +kernel
theorem d_Hb_carryOut_6 : decode b_Hb_carryOut 6 = .ok (.istore_n 2, 1) := by decide +kernel
theorem d_Hb_carryOut_7 : decode b_Hb_carryOut 7 = .ok (.iload_n 2, 1) := by decide +kernel
theorem d_Hb_carryOut_8 : decode b_Hb_carryOut 8 = .ok (.aload_n 0, 1) := by decide +kernel
theorem d_Hb_carryOut_9 : decode b_Hb_carryOut 9 = .ok (.getfield 47, 3) := by decide +kernel
theorem d_Hb_carryOut_12 : decode b_Hb_carryOut 12 = .ok (.getfield 292, 3) := by decide +kernel
theorem d_Hb_carryOut_15 : decode b_Hb_carryOut 15 = .ok (.if_icmp .ge 172, 3) := by decide +kernel
theorem d_Hb_carryOut_18 : decode b_Hb_carryOut 18 = .ok (.aload_n 0, 1) := by decide +kernel
theorem d_Hb_carryOut_19 : decode b_Hb_carryOut 19 = .ok (.getfield 47, 3) := by decide +kernel
theorem d_Hb_carryOut_22 : decode b_Hb_carryOut 22 = .ok (.iload_n 2, 1) := by decide +kernel
theorem d_Hb_carryOut_23 : decode b_Hb_carryOut 23 = .ok (.invokevirtual 304, 3) := by decide +kernel
theorem d_Hb_carryOut_26 : decode b_Hb_carryOut 26 = .ok (.ifCond .ne 6, 3) := by decide +kernel
theorem d_Hb_carryOut_29 : decode b_Hb_carryOut 29 = .ok (.goto 152, 3) := by decide +kernel
theorem d_Hb_carryOut_32 : decode b_Hb_carryOut 32 = .ok (.aload_n 0, 1) := by decide +kernel
theorem d_Hb_carryOut_33 : decode b_Hb_carryOut 33 = .ok (.getfield 47, 3) := by decide +kernel
theorem d_Hb_carryOut_36 : decode b_Hb_carryOut 36 = .ok (.getfield 307, 3) := by decide +kernel
theorem d_Hb_carryOut_39 : decode b_Hb_carryOut 39 = .ok (.iload_n 2, 1) := by decide +kernel
theorem d_Hb_carryOut_40 : decode b_Hb_carryOut 40 = .ok (.iaload, 1) := by decide +kernel
theorem d_Hb_carryOut_41 : decode b_Hb_carryOut 41 = .ok (.istore_n 3, 1) := by decide +kernel
theorem d_Hb_carryOut_42 : decode b_Hb_carryOut 42 = .ok (.iload_n 3, 1) := by decide +kernel
theorem d_Hb_carryOut_43 : decode b_Hb_carryOut 43 = .ok (.istore 4, 2) := by decide +kernel
theorem d_Hb_carryOut_45 : decode b_Hb_carryOut 45 = .ok (.aload_n 0, 1) := by decide +kernel
theorem d_Hb_carryOut_46 : decode b_Hb_carryOut 46 = .ok (.getfield 40, 3) := by decide +kernel
theorem d_Hb_carryOut_49 : decode b_Hb_carryOut 49 = .ok (.getfield 183, 3) := by decide +kernel
theorem d_Hb_carryOut_52 : decode b_Hb_carryOut 52 = .ok (.iload_n 3, 1) := by decide +kernel
theorem d_Hb_carryOut_53 : decode b_Hb_carryOut 53 = .ok (.iaload, 1) := by decide +kernel
theorem d_Hb_carryOut_54 : decode b_Hb_carryOut 54 = .ok (.iload_n 1, 1) := by decide +kernel
theorem d_Hb_carryOut_55 : decode b_Hb_carryOut 55 = .ok (.if_icmp .ge 53, 3) := by decide +kernel
theorem d_Hb_carryOut_58 : decode b_Hb_carryOut 58 = .ok (.aload_n 0, 1) := by decide +kernel
theorem d_Hb_carryOut_59 : decode b_Hb_carryOut 59 = .ok (.getfield 40, 3) := by decide +kernel
theorem d_Hb_carryOut_62 : decode b_Hb_carryOut 62 = .ok (.aload_n 0, 1) := by decide +kernel
theorem d_Hb_carryOut_63 : decode b_Hb_carryOut 63 = .ok (.getfield 40, 3) := by decide +kernel
theorem d_Hb_carryOut_66 : decode b_Hb_carryOut 66 = .ok (.getfield 163, 3) := by decide +kernel
theorem d_Hb_carryOut_69 : decode b_Hb_carryOut 69 = .ok (.iload_n 3, 1) := by decide +kernel
theorem d_Hb_carryOut_70 : decode b_Hb_carryOut 70 = .ok (.iaload, 1) := by decide +kernel
theorem d_Hb_carryOut_71 : decode b_Hb_carryOut 71 = .ok (.aload_n 0, 1) := by decide +kernel
theorem d_Hb_carryOut_72 : decode b_Hb_carryOut 72 = .ok (.getfield 47, 3) := by decide +kernel
theorem d_Hb_carryOut_75 : decode b_Hb_carryOut 75 = .ok (.getfield 310, 3) := by decide +kernel
theorem d_Hb_carryOut_78 : decode b_Hb_carryOut 78 = .ok (.iload_n 2, 1) := by decide +kernel
theorem d_Hb_carryOut_79 : decode b_Hb_carryOut 79 = .ok (.iaload, 1) := by decide +kernel
theorem d_Hb_carryOut_80 : decode b_Hb_carryOut 80 = .ok (.iload_n 1, 1) := by decide +kernel
theorem d_Hb_carryOut_81 : decode b_Hb_carryOut 81 = .ok (.aload_n 0, 1) := by decide +kernel
theorem d_Hb_carryOut_82 : decode b_Hb_carryOut 82 = .ok (.getfield 40, 3) := by decide +kernel
theorem d_Hb_carryOut_85 : decode b_Hb_carryOut 85 = .ok (.getfield 186, 3) := by decide +kernel
theorem d_Hb_carryOut_88 : decode b_Hb_carryOut 88 = .ok (.iload_n 3, 1) := by decide +kernel
theorem d_Hb_carryOut_89 : decode b_Hb_carryOut 89 = .ok (.iaload, 1) := by decide +kernel
theorem d_Hb_carryOut_90 : decode b_Hb_carryOut 90 = .ok (.invokevirtual 181, 3) := by decide +kernel
theorem d_Hb_carryOut_93 : decode b_Hb_carryOut 93 = .ok (.istore 4, 2) := by decide +kernel
theorem d_Hb_carryOut_95 : decode b_Hb_carryOut 95 = .ok (.aload_n 0, 1) := by decide +kernel
theorem d_Hb_carryOut_96 : decode b_Hb_carryOut 96 = .ok (.getfield 40, 3) := by decide +kernel
theorem d_Hb_carryOut_99 : decode b_Hb_carryOut 99 = .ok (.getfield 186, 3) := by decide +kernel
theorem d_Hb_carryOut_102 : decode b_Hb_carryOut 102 = .ok (.iload_n 3, 1) := by decide +kernel
theorem d_Hb_carryOut_103 : decode b_Hb_carryOut 103 = .ok (.iload_n 1, 1) := by decide +kernel
theorem d_Hb_carryOut_104 : decode b_Hb_carryOut 104 = .ok (.iastore, 1) := by decide +kernel
theorem d_Hb_carryOut_105 : decode b_Hb_carryOut 105 = .ok (.goto 21, 3) := by decide +kernel
theorem d_Hb_carryOut_108 : decode b_Hb_carryOut 108 = .ok (.aload_n 0, 1) := by decide +kernel
theorem d_Hb_carryOut_109 : decode b_Hb_carryOut 109 = .ok (.getfield 40, 3) := by decide +kernel
theorem d_Hb_carryOut_112 : decode b_Hb_carryOut 112 = .ok (.getfield 202, 3) := by decide +kernel
theorem d_Hb_carryOut_115 : decode b_Hb_carryOut 115 = .ok (.iload_n 3, 1) := by decide +kernel
theorem d_Hb_carryOut_116 : decode b_Hb_carryOut 116 = .ok (.aload_n 0, 1) := by decide +kernel
theorem d_Hb_carryOut_117 : decode b_Hb_carryOut 117 = .ok (.getfield 47, 3) := by decide +kernel
theorem d_Hb_carryOut_120 : decode b_Hb_carryOut 120 = .ok (.getfield 310, 3) := by decide +kernel
theorem d_Hb_carryOut_123 : decode b_Hb_carryOut 123 = .ok (.iload_n 2, 1) := by decide +kernel
theorem d_Hb_carryOut_124 : decode b_Hb_carryOut 124 = .ok (.iaload, 1) := by decide +kernel
theorem d_Hb_carryOut_125 : decode b_Hb_carryOut 125 = .ok (.iastore, 1) := by decide +kernel
theorem d_Hb_carryOut_126 : decode b_Hb_carryOut 126 = .ok (.aload_n 0, 1) := by decide +kernel
theorem d_Hb_carryOut_127 : decode b_Hb_carryOut 127 = .ok (.getfield 90, 3) := by decide +kernel
theorem d_Hb_carryOut_130 : decode b_Hb_carryOut 130 = .ok (.iconst 0, 1) := by decide +kernel
theorem d_Hb_carryOut_131 : decode b_Hb_carryOut 131 = .ok (.aaload, 1) := by decide +kernel
theorem d_Hb_carryOut_132 : decode b_Hb_carryOut 132 = .ok (.aload_n 0, 1) := by decide +kernel
theorem d_Hb_carryOut_133 : decode b_Hb_carryOut 133 = .ok (.getfield 93, 3) := by decide +kernel
theorem d_Hb_carryOut_136 : decode b_Hb_carryOut 136 = .ok (.iload_n 3, 1) := by decide +kernel
theorem d_Hb_carryOut_137 : decode b_Hb_carryOut 137 = .ok (.iastore, 1) := by decide +kernel
theorem d_Hb_carryOut_138 : decode b_Hb_carryOut 138 = .ok (.aload_n 0, 1) := by decide +kernel
theorem d_Hb_carryOut_139 : decode b_Hb_carryOut 139 = .ok (.getfield 90, 3) := by decide +kernel
theorem d_Hb_carryOut_142 : decode b_Hb_carryOut 142 = .ok (.iconst 1, 1) := by decide +kernel
theorem d_Hb_carryOut_143 : decode b_Hb_carryOut 143 = .ok (.aaload, 1) := by decide +kernel
theorem d_Hb_carryOut_144 : decode b_Hb_carryOut 144 = .ok (.aload_n 0, 1) := by decide +kernel
theorem d_Hb_carryOut_145 : decode b_Hb_carryOut 145 = .ok (.getfield 93, 3) := by decide +kernel
theorem d_Hb_carryOut_148 : decode b_Hb_carryOut 148 = .ok (.aload_n 0, 1) := by decide +kernel
theorem d_Hb_carryOut_149 : decode b_Hb_carryOut 149 = .ok (.getfield 47, 3) := by decide +kernel
theorem d_Hb_carryOut_152 : decode b_Hb_carryOut 152 = .ok (.getfield 310, 3) := by decide +kernel
theorem d_Hb_carryOut_155 : decode b_Hb_carryOut 155 = .ok (.iload_n 2, 1) := by decide +kernel
theorem d_Hb_carryOut_156 : decode b_Hb_carryOut 156 = .ok (.iaload, 1) := by decide +kernel
theorem d_Hb_carryOut_157 : decode b_Hb_carryOut 157 = .ok (.iastore, 1) := by decide +kernel
theorem d_Hb_carryOut_158 : decode b_Hb_carryOut 158 = .ok (.aload_n 0, 1) := by decide +kernel
theorem d_Hb_carryOut_159 : decode b_Hb_carryOut 159 = .ok (.getfield 90, 3) := by decide +kernel
theorem d_Hb_carryOut_162 : decode b_Hb_carryOut 162 = .ok (.iconst 2, 1) := by decide +kernel
theorem d_Hb_carryOut_163 : decode b_Hb_carryOut 163 = .ok (.aaload, 1) := by decide +kernel
theorem d_Hb_carryOut_164 : decode b_Hb_carryOut 164 = .ok (.aload_n 0, 1) := by decide +kernel
theorem d_Hb_carryOut_165 : decode b_Hb_carryOut 165 = .ok (.getfield 93, 3) := by decide +kernel
theorem d_Hb_carryOut_168 : decode b_Hb_carryOut 168 = .ok (.iload 4, 2) := by decide +kernel
theorem d_Hb_carryOut_170 : decode b_Hb_carryOut 170 = .ok (.iastore, 1) := by decide +kernel
theorem d_Hb_carryOut_171 : decode b_Hb_carryOut 171 = .ok (.aload_n 0, 1) := by decide +kernel
theorem d_Hb_carryOut_172 : decode b_Hb_carryOut 172 = .ok (.dup, 1) := by decide +kernel
theorem d_Hb_carryOut_173 : decode b_Hb_carryOut 173 = .ok (.getfield 93, 3) := by decide +kernel
theorem d_Hb_carryOut_176 : decode b_Hb_carryOut 176 = .ok (.iconst 1, 1) := by decide +kernel
theorem d_Hb_carryOut_177 : decode b_Hb_carryOut 177 = .ok (.iadd, 1) := by decide +kernel
theorem d_Hb_carryOut_178 : decode b_Hb_carryOut 178 = .ok (.putfield 93, 3) := by decide +kernel
theorem d_Hb_carryOut_181 : decode b_Hb_carryOut 181 = .ok (.iinc 2 1, 3) := by decide +kernel
theorem d_Hb_carryOut_184 : decode b_Hb_carryOut 184 = .ok (.goto (-177), 3) := by decide +kernel
theorem d_Hb_carryOut_187 : decode b_Hb_carryOut 187 = .ok (.return_, 1) := by decide +kernel
abbrev y_Hb_end : MethodName := ⟨"SmallHarbour", "end", "(I)I"⟩
abbrev b_Hb_end : ByteArray := prog_1_method_24_code
theorem mi_Hb_end : MI y_Hb_end b_Hb_end 2 (some .int) 1 := ⟨w_728, w_1, by decide +kernel, by decide, by decide⟩
theorem mv_Hb_end : MV y_Hb_end := ⟨w_726, w_727⟩
theorem d_Hb_end_0 : decode b_Hb_end 0 = .ok (.iload_n 1, 1) := by decide +kernel
theorem d_Hb_end_1 : decode b_Hb_end 1 = .ok (.ifCond .lt 14, 3) := by decide +kernel
theorem d_Hb_end_4 : decode b_Hb_end 4 = .ok (.iload_n 1, 1) := by decide +kernel
theorem d_Hb_end_5 : decode b_Hb_end 5 = .ok (.aload_n 0, 1) := by decide +kernel
theorem d_Hb_end_6 : decode b_Hb_end 6 = .ok (.getfield 68, 3) := by decide +kernel
theorem d_Hb_end_9 : decode b_Hb_end 9 = .ok (.getfield 234, 3) := by decide +kernel
theorem d_Hb_end_12 : decode b_Hb_end 12 = .ok (.if_icmp .le 5, 3) := by decide +kernel
theorem d_Hb_end_15 : decode b_Hb_end 15 = .ok (.iconst (-1), 1) := by decide +kernel
theorem d_Hb_end_16 : decode b_Hb_end 16 = .ok (.ireturn, 1) := by decide +kernel
theorem d_Hb_end_17 : decode b_Hb_end 17 = .ok (.aload_n 0, 1) := by decide +kernel
theorem d_Hb_end_18 : decode b_Hb_end 18 = .ok (.getfield 68, 3) := by decide +kernel
theorem d_Hb_end_21 : decode b_Hb_end 21 = .ok (.iload_n 1, 1) := by decide +kernel
theorem d_Hb_end_22 : decode b_Hb_end 22 = .ok (.putfield 234, 3) := by decide +kernel
theorem d_Hb_end_25 : decode b_Hb_end 25 = .ok (.iload_n 1, 1) := by decide +kernel
theorem d_Hb_end_26 : decode b_Hb_end 26 = .ok (.ireturn, 1) := by decide +kernel
abbrev y_Hb_fault : MethodName := ⟨"SmallHarbour", "fault", "(I)I"⟩
abbrev b_Hb_fault : ByteArray := prog_1_method_26_code
theorem mi_Hb_fault : MI y_Hb_fault b_Hb_fault 2 (some .int) 1 := ⟨w_817, w_1, by decide +kernel, by decide, by decide⟩
theorem mv_Hb_fault : MV y_Hb_fault := ⟨w_815, w_816⟩
theorem d_Hb_fault_0 : decode b_Hb_fault 0 = .ok (.iload_n 1, 1) := by decide +kernel
theorem d_Hb_fault_1 : decode b_Hb_fault 1 = .ok (.lookupswitch 43 #[(0, 27), (1, 35)], 27) := by decide +kernel
theorem d_Hb_fault_28 : decode b_Hb_fault 28 = .ok (.aload_n 0, 1) := by decide +kernel
theorem d_Hb_fault_29 : decode b_Hb_fault 29 = .ok (.getfield 77, 3) := by decide +kernel
theorem d_Hb_fault_32 : decode b_Hb_fault 32 = .ok (.getfield 251, 3) := by decide +kernel
theorem d_Hb_fault_35 : decode b_Hb_fault 35 = .ok (.ireturn, 1) := by decide +kernel
theorem d_Hb_fault_36 : decode b_Hb_fault 36 = .ok (.aload_n 0, 1) := by decide +kernel
theorem d_Hb_fault_37 : decode b_Hb_fault 37 = .ok (.getfield 77, 3) := by decide +kernel
theorem d_Hb_fault_40 : decode b_Hb_fault 40 = .ok (.getfield 254, 3) := by decide +kernel
theorem d_Hb_fault_43 : decode b_Hb_fault 43 = .ok (.ireturn, 1) := by decide +kernel
theorem d_Hb_fault_44 : decode b_Hb_fault 44 = .ok (.iconst (-1), 1) := by decide +kernel
theorem d_Hb_fault_45 : decode b_Hb_fault 45 = .ok (.ireturn, 1) := by decide +kernel
abbrev y_Tape_addFour : MethodName := ⟨"SmallHarbour$Tape", "addFour", "(I)V"⟩
abbrev b_Tape_addFour : ByteArray := prog_10_method_2_code
theorem mi_Tape_addFour : MI y_Tape_addFour b_Tape_addFour 3 none 1 := ⟨w_724, w_10, by decide +kernel, by decide, by decide⟩
theorem mv_Tape_addFour : MV y_Tape_addFour := ⟨w_722, w_723⟩
theorem d_Tape_addFour_0 : decode b_Tape_addFour 0 = .ok (.bipush 24, 2) := by decide +kernel
theorem d_Tape_addFour_2 : decode b_Tape_addFour 2 = .ok (.istore_n 2, 1) := by decide +kernel
theorem d_Tape_addFour_3 : decode b_Tape_addFour 3 = .ok (.iload_n 2, 1) := by decide +kernel
theorem d_Tape_addFour_4 : decode b_Tape_addFour 4 = .ok (.ifCond .lt 45, 3) := by decide +kernel
theorem d_Tape_addFour_7 : decode b_Tape_addFour 7 = .ok (.aload_n 0, 1) := by decide +kernel
theorem d_Tape_addFour_8 : decode b_Tape_addFour 8 = .ok (.getfield 15, 3) := by decide +kernel
theorem d_Tape_addFour_11 : decode b_Tape_addFour 11 = .ok (.sipush 200, 3) := by decide +kernel
theorem d_Tape_addFour_14 : decode b_Tape_addFour 14 = .ok (.if_icmp .ge 35, 3) := by decide +kernel
theorem d_Tape_addFour_17 : decode b_Tape_addFour 17 = .ok (.aload_n 0, 1) := by decide +kernel
theorem d_Tape_addFour_18 : decode b_Tape_addFour 18 = .ok (.getfield 9, 3) := by decide +kernel
theorem d_Tape_addFour_21 : decode b_Tape_addFour 21 = .ok (.aload_n 0, 1) := by decide +kernel
theorem d_Tape_addFour_22 : decode b_Tape_addFour 22 = .ok (.getfield 15, 3) := by decide +kernel
theorem d_Tape_addFour_25 : decode b_Tape_addFour 25 = .ok (.iload_n 1, 1) := by decide +kernel
theorem d_Tape_addFour_26 : decode b_Tape_addFour 26 = .ok (.iload_n 2, 1) := by decide +kernel
theorem d_Tape_addFour_27 : decode b_Tape_addFour 27 = .ok (.iushr, 1) := by decide +kernel
theorem d_Tape_addFour_28 : decode b_Tape_addFour 28 = .ok (.sipush 255, 3) := by decide +kernel
theorem d_Tape_addFour_31 : decode b_Tape_addFour 31 = .ok (.iand, 1) := by decide +kernel
theorem d_Tape_addFour_32 : decode b_Tape_addFour 32 = .ok (.iastore, 1) := by decide +kernel
theorem d_Tape_addFour_33 : decode b_Tape_addFour 33 = .ok (.aload_n 0, 1) := by decide +kernel
theorem d_Tape_addFour_34 : decode b_Tape_addFour 34 = .ok (.dup, 1) := by decide +kernel
theorem d_Tape_addFour_35 : decode b_Tape_addFour 35 = .ok (.getfield 15, 3) := by decide +kernel
theorem d_Tape_addFour_38 : decode b_Tape_addFour 38 = .ok (.iconst 1, 1) := by decide +kernel
theorem d_Tape_addFour_39 : decode b_Tape_addFour 39 = .ok (.iadd, 1) := by decide +kernel
theorem d_Tape_addFour_40 : decode b_Tape_addFour 40 = .ok (.putfield 15, 3) := by decide +kernel
theorem d_Tape_addFour_43 : decode b_Tape_addFour 43 = .ok (.iinc 2 (-8), 3) := by decide +kernel
theorem d_Tape_addFour_46 : decode b_Tape_addFour 46 = .ok (.goto (-43), 3) := by decide +kernel
theorem d_Tape_addFour_49 : decode b_Tape_addFour 49 = .ok (.return_, 1) := by decide +kernel
abbrev y_Hb_feed : MethodName := ⟨"SmallHarbour", "feed", "(IIIII)I"⟩
abbrev b_Hb_feed : ByteArray := prog_1_method_23_code
theorem mi_Hb_feed : MI y_Hb_feed b_Hb_feed 6 (some .int) 5 := ⟨w_720, w_1, by decide +kernel, by decide, by decide⟩
theorem mv_Hb_feed : MV y_Hb_feed := ⟨w_718, w_719⟩
theorem d_Hb_feed_0 : decode b_Hb_feed 0 = .ok (.aload_n 0, 1) := by decide +kernel
theorem d_Hb_feed_1 : decode b_Hb_feed 1 = .ok (.getfield 68, 3) := by decide +kernel
theorem d_Hb_feed_4 : decode b_Hb_feed 4 = .ok (.getfield 234, 3) := by decide +kernel
theorem d_Hb_feed_7 : decode b_Hb_feed 7 = .ok (.bipush 20, 2) := by decide +kernel
theorem d_Hb_feed_9 : decode b_Hb_feed 9 = .ok (.iadd, 1) := by decide +kernel
theorem d_Hb_feed_10 : decode b_Hb_feed 10 = .ok (.sipush 200, 3) := by decide +kernel
theorem d_Hb_feed_13 : decode b_Hb_feed 13 = .ok (.if_icmp .le 5, 3) := by decide +kernel
theorem d_Hb_feed_16 : decode b_Hb_feed 16 = .ok (.iconst (-1), 1) := by decide +kernel
theorem d_Hb_feed_17 : decode b_Hb_feed 17 = .ok (.ireturn, 1) := by decide +kernel
theorem d_Hb_feed_18 : decode b_Hb_feed 18 = .ok (.aload_n 0, 1) := by decide +kernel
theorem d_Hb_feed_19 : decode b_Hb_feed 19 = .ok (.getfield 68, 3) := by decide +kernel
theorem d_Hb_feed_22 : decode b_Hb_feed 22 = .ok (.iload_n 1, 1) := by decide +kernel
theorem d_Hb_feed_23 : decode b_Hb_feed 23 = .ok (.invokevirtual 235, 3) := by decide +kernel
theorem d_Hb_feed_26 : decode b_Hb_feed 26 = .ok (.aload_n 0, 1) := by decide +kernel
theorem d_Hb_feed_27 : decode b_Hb_feed 27 = .ok (.getfield 68, 3) := by decide +kernel
theorem d_Hb_feed_30 : decode b_Hb_feed 30 = .ok (.iload_n 2, 1) := by decide +kernel
theorem d_Hb_feed_31 : decode b_Hb_feed 31 = .ok (.invokevirtual 235, 3) := by decide +kernel
theorem d_Hb_feed_34 : decode b_Hb_feed 34 = .ok (.aload_n 0, 1) := by decide +kernel
theorem d_Hb_feed_35 : decode b_Hb_feed 35 = .ok (.getfield 68, 3) := by decide +kernel
theorem d_Hb_feed_38 : decode b_Hb_feed 38 = .ok (.iload_n 3, 1) := by decide +kernel
theorem d_Hb_feed_39 : decode b_Hb_feed 39 = .ok (.invokevirtual 235, 3) := by decide +kernel
theorem d_Hb_feed_42 : decode b_Hb_feed 42 = .ok (.aload_n 0, 1) := by decide +kernel
theorem d_Hb_feed_43 : decode b_Hb_feed 43 = .ok (.getfield 68, 3) := by decide +kernel
theorem d_Hb_feed_46 : decode b_Hb_feed 46 = .ok (.iload 4, 2) := by decide +kernel
theorem d_Hb_feed_48 : decode b_Hb_feed 48 = .ok (.invokevirtual 235, 3) := by decide +kernel
theorem d_Hb_feed_51 : decode b_Hb_feed 51 = .ok (.aload_n 0, 1) := by decide +kernel
theorem d_Hb_feed_52 : decode b_Hb_feed 52 = .ok (.getfield 68, 3) := by decide +kernel
theorem d_Hb_feed_55 : decode b_Hb_feed 55 = .ok (.iload 5, 2) := by decide +kernel
theorem d_Hb_feed_57 : decode b_Hb_feed 57 = .ok (.invokevirtual 235, 3) := by decide +kernel
theorem d_Hb_feed_60 : decode b_Hb_feed 60 = .ok (.aload_n 0, 1) := by decide +kernel
theorem d_Hb_feed_61 : decode b_Hb_feed 61 = .ok (.getfield 68, 3) := by decide +kernel
theorem d_Hb_feed_64 : decode b_Hb_feed 64 = .ok (.getfield 234, 3) := by decide +kernel
theorem d_Hb_feed_67 : decode b_Hb_feed 67 = .ok (.ireturn, 1) := by decide +kernel
