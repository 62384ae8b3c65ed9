abbrev y_Md_about : MethodName := ⟨"SmallHarbourModel", "about", "(I)I"⟩
abbrev b_Md_about : ByteArray := prog_14_method_73_code
theorem mi_Md_about : MI y_Md_about b_Md_about 2 (some .int) 1 := ⟨w_1327, w_13, by decide +kernel, by decide, by decide⟩
theorem mv_Md_about : MV y_Md_about := ⟨w_1325, w_1326⟩
theorem d_Md_about_0 : decode b_Md_about 0 = .ok (.iload_n 1, 1) := by decide +kernel
theorem d_Md_about_1 : decode b_Md_about 1 = .ok (.tableswitch 96 0 8 #[51, 56, 61, 66, 71, 76, 81, 86, 91], 51) := by decide +kernel
theorem d_Md_about_52 : decode b_Md_about 52 = .ok (.aload_n 0, 1) := by decide +kernel
theorem d_Md_about_53 : decode b_Md_about 53 = .ok (.getfield 155, 3) := by decide +kernel
theorem d_Md_about_56 : decode b_Md_about 56 = .ok (.ireturn, 1) := by decide +kernel
theorem d_Md_about_57 : decode b_Md_about 57 = .ok (.aload_n 0, 1) := by decide +kernel
theorem d_Md_about_58 : decode b_Md_about 58 = .ok (.getfield 141, 3) := by decide +kernel
theorem d_Md_about_61 : decode b_Md_about 61 = .ok (.ireturn, 1) := by decide +kernel
theorem d_Md_about_62 : decode b_Md_about 62 = .ok (.aload_n 0, 1) := by decide +kernel
theorem d_Md_about_63 : decode b_Md_about 63 = .ok (.getfield 148, 3) := by decide +kernel
theorem d_Md_about_66 : decode b_Md_about 66 = .ok (.ireturn, 1) := by decide +kernel
theorem d_Md_about_67 : decode b_Md_about 67 = .ok (.aload_n 0, 1) := by decide +kernel
theorem d_Md_about_68 : decode b_Md_about 68 = .ok (.getfield 165, 3) := by decide +kernel
theorem d_Md_about_71 : decode b_Md_about 71 = .ok (.ireturn, 1) := by decide +kernel
theorem d_Md_about_72 : decode b_Md_about 72 = .ok (.aload_n 0, 1) := by decide +kernel
theorem d_Md_about_73 : decode b_Md_about 73 = .ok (.getfield 257, 3) := by decide +kernel
theorem d_Md_about_76 : decode b_Md_about 76 = .ok (.ireturn, 1) := by decide +kernel
theorem d_Md_about_77 : decode b_Md_about 77 = .ok (.aload_n 0, 1) := by decide +kernel
theorem d_Md_about_78 : decode b_Md_about 78 = .ok (.getfield 263, 3) := by decide +kernel
theorem d_Md_about_81 : decode b_Md_about 81 = .ok (.ireturn, 1) := by decide +kernel
theorem d_Md_about_82 : decode b_Md_about 82 = .ok (.aload_n 0, 1) := by decide +kernel
theorem d_Md_about_83 : decode b_Md_about 83 = .ok (.getfield 244, 3) := by decide +kernel
theorem d_Md_about_86 : decode b_Md_about 86 = .ok (.ireturn, 1) := by decide +kernel
theorem d_Md_about_87 : decode b_Md_about 87 = .ok (.aload_n 0, 1) := by decide +kernel
theorem d_Md_about_88 : decode b_Md_about 88 = .ok (.getfield 273, 3) := by decide +kernel
theorem d_Md_about_91 : decode b_Md_about 91 = .ok (.ireturn, 1) := by decide +kernel
theorem d_Md_about_92 : decode b_Md_about 92 = .ok (.aload_n 0, 1) := by decide +kernel
theorem d_Md_about_93 : decode b_Md_about 93 = .ok (.getfield 241, 3) := by decide +kernel
theorem d_Md_about_96 : decode b_Md_about 96 = .ok (.ireturn, 1) := by decide +kernel
theorem d_Md_about_97 : decode b_Md_about 97 = .ok (.iconst (-1), 1) := by decide +kernel
theorem d_Md_about_98 : decode b_Md_about 98 = .ok (.ireturn, 1) := by decide +kernel
abbrev y_Md_isAway : MethodName := ⟨"SmallHarbourModel", "isAway", "(II)Z"⟩
abbrev b_Md_isAway : ByteArray := prog_14_method_12_code
theorem mi_Md_isAway : MI y_Md_isAway b_Md_isAway 4 (some .boolean) 2 := ⟨w_1083, w_13, by decide +kernel, by decide, by decide⟩
theorem mv_Md_isAway : MV y_Md_isAway := ⟨w_1082, w_s3_3⟩
theorem d_Md_isAway_0 : decode b_Md_isAway 0 = .ok (.iconst 0, 1) := by decide +kernel
theorem d_Md_isAway_1 : decode b_Md_isAway 1 = .ok (.istore_n 3, 1) := by decide +kernel
theorem d_Md_isAway_2 : decode b_Md_isAway 2 = .ok (.iload_n 3, 1) := by decide +kernel
theorem d_Md_isAway_3 : decode b_Md_isAway 3 = .ok (.aload_n 0, 1) := by decide +kernel
theorem d_Md_isAway_4 : decode b_Md_isAway 4 = .ok (.getfield 165, 3) := by decide +kernel
theorem d_Md_isAway_7 : decode b_Md_isAway 7 = .ok (.if_icmp .ge 41, 3) := by decide +kernel
theorem d_Md_isAway_10 : decode b_Md_isAway 10 = .ok (.aload_n 0, 1) := by decide +kernel
theorem d_Md_isAway_11 : decode b_Md_isAway 11 = .ok (.getfield 35, 3) := by decide +kernel
theorem d_Md_isAway_14 : decode b_Md_isAway 14 = .ok (.iload_n 3, 1) := by decide +kernel
theorem d_Md_isAway_15 : decode b_Md_isAway 15 = .ok (.iaload, 1) := by decide +kernel
theorem d_Md_isAway_16 : decode b_Md_isAway 16 = .ok (.iload_n 1, 1) := by decide +kernel
theorem d_Md_isAway_17 : decode b_Md_isAway 17 = .ok (.if_icmp .ne 25, 3) := by decide +kernel
theorem d_Md_isAway_20 : decode b_Md_isAway 20 = .ok (.iload_n 2, 1) := by decide +kernel
theorem d_Md_isAway_21 : decode b_Md_isAway 21 = .ok (.aload_n 0, 1) := by decide +kernel
theorem d_Md_isAway_22 : decode b_Md_isAway 22 = .ok (.getfield 38, 3) := by decide +kernel
theorem d_Md_isAway_25 : decode b_Md_isAway 25 = .ok (.iload_n 3, 1) := by decide +kernel
theorem d_Md_isAway_26 : decode b_Md_isAway 26 = .ok (.iaload, 1) := by decide +kernel
theorem d_Md_isAway_27 : decode b_Md_isAway 27 = .ok (.if_icmp .lt 15, 3) := by decide +kernel
theorem d_Md_isAway_30 : decode b_Md_isAway 30 = .ok (.iload_n 2, 1) := by decide +kernel
theorem d_Md_isAway_31 : decode b_Md_isAway 31 = .ok (.aload_n 0, 1) := by decide +kernel
theorem d_Md_isAway_32 : decode b_Md_isAway 32 = .ok (.getfield 41, 3) := by decide +kernel
theorem d_Md_isAway_35 : decode b_Md_isAway 35 = .ok (.iload_n 3, 1) := by decide +kernel
theorem d_Md_isAway_36 : decode b_Md_isAway 36 = .ok (.iaload, 1) := by decide +kernel
theorem d_Md_isAway_37 : decode b_Md_isAway 37 = .ok (.if_icmp .ge 5, 3) := by decide +kernel
theorem d_Md_isAway_40 : decode b_Md_isAway 40 = .ok (.iconst 1, 1) := by decide +kernel
theorem d_Md_isAway_41 : decode b_Md_isAway 41 = .ok (.ireturn, 1) := by decide +kernel
theorem d_Md_isAway_42 : decode b_Md_isAway 42 = .ok (.iinc 3 1, 3) := by decide +kernel
theorem d_Md_isAway_45 : decode b_Md_isAway 45 = .ok (.goto (-43), 3) := by decide +kernel
theorem d_Md_isAway_48 : decode b_Md_isAway 48 = .ok (.iconst 0, 1) := by decide +kernel
theorem d_Md_isAway_49 : decode b_Md_isAway 49 = .ok (.ireturn, 1) := by decide +kernel
abbrev y_Md_atHome : MethodName := ⟨"SmallHarbourModel", "atHome", "(II)I"⟩
abbrev b_Md_atHome : ByteArray := prog_14_method_13_code
theorem mi_Md_atHome : MI y_Md_atHome b_Md_atHome 4 (some .int) 2 := ⟨w_1107, w_13, by decide +kernel, by decide, by decide⟩
theorem mv_Md_atHome : MV y_Md_atHome := ⟨w_1106, w_s3_8⟩
theorem d_Md_atHome_0 : decode b_Md_atHome 0 = .ok (.iconst 0, 1) := by decide +kernel
theorem d_Md_atHome_1 : decode b_Md_atHome 1 = .ok (.istore_n 3, 1) := by decide +kernel
theorem d_Md_atHome_2 : decode b_Md_atHome 2 = .ok (.iload_n 3, 1) := by decide +kernel
theorem d_Md_atHome_3 : decode b_Md_atHome 3 = .ok (.aload_n 0, 1) := by decide +kernel
theorem d_Md_atHome_4 : decode b_Md_atHome 4 = .ok (.getfield 141, 3) := by decide +kernel
theorem d_Md_atHome_7 : decode b_Md_atHome 7 = .ok (.if_icmp .ge 30, 3) := by decide +kernel
theorem d_Md_atHome_10 : decode b_Md_atHome 10 = .ok (.aload_n 0, 1) := by decide +kernel
theorem d_Md_atHome_11 : decode b_Md_atHome 11 = .ok (.getfield 32, 3) := by decide +kernel
theorem d_Md_atHome_14 : decode b_Md_atHome 14 = .ok (.iload_n 3, 1) := by decide +kernel
theorem d_Md_atHome_15 : decode b_Md_atHome 15 = .ok (.iaload, 1) := by decide +kernel
theorem d_Md_atHome_16 : decode b_Md_atHome 16 = .ok (.iload_n 1, 1) := by decide +kernel
theorem d_Md_atHome_17 : decode b_Md_atHome 17 = .ok (.if_icmp .ne 14, 3) := by decide +kernel
theorem d_Md_atHome_20 : decode b_Md_atHome 20 = .ok (.aload_n 0, 1) := by decide +kernel
theorem d_Md_atHome_21 : decode b_Md_atHome 21 = .ok (.iload_n 3, 1) := by decide +kernel
theorem d_Md_atHome_22 : decode b_Md_atHome 22 = .ok (.iload_n 2, 1) := by decide +kernel
theorem d_Md_atHome_23 : decode b_Md_atHome 23 = .ok (.invokevirtual 168, 3) := by decide +kernel
theorem d_Md_atHome_26 : decode b_Md_atHome 26 = .ok (.ifCond .ne 5, 3) := by decide +kernel
theorem d_Md_atHome_29 : decode b_Md_atHome 29 = .ok (.iload_n 3, 1) := by decide +kernel
theorem d_Md_atHome_30 : decode b_Md_atHome 30 = .ok (.ireturn, 1) := by decide +kernel
theorem d_Md_atHome_31 : decode b_Md_atHome 31 = .ok (.iinc 3 1, 3) := by decide +kernel
theorem d_Md_atHome_34 : decode b_Md_atHome 34 = .ok (.goto (-32), 3) := by decide +kernel
theorem d_Md_atHome_37 : decode b_Md_atHome 37 = .ok (.iconst (-1), 1) := by decide +kernel
theorem d_Md_atHome_38 : decode b_Md_atHome 38 = .ok (.ireturn, 1) := by decide +kernel
abbrev y_Md_isNight : MethodName := ⟨"SmallHarbourModel", "isNight", "(II)Z"⟩
abbrev b_Md_isNight : ByteArray := prog_14_method_14_code
theorem mi_Md_isNight : MI y_Md_isNight b_Md_isNight 3 (some .boolean) 2 := ⟨w_1111, w_13, by decide +kernel, by decide, by decide⟩
theorem mv_Md_isNight : MV y_Md_isNight := ⟨w_1110, w_s3_9⟩
theorem d_Md_isNight_0 : decode b_Md_isNight 0 = .ok (.iload_n 2, 1) := by decide +kernel
theorem d_Md_isNight_1 : decode b_Md_isNight 1 = .ok (.aload_n 0, 1) := by decide +kernel
theorem d_Md_isNight_2 : decode b_Md_isNight 2 = .ok (.getfield 50, 3) := by decide +kernel
theorem d_Md_isNight_5 : decode b_Md_isNight 5 = .ok (.iload_n 1, 1) := by decide +kernel
theorem d_Md_isNight_6 : decode b_Md_isNight 6 = .ok (.iaload, 1) := by decide +kernel
theorem d_Md_isNight_7 : decode b_Md_isNight 7 = .ok (.if_icmp .lt 17, 3) := by decide +kernel
theorem d_Md_isNight_10 : decode b_Md_isNight 10 = .ok (.iload_n 2, 1) := by decide +kernel
theorem d_Md_isNight_11 : decode b_Md_isNight 11 = .ok (.aload_n 0, 1) := by decide +kernel
theorem d_Md_isNight_12 : decode b_Md_isNight 12 = .ok (.getfield 53, 3) := by decide +kernel
theorem d_Md_isNight_15 : decode b_Md_isNight 15 = .ok (.iload_n 1, 1) := by decide +kernel
theorem d_Md_isNight_16 : decode b_Md_isNight 16 = .ok (.iaload, 1) := by decide +kernel
theorem d_Md_isNight_17 : decode b_Md_isNight 17 = .ok (.if_icmp .ge 7, 3) := by decide +kernel
theorem d_Md_isNight_20 : decode b_Md_isNight 20 = .ok (.iconst 1, 1) := by decide +kernel
theorem d_Md_isNight_21 : decode b_Md_isNight 21 = .ok (.goto 4, 3) := by decide +kernel
theorem d_Md_isNight_24 : decode b_Md_isNight 24 = .ok (.iconst 0, 1) := by decide +kernel
theorem d_Md_isNight_25 : decode b_Md_isNight 25 = .ok (.ireturn, 1) := by decide +kernel
abbrev y_Md_at : MethodName := ⟨"SmallHarbourModel", "at", "(II)I"⟩
abbrev b_Md_at : ByteArray := prog_14_method_15_code
theorem mi_Md_at : MI y_Md_at b_Md_at 5 (some .int) 2 := ⟨w_1103, w_13, by decide +kernel, by decide, by decide⟩
theorem mv_Md_at : MV y_Md_at := ⟨w_1102, w_s3_7⟩
theorem d_Md_at_0 : decode b_Md_at 0 = .ok (.aload_n 0, 1) := by decide +kernel
theorem d_Md_at_1 : decode b_Md_at 1 = .ok (.iload_n 1, 1) := by decide +kernel
theorem d_Md_at_2 : decode b_Md_at 2 = .ok (.iload_n 2, 1) := by decide +kernel
theorem d_Md_at_3 : decode b_Md_at 3 = .ok (.invokevirtual 172, 3) := by decide +kernel
theorem d_Md_at_6 : decode b_Md_at 6 = .ok (.istore_n 3, 1) := by decide +kernel
theorem d_Md_at_7 : decode b_Md_at 7 = .ok (.iload_n 3, 1) := by decide +kernel
theorem d_Md_at_8 : decode b_Md_at 8 = .ok (.ifCond .lt 5, 3) := by decide +kernel
theorem d_Md_at_11 : decode b_Md_at 11 = .ok (.iload_n 3, 1) := by decide +kernel
theorem d_Md_at_12 : decode b_Md_at 12 = .ok (.ireturn, 1) := by decide +kernel
theorem d_Md_at_13 : decode b_Md_at 13 = .ok (.iconst 0, 1) := by decide +kernel
theorem d_Md_at_14 : decode b_Md_at 14 = .ok (.istore 4, 2) := by decide +kernel
theorem d_Md_at_16 : decode b_Md_at 16 = .ok (.iload 4, 2) := by decide +kernel
theorem d_Md_at_18 : decode b_Md_at 18 = .ok (.aload_n 0, 1) := by decide +kernel
theorem d_Md_at_19 : decode b_Md_at 19 = .ok (.getfield 148, 3) := by decide +kernel
theorem d_Md_at_22 : decode b_Md_at 22 = .ok (.if_icmp .ge 38, 3) := by decide +kernel
theorem d_Md_at_25 : decode b_Md_at 25 = .ok (.aload_n 0, 1) := by decide +kernel
theorem d_Md_at_26 : decode b_Md_at 26 = .ok (.getfield 47, 3) := by decide +kernel
theorem d_Md_at_29 : decode b_Md_at 29 = .ok (.iload 4, 2) := by decide +kernel
theorem d_Md_at_31 : decode b_Md_at 31 = .ok (.iaload, 1) := by decide +kernel
theorem d_Md_at_32 : decode b_Md_at 32 = .ok (.iload_n 1, 1) := by decide +kernel
theorem d_Md_at_33 : decode b_Md_at 33 = .ok (.if_icmp .ne 21, 3) := by decide +kernel
theorem d_Md_at_36 : decode b_Md_at 36 = .ok (.aload_n 0, 1) := by decide +kernel
theorem d_Md_at_37 : decode b_Md_at 37 = .ok (.iload 4, 2) := by decide +kernel
theorem d_Md_at_39 : decode b_Md_at 39 = .ok (.iload_n 2, 1) := by decide +kernel
theorem d_Md_at_40 : decode b_Md_at 40 = .ok (.invokevirtual 176, 3) := by decide +kernel
theorem d_Md_at_43 : decode b_Md_at 43 = .ok (.ifCond .eq 11, 3) := by decide +kernel
theorem d_Md_at_46 : decode b_Md_at 46 = .ok (.aload_n 0, 1) := by decide +kernel
theorem d_Md_at_47 : decode b_Md_at 47 = .ok (.getfield 44, 3) := by decide +kernel
theorem d_Md_at_50 : decode b_Md_at 50 = .ok (.iload 4, 2) := by decide +kernel
theorem d_Md_at_52 : decode b_Md_at 52 = .ok (.iaload, 1) := by decide +kernel
theorem d_Md_at_53 : decode b_Md_at 53 = .ok (.ireturn, 1) := by decide +kernel
theorem d_Md_at_54 : decode b_Md_at 54 = .ok (.iinc 4 1, 3) := by decide +kernel
theorem d_Md_at_57 : decode b_Md_at 57 = .ok (.goto (-41), 3) := by decide +kernel
theorem d_Md_at_60 : decode b_Md_at 60 = .ok (.iconst (-1), 1) := by decide +kernel
theorem d_Md_at_61 : decode b_Md_at 61 = .ok (.ireturn, 1) := by decide +kernel
abbrev y_Md_isIn : MethodName := ⟨"SmallHarbourModel", "isIn", "(III)Z"⟩
abbrev b_Md_isIn : ByteArray := prog_14_method_2_code
theorem mi_Md_isIn : MI y_Md_isIn b_Md_isIn 3 (some .boolean) 3 := ⟨w_1047, w_13, by decide +kernel, by decide, by decide⟩
theorem d_Md_isIn_0 : decode b_Md_isIn 0 = .ok (.iload_n 0, 1) := by decide +kernel
theorem d_Md_isIn_1 : decode b_Md_isIn 1 = .ok (.iload_n 1, 1) := by decide +kernel
theorem d_Md_isIn_2 : decode b_Md_isIn 2 = .ok (.if_icmp .lt 12, 3) := by decide +kernel
theorem d_Md_isIn_5 : decode b_Md_isIn 5 = .ok (.iload_n 0, 1) := by decide +kernel
theorem d_Md_isIn_6 : decode b_Md_isIn 6 = .ok (.iload_n 2, 1) := by decide +kernel
theorem d_Md_isIn_7 : decode b_Md_isIn 7 = .ok (.if_icmp .gt 7, 3) := by decide +kernel
theorem d_Md_isIn_10 : decode b_Md_isIn 10 = .ok (.iconst 1, 1) := by decide +kernel
theorem d_Md_isIn_11 : decode b_Md_isIn 11 = .ok (.goto 4, 3) := by decide +kernel
theorem d_Md_isIn_14 : decode b_Md_isIn 14 = .ok (.iconst 0, 1) := by decide +kernel
theorem d_Md_isIn_15 : decode b_Md_isIn 15 = .ok (.ireturn, 1) := by decide +kernel
abbrev y_Md_isBoat : MethodName := ⟨"SmallHarbourModel", "isBoat", "(I)Z"⟩
abbrev b_Md_isBoat : ByteArray := prog_14_method_3_code
theorem mi_Md_isBoat : MI y_Md_isBoat b_Md_isBoat 2 (some .boolean) 1 := ⟨w_1079, w_13, by decide +kernel, by decide, by decide⟩
theorem mv_Md_isBoat : MV y_Md_isBoat := ⟨w_1078, w_s3_2⟩
theorem d_Md_isBoat_0 : decode b_Md_isBoat 0 = .ok (.iload_n 1, 1) := by decide +kernel
theorem d_Md_isBoat_1 : decode b_Md_isBoat 1 = .ok (.iconst 0, 1) := by decide +kernel
theorem d_Md_isBoat_2 : decode b_Md_isBoat 2 = .ok (.aload_n 0, 1) := by decide +kernel
theorem d_Md_isBoat_3 : decode b_Md_isBoat 3 = .ok (.getfield 141, 3) := by decide +kernel
theorem d_Md_isBoat_6 : decode b_Md_isBoat 6 = .ok (.iconst 1, 1) := by decide +kernel
theorem d_Md_isBoat_7 : decode b_Md_isBoat 7 = .ok (.isub, 1) := by decide +kernel
theorem d_Md_isBoat_8 : decode b_Md_isBoat 8 = .ok (.invokestatic 144, 3) := by decide +kernel
theorem d_Md_isBoat_11 : decode b_Md_isBoat 11 = .ok (.ireturn, 1) := by decide +kernel
abbrev y_Md_away : MethodName := ⟨"SmallHarbourModel", "away", "(III)Z"⟩
abbrev b_Md_away : ByteArray := prog_14_method_16_code
theorem mi_Md_away : MI y_Md_away b_Md_away 5 (some .boolean) 3 := ⟨w_1075, w_13, by decide +kernel, by decide, by decide⟩
theorem mv_Md_away : MV y_Md_away := ⟨w_1073, w_1074⟩
theorem d_Md_away_0 : decode b_Md_away 0 = .ok (.aload_n 0, 1) := by decide +kernel
theorem d_Md_away_1 : decode b_Md_away 1 = .ok (.iload_n 1, 1) := by decide +kernel
theorem d_Md_away_2 : decode b_Md_away 2 = .ok (.invokevirtual 179, 3) := by decide +kernel
theorem d_Md_away_5 : decode b_Md_away 5 = .ok (.ifCond .eq 45, 3) := by decide +kernel
theorem d_Md_away_8 : decode b_Md_away 8 = .ok (.aload_n 0, 1) := by decide +kernel
theorem d_Md_away_9 : decode b_Md_away 9 = .ok (.getfield 32, 3) := by decide +kernel
theorem d_Md_away_12 : decode b_Md_away 12 = .ok (.iload_n 1, 1) := by decide +kernel
theorem d_Md_away_13 : decode b_Md_away 13 = .ok (.iaload, 1) := by decide +kernel
theorem d_Md_away_14 : decode b_Md_away 14 = .ok (.ifCond .lt 36, 3) := by decide +kernel
theorem d_Md_away_17 : decode b_Md_away 17 = .ok (.iload_n 2, 1) := by decide +kernel
theorem d_Md_away_18 : decode b_Md_away 18 = .ok (.iconst 0, 1) := by decide +kernel
theorem d_Md_away_19 : decode b_Md_away 19 = .ok (.sipush 400, 3) := by decide +kernel
theorem d_Md_away_22 : decode b_Md_away 22 = .ok (.invokestatic 144, 3) := by decide +kernel
theorem d_Md_away_25 : decode b_Md_away 25 = .ok (.ifCond .eq 25, 3) := by decide +kernel
theorem d_Md_away_28 : decode b_Md_away 28 = .ok (.iload_n 3, 1) := by decide +kernel
theorem d_Md_away_29 : decode b_Md_away 29 = .ok (.iload_n 2, 1) := by decide +kernel
theorem d_Md_away_30 : decode b_Md_away 30 = .ok (.iconst 1, 1) := by decide +kernel
theorem d_Md_away_31 : decode b_Md_away 31 = .ok (.iadd, 1) := by decide +kernel
theorem d_Md_away_32 : decode b_Md_away 32 = .ok (.sipush 400, 3) := by decide +kernel
theorem d_Md_away_35 : decode b_Md_away 35 = .ok (.invokestatic 144, 3) := by decide +kernel
theorem d_Md_away_38 : decode b_Md_away 38 = .ok (.ifCond .eq 12, 3) := by decide +kernel
theorem d_Md_away_41 : decode b_Md_away 41 = .ok (.aload_n 0, 1) := by decide +kernel
theorem d_Md_away_42 : decode b_Md_away 42 = .ok (.getfield 165, 3) := by decide +kernel
theorem d_Md_away_45 : decode b_Md_away 45 = .ok (.bipush 60, 2) := by decide +kernel
theorem d_Md_away_47 : decode b_Md_away 47 = .ok (.if_icmp .ne 5, 3) := by decide +kernel
theorem d_Md_away_50 : decode b_Md_away 50 = .ok (.iconst 0, 1) := by decide +kernel
theorem d_Md_away_51 : decode b_Md_away 51 = .ok (.ireturn, 1) := by decide +kernel
theorem d_Md_away_52 : decode b_Md_away 52 = .ok (.iload_n 2, 1) := by decide +kernel
theorem d_Md_away_53 : decode b_Md_away 53 = .ok (.istore 4, 2) := by decide +kernel
theorem d_Md_away_55 : decode b_Md_away 55 = .ok (.iload 4, 2) := by decide +kernel
theorem d_Md_away_57 : decode b_Md_away 57 = .ok (.iload_n 3, 1) := by decide +kernel
theorem d_Md_away_58 : decode b_Md_away 58 = .ok (.if_icmp .ge 21, 3) := by decide +kernel
theorem d_Md_away_61 : decode b_Md_away 61 = .ok (.aload_n 0, 1) := by decide +kernel
theorem d_Md_away_62 : decode b_Md_away 62 = .ok (.iload_n 1, 1) := by decide +kernel
theorem d_Md_away_63 : decode b_Md_away 63 = .ok (.iload 4, 2) := by decide +kernel
theorem d_Md_away_65 : decode b_Md_away 65 = .ok (.invokevirtual 168, 3) := by decide +kernel
theorem d_Md_away_68 : decode b_Md_away 68 = .ok (.ifCond .eq 5, 3) := by decide +kernel
theorem d_Md_away_71 : decode b_Md_away 71 = .ok (.iconst 0, 1) := by decide +kernel
theorem d_Md_away_72 : decode b_Md_away 72 = .ok (.ireturn, 1) := by decide +kernel
theorem d_Md_away_73 : decode b_Md_away 73 = .ok (.iinc 4 1, 3) := by decide +kernel
theorem d_Md_away_76 : decode b_Md_away 76 = .ok (.goto (-21), 3) := by decide +kernel
theorem d_Md_away_79 : decode b_Md_away 79 = .ok (.aload_n 0, 1) := by decide +kernel
theorem d_Md_away_80 : decode b_Md_away 80 = .ok (.getfield 35, 3) := by decide +kernel
theorem d_Md_away_83 : decode b_Md_away 83 = .ok (.aload_n 0, 1) := by decide +kernel
theorem d_Md_away_84 : decode b_Md_away 84 = .ok (.getfield 165, 3) := by decide +kernel
theorem d_Md_away_87 : decode b_Md_away 87 = .ok (.iload_n 1, 1) := by decide +kernel
theorem d_Md_away_88 : decode b_Md_away 88 = .ok (.iastore, 1) := by decide +kernel
theorem d_Md_away_89 : decode b_Md_away 89 = .ok (.aload_n 0, 1) := by decide +kernel
theorem d_Md_away_90 : decode b_Md_away 90 = .ok (.getfield 38, 3) := by decide +kernel
theorem d_Md_away_93 : decode b_Md_away 93 = .ok (.aload_n 0, 1) := by decide +kernel
theorem d_Md_away_94 : decode b_Md_away 94 = .ok (.getfield 165, 3) := by decide +kernel
theorem d_Md_away_97 : decode b_Md_away 97 = .ok (.iload_n 2, 1) := by decide +kernel
theorem d_Md_away_98 : decode b_Md_away 98 = .ok (.iastore, 1) := by decide +kernel
theorem d_Md_away_99 : decode b_Md_away 99 = .ok (.aload_n 0, 1) := by decide +kernel
theorem d_Md_away_100 : decode b_Md_away 100 = .ok (.getfield 41, 3) := by decide +kernel
theorem d_Md_away_103 : decode b_Md_away 103 = .ok (.aload_n 0, 1) := by decide +kernel
theorem d_Md_away_104 : decode b_Md_away 104 = .ok (.getfield 165, 3) := by decide +kernel
theorem d_Md_away_107 : decode b_Md_away 107 = .ok (.iload_n 3, 1) := by decide +kernel
theorem d_Md_away_108 : decode b_Md_away 108 = .ok (.iastore, 1) := by decide +kernel
theorem d_Md_away_109 : decode b_Md_away 109 = .ok (.aload_n 0, 1) := by decide +kernel
theorem d_Md_away_110 : decode b_Md_away 110 = .ok (.dup, 1) := by decide +kernel
theorem d_Md_away_111 : decode b_Md_away 111 = .ok (.getfield 165, 3) := by decide +kernel
theorem d_Md_away_114 : decode b_Md_away 114 = .ok (.iconst 1, 1) := by decide +kernel
theorem d_Md_away_115 : decode b_Md_away 115 = .ok (.iadd, 1) := by decide +kernel
theorem d_Md_away_116 : decode b_Md_away 116 = .ok (.putfield 165, 3) := by decide +kernel
theorem d_Md_away_119 : decode b_Md_away 119 = .ok (.iconst 1, 1) := by decide +kernel
theorem d_Md_away_120 : decode b_Md_away 120 = .ok (.ireturn, 1) := by decide +kernel
abbrev y_Md_isMany : MethodName := ⟨"SmallHarbourModel", "isMany", "()Z"⟩
abbrev b_Md_isMany : ByteArray := prog_14_method_63_code
theorem mi_Md_isMany : MI y_Md_isMany b_Md_isMany 1 (some .boolean) 0 := ⟨w_1280, w_13, by decide +kernel, by decide, by decide⟩
theorem mv_Md_isMany : MV y_Md_isMany := ⟨w_1279, w_s4_12⟩
theorem d_Md_isMany_0 : decode b_Md_isMany 0 = .ok (.aload_n 0, 1) := by decide +kernel
theorem d_Md_isMany_1 : decode b_Md_isMany 1 = .ok (.getfield 335, 3) := by decide +kernel
theorem d_Md_isMany_4 : decode b_Md_isMany 4 = .ok (.bipush 60, 2) := by decide +kernel
theorem d_Md_isMany_6 : decode b_Md_isMany 6 = .ok (.if_icmp .ne 7, 3) := by decide +kernel
theorem d_Md_isMany_9 : decode b_Md_isMany 9 = .ok (.iconst 1, 1) := by decide +kernel
theorem d_Md_isMany_10 : decode b_Md_isMany 10 = .ok (.goto 4, 3) := by decide +kernel
theorem d_Md_isMany_13 : decode b_Md_isMany 13 = .ok (.iconst 0, 1) := by decide +kernel
theorem d_Md_isMany_14 : decode b_Md_isMany 14 = .ok (.ireturn, 1) := by decide +kernel
abbrev y_Md_emit : MethodName := ⟨"SmallHarbourModel", "emit", "(II)V"⟩
abbrev b_Md_emit : ByteArray := prog_14_method_56_code
theorem mi_Md_emit : MI y_Md_emit b_Md_emit 3 none 2 := ⟨w_1284, w_13, by decide +kernel, by decide, by decide⟩
theorem mv_Md_emit : MV y_Md_emit := ⟨w_1283, w_s4_13⟩
theorem d_Md_emit_0 : decode b_Md_emit 0 = .ok (.aload_n 0, 1) := by decide +kernel
theorem d_Md_emit_1 : decode b_Md_emit 1 = .ok (.getfield 123, 3) := by decide +kernel
theorem d_Md_emit_4 : decode b_Md_emit 4 = .ok (.aload_n 0, 1) := by decide +kernel
theorem d_Md_emit_5 : decode b_Md_emit 5 = .ok (.getfield 310, 3) := by decide +kernel
theorem d_Md_emit_8 : decode b_Md_emit 8 = .ok (.iload_n 1, 1) := by decide +kernel
theorem d_Md_emit_9 : decode b_Md_emit 9 = .ok (.iastore, 1) := by decide +kernel
theorem d_Md_emit_10 : decode b_Md_emit 10 = .ok (.aload_n 0, 1) := by decide +kernel
theorem d_Md_emit_11 : decode b_Md_emit 11 = .ok (.getfield 126, 3) := by decide +kernel
theorem d_Md_emit_14 : decode b_Md_emit 14 = .ok (.aload_n 0, 1) := by decide +kernel
theorem d_Md_emit_15 : decode b_Md_emit 15 = .ok (.getfield 310, 3) := by decide +kernel
theorem d_Md_emit_18 : decode b_Md_emit 18 = .ok (.iload_n 2, 1) := by decide +kernel
theorem d_Md_emit_19 : decode b_Md_emit 19 = .ok (.iastore, 1) := by decide +kernel
theorem d_Md_emit_20 : decode b_Md_emit 20 = .ok (.aload_n 0, 1) := by decide +kernel
theorem d_Md_emit_21 : decode b_Md_emit 21 = .ok (.dup, 1) := by decide +kernel
theorem d_Md_emit_22 : decode b_Md_emit 22 = .ok (.getfield 310, 3) := by decide +kernel
theorem d_Md_emit_25 : decode b_Md_emit 25 = .ok (.iconst 1, 1) := by decide +kernel
theorem d_Md_emit_26 : decode b_Md_emit 26 = .ok (.iadd, 1) := by decide +kernel
theorem d_Md_emit_27 : decode b_Md_emit 27 = .ok (.putfield 310, 3) := by decide +kernel
theorem d_Md_emit_30 : decode b_Md_emit 30 = .ok (.return_, 1) := by decide +kernel
abbrev y_Md_top : MethodName := ⟨"SmallHarbourModel", "top", "()I"⟩
abbrev b_Md_top : ByteArray := prog_14_method_58_code
theorem mi_Md_top : MI y_Md_top b_Md_top 1 (some .int) 0 := ⟨w_1292, w_13, by decide +kernel, by decide, by decide⟩
theorem mv_Md_top : MV y_Md_top := ⟨w_1291, w_s4_15⟩
theorem d_Md_top_0 : decode b_Md_top 0 = .ok (.aload_n 0, 1) := by decide +kernel
theorem d_Md_top_1 : decode b_Md_top 1 = .ok (.getfield 313, 3) := by decide +kernel
theorem d_Md_top_4 : decode b_Md_top 4 = .ok (.ifCond .ne 7, 3) := by decide +kernel
theorem d_Md_top_7 : decode b_Md_top 7 = .ok (.iconst 0, 1) := by decide +kernel
theorem d_Md_top_8 : decode b_Md_top 8 = .ok (.goto 14, 3) := by decide +kernel
theorem d_Md_top_11 : decode b_Md_top 11 = .ok (.aload_n 0, 1) := by decide +kernel
theorem d_Md_top_12 : decode b_Md_top 12 = .ok (.getfield 135, 3) := by decide +kernel
theorem d_Md_top_15 : decode b_Md_top 15 = .ok (.aload_n 0, 1) := by decide +kernel
theorem d_Md_top_16 : decode b_Md_top 16 = .ok (.getfield 313, 3) := by decide +kernel
theorem d_Md_top_19 : decode b_Md_top 19 = .ok (.iconst 1, 1) := by decide +kernel
theorem d_Md_top_20 : decode b_Md_top 20 = .ok (.isub, 1) := by decide +kernel
theorem d_Md_top_21 : decode b_Md_top 21 = .ok (.iaload, 1) := by decide +kernel
theorem d_Md_top_22 : decode b_Md_top 22 = .ok (.ireturn, 1) := by decide +kernel
abbrev y_Md_partIsThrough : MethodName := ⟨"SmallHarbourModel", "partIsThrough", "()V"⟩
abbrev b_Md_partIsThrough : ByteArray := prog_14_method_61_code
theorem mi_Md_partIsThrough : MI y_Md_partIsThrough b_Md_partIsThrough 1 none 0 := ⟨w_1288, w_13, by decide +kernel, by decide, by decide⟩
theorem mv_Md_partIsThrough : MV y_Md_partIsThrough := ⟨w_1287, w_s4_14⟩
theorem d_Md_partIsThrough_0 : decode b_Md_partIsThrough 0 = .ok (.aload_n 0, 1) := by decide +kernel
theorem d_Md_partIsThrough_1 : decode b_Md_partIsThrough 1 = .ok (.iconst 0, 1) := by decide +kernel
theorem d_Md_partIsThrough_2 : decode b_Md_partIsThrough 2 = .ok (.putfield 331, 3) := by decide +kernel
theorem d_Md_partIsThrough_5 : decode b_Md_partIsThrough 5 = .ok (.aload_n 0, 1) := by decide +kernel
theorem d_Md_partIsThrough_6 : decode b_Md_partIsThrough 6 = .ok (.invokevirtual 316, 3) := by decide +kernel
theorem d_Md_partIsThrough_9 : decode b_Md_partIsThrough 9 = .ok (.bipush 18, 2) := by decide +kernel
theorem d_Md_partIsThrough_11 : decode b_Md_partIsThrough 11 = .ok (.if_icmp .ne 33, 3) := by decide +kernel
theorem d_Md_partIsThrough_14 : decode b_Md_partIsThrough 14 = .ok (.aload_n 0, 1) := by decide +kernel
theorem d_Md_partIsThrough_15 : decode b_Md_partIsThrough 15 = .ok (.dup, 1) := by decide +kernel
theorem d_Md_partIsThrough_16 : decode b_Md_partIsThrough 16 = .ok (.getfield 313, 3) := by decide +kernel
theorem d_Md_partIsThrough_19 : decode b_Md_partIsThrough 19 = .ok (.iconst 1, 1) := by decide +kernel
theorem d_Md_partIsThrough_20 : decode b_Md_partIsThrough 20 = .ok (.isub, 1) := by decide +kernel
theorem d_Md_partIsThrough_21 : decode b_Md_partIsThrough 21 = .ok (.putfield 313, 3) := by decide +kernel
theorem d_Md_partIsThrough_24 : decode b_Md_partIsThrough 24 = .ok (.aload_n 0, 1) := by decide +kernel
theorem d_Md_partIsThrough_25 : decode b_Md_partIsThrough 25 = .ok (.dup, 1) := by decide +kernel
theorem d_Md_partIsThrough_26 : decode b_Md_partIsThrough 26 = .ok (.getfield 328, 3) := by decide +kernel
theorem d_Md_partIsThrough_29 : decode b_Md_partIsThrough 29 = .ok (.iconst 1, 1) := by decide +kernel
theorem d_Md_partIsThrough_30 : decode b_Md_partIsThrough 30 = .ok (.isub, 1) := by decide +kernel
theorem d_Md_partIsThrough_31 : decode b_Md_partIsThrough 31 = .ok (.putfield 328, 3) := by decide +kernel
theorem d_Md_partIsThrough_34 : decode b_Md_partIsThrough 34 = .ok (.aload_n 0, 1) := by decide +kernel
theorem d_Md_partIsThrough_35 : decode b_Md_partIsThrough 35 = .ok (.bipush 18, 2) := by decide +kernel
theorem d_Md_partIsThrough_37 : decode b_Md_partIsThrough 37 = .ok (.iconst 0, 1) := by decide +kernel
theorem d_Md_partIsThrough_38 : decode b_Md_partIsThrough 38 = .ok (.invokevirtual 322, 3) := by decide +kernel
theorem d_Md_partIsThrough_41 : decode b_Md_partIsThrough 41 = .ok (.goto (-36), 3) := by decide +kernel
theorem d_Md_partIsThrough_44 : decode b_Md_partIsThrough 44 = .ok (.return_, 1) := by decide +kernel
abbrev y_Md_push : MethodName := ⟨"SmallHarbourModel", "push", "(I)V"⟩
abbrev b_Md_push : ByteArray := prog_14_method_62_code
theorem mi_Md_push : MI y_Md_push b_Md_push 2 none 1 := ⟨w_1299, w_13, by decide +kernel, by decide, by decide⟩
theorem mv_Md_push : MV y_Md_push := ⟨w_1298, w_s5_0⟩
theorem d_Md_push_0 : decode b_Md_push 0 = .ok (.aload_n 0, 1) := by decide +kernel
theorem d_Md_push_1 : decode b_Md_push 1 = .ok (.getfield 135, 3) := by decide +kernel
theorem d_Md_push_4 : decode b_Md_push 4 = .ok (.aload_n 0, 1) := by decide +kernel
theorem d_Md_push_5 : decode b_Md_push 5 = .ok (.getfield 313, 3) := by decide +kernel
theorem d_Md_push_8 : decode b_Md_push 8 = .ok (.iload_n 1, 1) := by decide +kernel
theorem d_Md_push_9 : decode b_Md_push 9 = .ok (.iastore, 1) := by decide +kernel
theorem d_Md_push_10 : decode b_Md_push 10 = .ok (.aload_n 0, 1) := by decide +kernel
theorem d_Md_push_11 : decode b_Md_push 11 = .ok (.dup, 1) := by decide +kernel
theorem d_Md_push_12 : decode b_Md_push 12 = .ok (.getfield 313, 3) := by decide +kernel
theorem d_Md_push_15 : decode b_Md_push 15 = .ok (.iconst 1, 1) := by decide +kernel
theorem d_Md_push_16 : decode b_Md_push 16 = .ok (.iadd, 1) := by decide +kernel
theorem d_Md_push_17 : decode b_Md_push 17 = .ok (.putfield 313, 3) := by decide +kernel
theorem d_Md_push_20 : decode b_Md_push 20 = .ok (.return_, 1) := by decide +kernel
abbrev y_Md_rankOf : MethodName := ⟨"SmallHarbourModel", "rankOf", "(I)I"⟩
abbrev b_Md_rankOf : ByteArray := prog_14_method_57_code
theorem mi_Md_rankOf : MI y_Md_rankOf b_Md_rankOf 1 (some .int) 1 := ⟨w_1295, w_13, by decide +kernel, by decide, by decide⟩
theorem d_Md_rankOf_0 : decode b_Md_rankOf 0 = .ok (.iload_n 0, 1) := by decide +kernel
theorem d_Md_rankOf_1 : decode b_Md_rankOf 1 = .ok (.bipush 15, 2) := by decide +kernel
theorem d_Md_rankOf_3 : decode b_Md_rankOf 3 = .ok (.if_icmp .eq 9, 3) := by decide +kernel
theorem d_Md_rankOf_6 : decode b_Md_rankOf 6 = .ok (.iload_n 0, 1) := by decide +kernel
theorem d_Md_rankOf_7 : decode b_Md_rankOf 7 = .ok (.bipush 16, 2) := by decide +kernel
theorem d_Md_rankOf_9 : decode b_Md_rankOf 9 = .ok (.if_icmp .ne 7, 3) := by decide +kernel
theorem d_Md_rankOf_12 : decode b_Md_rankOf 12 = .ok (.iconst 1, 1) := by decide +kernel
theorem d_Md_rankOf_13 : decode b_Md_rankOf 13 = .ok (.goto 36, 3) := by decide +kernel
theorem d_Md_rankOf_16 : decode b_Md_rankOf 16 = .ok (.iload_n 0, 1) := by decide +kernel
theorem d_Md_rankOf_17 : decode b_Md_rankOf 17 = .ok (.bipush 10, 2) := by decide +kernel
theorem d_Md_rankOf_19 : decode b_Md_rankOf 19 = .ok (.if_icmp .eq 9, 3) := by decide +kernel
theorem d_Md_rankOf_22 : decode b_Md_rankOf 22 = .ok (.iload_n 0, 1) := by decide +kernel
theorem d_Md_rankOf_23 : decode b_Md_rankOf 23 = .ok (.bipush 11, 2) := by decide +kernel
theorem d_Md_rankOf_25 : decode b_Md_rankOf 25 = .ok (.if_icmp .ne 7, 3) := by decide +kernel
theorem d_Md_rankOf_28 : decode b_Md_rankOf 28 = .ok (.iconst 2, 1) := by decide +kernel
theorem d_Md_rankOf_29 : decode b_Md_rankOf 29 = .ok (.goto 20, 3) := by decide +kernel
theorem d_Md_rankOf_32 : decode b_Md_rankOf 32 = .ok (.iload_n 0, 1) := by decide +kernel
theorem d_Md_rankOf_33 : decode b_Md_rankOf 33 = .ok (.bipush 12, 2) := by decide +kernel
theorem d_Md_rankOf_35 : decode b_Md_rankOf 35 = .ok (.if_icmp .lt 13, 3) := by decide +kernel
theorem d_Md_rankOf_38 : decode b_Md_rankOf 38 = .ok (.iload_n 0, 1) := by decide +kernel
theorem d_Md_rankOf_39 : decode b_Md_rankOf 39 = .ok (.bipush 14, 2) := by decide +kernel
theorem d_Md_rankOf_41 : decode b_Md_rankOf 41 = .ok (.if_icmp .gt 7, 3) := by decide +kernel
theorem d_Md_rankOf_44 : decode b_Md_rankOf 44 = .ok (.iconst 3, 1) := by decide +kernel
theorem d_Md_rankOf_45 : decode b_Md_rankOf 45 = .ok (.goto 4, 3) := by decide +kernel
theorem d_Md_rankOf_48 : decode b_Md_rankOf 48 = .ok (.iconst 0, 1) := by decide +kernel
theorem d_Md_rankOf_49 : decode b_Md_rankOf 49 = .ok (.ireturn, 1) := by decide +kernel
abbrev y_Md_reduce : MethodName := ⟨"SmallHarbourModel", "reduce", "(I)V"⟩
abbrev b_Md_reduce : ByteArray := prog_14_method_59_code
theorem mi_Md_reduce : MI y_Md_reduce b_Md_reduce 2 none 1 := ⟨w_1307, w_13, by decide +kernel, by decide, by decide⟩
theorem mv_Md_reduce : MV y_Md_reduce := ⟨w_1306, w_s5_2⟩
theorem d_Md_reduce_0 : decode b_Md_reduce 0 = .ok (.aload_n 0, 1) := by decide +kernel
theorem d_Md_reduce_1 : decode b_Md_reduce 1 = .ok (.invokevirtual 316, 3) := by decide +kernel
theorem d_Md_reduce_4 : decode b_Md_reduce 4 = .ok (.invokestatic 319, 3) := by decide +kernel
theorem d_Md_reduce_7 : decode b_Md_reduce 7 = .ok (.iload_n 1, 1) := by decide +kernel
theorem d_Md_reduce_8 : decode b_Md_reduce 8 = .ok (.if_icmp .lt 30, 3) := by decide +kernel
theorem d_Md_reduce_11 : decode b_Md_reduce 11 = .ok (.aload_n 0, 1) := by decide +kernel
theorem d_Md_reduce_12 : decode b_Md_reduce 12 = .ok (.dup, 1) := by decide +kernel
theorem d_Md_reduce_13 : decode b_Md_reduce 13 = .ok (.getfield 313, 3) := by decide +kernel
theorem d_Md_reduce_16 : decode b_Md_reduce 16 = .ok (.iconst 1, 1) := by decide +kernel
theorem d_Md_reduce_17 : decode b_Md_reduce 17 = .ok (.isub, 1) := by decide +kernel
theorem d_Md_reduce_18 : decode b_Md_reduce 18 = .ok (.putfield 313, 3) := by decide +kernel
theorem d_Md_reduce_21 : decode b_Md_reduce 21 = .ok (.aload_n 0, 1) := by decide +kernel
theorem d_Md_reduce_22 : decode b_Md_reduce 22 = .ok (.aload_n 0, 1) := by decide +kernel
theorem d_Md_reduce_23 : decode b_Md_reduce 23 = .ok (.getfield 135, 3) := by decide +kernel
theorem d_Md_reduce_26 : decode b_Md_reduce 26 = .ok (.aload_n 0, 1) := by decide +kernel
theorem d_Md_reduce_27 : decode b_Md_reduce 27 = .ok (.getfield 313, 3) := by decide +kernel
theorem d_Md_reduce_30 : decode b_Md_reduce 30 = .ok (.iaload, 1) := by decide +kernel
theorem d_Md_reduce_31 : decode b_Md_reduce 31 = .ok (.iconst 0, 1) := by decide +kernel
theorem d_Md_reduce_32 : decode b_Md_reduce 32 = .ok (.invokevirtual 322, 3) := by decide +kernel
theorem d_Md_reduce_35 : decode b_Md_reduce 35 = .ok (.goto (-35), 3) := by decide +kernel
theorem d_Md_reduce_38 : decode b_Md_reduce 38 = .ok (.return_, 1) := by decide +kernel
abbrev y_Md_through : MethodName := ⟨"SmallHarbourModel", "through", "()I"⟩
abbrev b_Md_through : ByteArray := prog_14_method_60_code
theorem mi_Md_through : MI y_Md_through b_Md_through 1 (some .int) 0 := ⟨w_1311, w_13, by decide +kernel, by decide, by decide⟩
theorem mv_Md_through : MV y_Md_through := ⟨w_1310, w_s5_3⟩
theorem d_Md_through_0 : decode b_Md_through 0 = .ok (.aload_n 0, 1) := by decide +kernel
theorem d_Md_through_1 : decode b_Md_through 1 = .ok (.iconst 1, 1) := by decide +kernel
theorem d_Md_through_2 : decode b_Md_through 2 = .ok (.invokevirtual 325, 3) := by decide +kernel
theorem d_Md_through_5 : decode b_Md_through 5 = .ok (.aload_n 0, 1) := by decide +kernel
theorem d_Md_through_6 : decode b_Md_through 6 = .ok (.invokevirtual 316, 3) := by decide +kernel
theorem d_Md_through_9 : decode b_Md_through 9 = .ok (.bipush 7, 2) := by decide +kernel
theorem d_Md_through_11 : decode b_Md_through 11 = .ok (.if_icmp .ne 38, 3) := by decide +kernel
theorem d_Md_through_14 : decode b_Md_through 14 = .ok (.aload_n 0, 1) := by decide +kernel
theorem d_Md_through_15 : decode b_Md_through 15 = .ok (.dup, 1) := by decide +kernel
theorem d_Md_through_16 : decode b_Md_through 16 = .ok (.getfield 313, 3) := by decide +kernel
theorem d_Md_through_19 : decode b_Md_through 19 = .ok (.iconst 1, 1) := by decide +kernel
theorem d_Md_through_20 : decode b_Md_through 20 = .ok (.isub, 1) := by decide +kernel
theorem d_Md_through_21 : decode b_Md_through 21 = .ok (.putfield 313, 3) := by decide +kernel
theorem d_Md_through_24 : decode b_Md_through 24 = .ok (.aload_n 0, 1) := by decide +kernel
theorem d_Md_through_25 : decode b_Md_through 25 = .ok (.dup, 1) := by decide +kernel
theorem d_Md_through_26 : decode b_Md_through 26 = .ok (.getfield 328, 3) := by decide +kernel
theorem d_Md_through_29 : decode b_Md_through 29 = .ok (.iconst 1, 1) := by decide +kernel
theorem d_Md_through_30 : decode b_Md_through 30 = .ok (.isub, 1) := by decide +kernel
theorem d_Md_through_31 : decode b_Md_through 31 = .ok (.putfield 328, 3) := by decide +kernel
theorem d_Md_through_34 : decode b_Md_through 34 = .ok (.aload_n 0, 1) := by decide +kernel
theorem d_Md_through_35 : decode b_Md_through 35 = .ok (.bipush 19, 2) := by decide +kernel
theorem d_Md_through_37 : decode b_Md_through 37 = .ok (.iconst 0, 1) := by decide +kernel
theorem d_Md_through_38 : decode b_Md_through 38 = .ok (.invokevirtual 322, 3) := by decide +kernel
theorem d_Md_through_41 : decode b_Md_through 41 = .ok (.aload_n 0, 1) := by decide +kernel
theorem d_Md_through_42 : decode b_Md_through 42 = .ok (.iconst 1, 1) := by decide +kernel
theorem d_Md_through_43 : decode b_Md_through 43 = .ok (.invokevirtual 325, 3) := by decide +kernel
theorem d_Md_through_46 : decode b_Md_through 46 = .ok (.goto (-41), 3) := by decide +kernel
theorem d_Md_through_49 : decode b_Md_through 49 = .ok (.aload_n 0, 1) := by decide +kernel
theorem d_Md_through_50 : decode b_Md_through 50 = .ok (.invokevirtual 316, 3) := by decide +kernel
theorem d_Md_through_53 : decode b_Md_through 53 = .ok (.ireturn, 1) := by decide +kernel
abbrev y_Md_behind : MethodName := ⟨"SmallHarbourModel", "behind", "()I"⟩
abbrev b_Md_behind : ByteArray := prog_14_method_65_code
theorem mi_Md_behind : MI y_Md_behind b_Md_behind 3 (some .int) 0 := ⟨w_1303, w_13, by decide +kernel, by decide, by decide⟩
theorem mv_Md_behind : MV y_Md_behind := ⟨w_1302, w_s5_1⟩
theorem d_Md_behind_0 : decode b_Md_behind 0 = .ok (.aload_n 0, 1) := by decide +kernel
theorem d_Md_behind_1 : decode b_Md_behind 1 = .ok (.getfield 288, 3) := by decide +kernel
theorem d_Md_behind_4 : decode b_Md_behind 4 = .ok (.bipush 10, 2) := by decide +kernel
theorem d_Md_behind_6 : decode b_Md_behind 6 = .ok (.bipush 16, 2) := by decide +kernel
theorem d_Md_behind_8 : decode b_Md_behind 8 = .ok (.invokestatic 144, 3) := by decide +kernel
theorem d_Md_behind_11 : decode b_Md_behind 11 = .ok (.ifCond .eq 77, 3) := by decide +kernel
theorem d_Md_behind_14 : decode b_Md_behind 14 = .ok (.aload_n 0, 1) := by decide +kernel
theorem d_Md_behind_15 : decode b_Md_behind 15 = .ok (.aload_n 0, 1) := by decide +kernel
theorem d_Md_behind_16 : decode b_Md_behind 16 = .ok (.getfield 288, 3) := by decide +kernel
theorem d_Md_behind_19 : decode b_Md_behind 19 = .ok (.invokestatic 319, 3) := by decide +kernel
theorem d_Md_behind_22 : decode b_Md_behind 22 = .ok (.iconst 1, 1) := by decide +kernel
theorem d_Md_behind_23 : decode b_Md_behind 23 = .ok (.if_icmp .ne 7, 3) := by decide +kernel
theorem d_Md_behind_26 : decode b_Md_behind 26 = .ok (.iconst 2, 1) := by decide +kernel
theorem d_Md_behind_27 : decode b_Md_behind 27 = .ok (.goto 10, 3) := by decide +kernel
theorem d_Md_behind_30 : decode b_Md_behind 30 = .ok (.aload_n 0, 1) := by decide +kernel
theorem d_Md_behind_31 : decode b_Md_behind 31 = .ok (.getfield 288, 3) := by decide +kernel
theorem d_Md_behind_34 : decode b_Md_behind 34 = .ok (.invokestatic 319, 3) := by decide +kernel
theorem d_Md_behind_37 : decode b_Md_behind 37 = .ok (.invokevirtual 325, 3) := by decide +kernel
theorem d_Md_behind_40 : decode b_Md_behind 40 = .ok (.aload_n 0, 1) := by decide +kernel
theorem d_Md_behind_41 : decode b_Md_behind 41 = .ok (.getfield 288, 3) := by decide +kernel
theorem d_Md_behind_44 : decode b_Md_behind 44 = .ok (.invokestatic 319, 3) := by decide +kernel
theorem d_Md_behind_47 : decode b_Md_behind 47 = .ok (.iconst 1, 1) := by decide +kernel
theorem d_Md_behind_48 : decode b_Md_behind 48 = .ok (.if_icmp .ne 16, 3) := by decide +kernel
theorem d_Md_behind_51 : decode b_Md_behind 51 = .ok (.aload_n 0, 1) := by decide +kernel
theorem d_Md_behind_52 : decode b_Md_behind 52 = .ok (.invokevirtual 316, 3) := by decide +kernel
theorem d_Md_behind_55 : decode b_Md_behind 55 = .ok (.invokestatic 319, 3) := by decide +kernel
theorem d_Md_behind_58 : decode b_Md_behind 58 = .ok (.iconst 1, 1) := by decide +kernel
theorem d_Md_behind_59 : decode b_Md_behind 59 = .ok (.if_icmp .ne 5, 3) := by decide +kernel
theorem d_Md_behind_62 : decode b_Md_behind 62 = .ok (.iconst 1, 1) := by decide +kernel
theorem d_Md_behind_63 : decode b_Md_behind 63 = .ok (.ireturn, 1) := by decide +kernel
theorem d_Md_behind_64 : decode b_Md_behind 64 = .ok (.aload_n 0, 1) := by decide +kernel
theorem d_Md_behind_65 : decode b_Md_behind 65 = .ok (.invokevirtual 339, 3) := by decide +kernel
theorem d_Md_behind_68 : decode b_Md_behind 68 = .ok (.ifCond .eq 5, 3) := by decide +kernel
theorem d_Md_behind_71 : decode b_Md_behind 71 = .ok (.iconst 3, 1) := by decide +kernel
theorem d_Md_behind_72 : decode b_Md_behind 72 = .ok (.ireturn, 1) := by decide +kernel
theorem d_Md_behind_73 : decode b_Md_behind 73 = .ok (.aload_n 0, 1) := by decide +kernel
theorem d_Md_behind_74 : decode b_Md_behind 74 = .ok (.aload_n 0, 1) := by decide +kernel
theorem d_Md_behind_75 : decode b_Md_behind 75 = .ok (.getfield 288, 3) := by decide +kernel
theorem d_Md_behind_78 : decode b_Md_behind 78 = .ok (.invokevirtual 345, 3) := by decide +kernel
theorem d_Md_behind_81 : decode b_Md_behind 81 = .ok (.aload_n 0, 1) := by decide +kernel
theorem d_Md_behind_82 : decode b_Md_behind 82 = .ok (.iconst 1, 1) := by decide +kernel
theorem d_Md_behind_83 : decode b_Md_behind 83 = .ok (.putfield 331, 3) := by decide +kernel
theorem d_Md_behind_86 : decode b_Md_behind 86 = .ok (.iconst 0, 1) := by decide +kernel
theorem d_Md_behind_87 : decode b_Md_behind 87 = .ok (.ireturn, 1) := by decide +kernel
theorem d_Md_behind_88 : decode b_Md_behind 88 = .ok (.aload_n 0, 1) := by decide +kernel
theorem d_Md_behind_89 : decode b_Md_behind 89 = .ok (.getfield 288, 3) := by decide +kernel
theorem d_Md_behind_92 : decode b_Md_behind 92 = .ok (.bipush 9, 2) := by decide +kernel
theorem d_Md_behind_94 : decode b_Md_behind 94 = .ok (.if_icmp .eq 23, 3) := by decide +kernel
theorem d_Md_behind_97 : decode b_Md_behind 97 = .ok (.aload_n 0, 1) := by decide +kernel
theorem d_Md_behind_98 : decode b_Md_behind 98 = .ok (.getfield 288, 3) := by decide +kernel
theorem d_Md_behind_101 : decode b_Md_behind 101 = .ok (.bipush 6, 2) := by decide +kernel
theorem d_Md_behind_103 : decode b_Md_behind 103 = .ok (.if_icmp .eq 14, 3) := by decide +kernel
theorem d_Md_behind_106 : decode b_Md_behind 106 = .ok (.aload_n 0, 1) := by decide +kernel
theorem d_Md_behind_107 : decode b_Md_behind 107 = .ok (.getfield 288, 3) := by decide +kernel
theorem d_Md_behind_110 : decode b_Md_behind 110 = .ok (.bipush 7, 2) := by decide +kernel
theorem d_Md_behind_112 : decode b_Md_behind 112 = .ok (.if_icmp .eq 5, 3) := by decide +kernel
theorem d_Md_behind_115 : decode b_Md_behind 115 = .ok (.iconst 1, 1) := by decide +kernel
theorem d_Md_behind_116 : decode b_Md_behind 116 = .ok (.ireturn, 1) := by decide +kernel
theorem d_Md_behind_117 : decode b_Md_behind 117 = .ok (.aload_n 0, 1) := by decide +kernel
theorem d_Md_behind_118 : decode b_Md_behind 118 = .ok (.invokevirtual 348, 3) := by decide +kernel
theorem d_Md_behind_121 : decode b_Md_behind 121 = .ok (.istore_n 1, 1) := by decide +kernel
theorem d_Md_behind_122 : decode b_Md_behind 122 = .ok (.aload_n 0, 1) := by decide +kernel
theorem d_Md_behind_123 : decode b_Md_behind 123 = .ok (.getfield 288, 3) := by decide +kernel
theorem d_Md_behind_126 : decode b_Md_behind 126 = .ok (.bipush 9, 2) := by decide +kernel
theorem d_Md_behind_128 : decode b_Md_behind 128 = .ok (.if_icmp .ne 8, 3) := by decide +kernel
theorem d_Md_behind_131 : decode b_Md_behind 131 = .ok (.bipush 8, 2) := by decide +kernel
theorem d_Md_behind_133 : decode b_Md_behind 133 = .ok (.goto 9, 3) := by decide +kernel
theorem d_Md_behind_136 : decode b_Md_behind 136 = .ok (.aload_n 0, 1) := by decide +kernel
theorem d_Md_behind_137 : decode b_Md_behind 137 = .ok (.getfield 288, 3) := by decide +kernel
theorem d_Md_behind_140 : decode b_Md_behind 140 = .ok (.iconst 1, 1) := by decide +kernel
theorem d_Md_behind_141 : decode b_Md_behind 141 = .ok (.isub, 1) := by decide +kernel
theorem d_Md_behind_142 : decode b_Md_behind 142 = .ok (.istore_n 2, 1) := by decide +kernel
theorem d_Md_behind_143 : decode b_Md_behind 143 = .ok (.iload_n 1, 1) := by decide +kernel
theorem d_Md_behind_144 : decode b_Md_behind 144 = .ok (.iload_n 2, 1) := by decide +kernel
theorem d_Md_behind_145 : decode b_Md_behind 145 = .ok (.if_icmp .eq 5, 3) := by decide +kernel
theorem d_Md_behind_148 : decode b_Md_behind 148 = .ok (.iconst 1, 1) := by decide +kernel
theorem d_Md_behind_149 : decode b_Md_behind 149 = .ok (.ireturn, 1) := by decide +kernel
theorem d_Md_behind_150 : decode b_Md_behind 150 = .ok (.aload_n 0, 1) := by decide +kernel
theorem d_Md_behind_151 : decode b_Md_behind 151 = .ok (.invokevirtual 339, 3) := by decide +kernel
theorem d_Md_behind_154 : decode b_Md_behind 154 = .ok (.ifCond .eq 5, 3) := by decide +kernel
theorem d_Md_behind_157 : decode b_Md_behind 157 = .ok (.iconst 3, 1) := by decide +kernel
theorem d_Md_behind_158 : decode b_Md_behind 158 = .ok (.ireturn, 1) := by decide +kernel
theorem d_Md_behind_159 : decode b_Md_behind 159 = .ok (.aload_n 0, 1) := by decide +kernel
theorem d_Md_behind_160 : decode b_Md_behind 160 = .ok (.getfield 288, 3) := by decide +kernel
theorem d_Md_behind_163 : decode b_Md_behind 163 = .ok (.bipush 9, 2) := by decide +kernel
theorem d_Md_behind_165 : decode b_Md_behind 165 = .ok (.if_icmp .ne 30, 3) := by decide +kernel
theorem d_Md_behind_168 : decode b_Md_behind 168 = .ok (.aload_n 0, 1) := by decide +kernel
theorem d_Md_behind_169 : decode b_Md_behind 169 = .ok (.dup, 1) := by decide +kernel
theorem d_Md_behind_170 : decode b_Md_behind 170 = .ok (.getfield 313, 3) := by decide +kernel
theorem d_Md_behind_173 : decode b_Md_behind 173 = .ok (.iconst 1, 1) := by decide +kernel
theorem d_Md_behind_174 : decode b_Md_behind 174 = .ok (.isub, 1) := by decide +kernel
theorem d_Md_behind_175 : decode b_Md_behind 175 = .ok (.putfield 313, 3) := by decide +kernel
theorem d_Md_behind_178 : decode b_Md_behind 178 = .ok (.aload_n 0, 1) := by decide +kernel
theorem d_Md_behind_179 : decode b_Md_behind 179 = .ok (.dup, 1) := by decide +kernel
theorem d_Md_behind_180 : decode b_Md_behind 180 = .ok (.getfield 328, 3) := by decide +kernel
theorem d_Md_behind_183 : decode b_Md_behind 183 = .ok (.iconst 1, 1) := by decide +kernel
theorem d_Md_behind_184 : decode b_Md_behind 184 = .ok (.isub, 1) := by decide +kernel
theorem d_Md_behind_185 : decode b_Md_behind 185 = .ok (.putfield 328, 3) := by decide +kernel
theorem d_Md_behind_188 : decode b_Md_behind 188 = .ok (.aload_n 0, 1) := by decide +kernel
theorem d_Md_behind_189 : decode b_Md_behind 189 = .ok (.invokevirtual 342, 3) := by decide +kernel
theorem d_Md_behind_192 : decode b_Md_behind 192 = .ok (.goto 23, 3) := by decide +kernel
theorem d_Md_behind_195 : decode b_Md_behind 195 = .ok (.aload_n 0, 1) := by decide +kernel
theorem d_Md_behind_196 : decode b_Md_behind 196 = .ok (.getfield 135, 3) := by decide +kernel
theorem d_Md_behind_199 : decode b_Md_behind 199 = .ok (.aload_n 0, 1) := by decide +kernel
theorem d_Md_behind_200 : decode b_Md_behind 200 = .ok (.getfield 313, 3) := by decide +kernel
theorem d_Md_behind_203 : decode b_Md_behind 203 = .ok (.iconst 1, 1) := by decide +kernel
theorem d_Md_behind_204 : decode b_Md_behind 204 = .ok (.isub, 1) := by decide +kernel
theorem d_Md_behind_205 : decode b_Md_behind 205 = .ok (.aload_n 0, 1) := by decide +kernel
theorem d_Md_behind_206 : decode b_Md_behind 206 = .ok (.getfield 288, 3) := by decide +kernel
theorem d_Md_behind_209 : decode b_Md_behind 209 = .ok (.iastore, 1) := by decide +kernel
theorem d_Md_behind_210 : decode b_Md_behind 210 = .ok (.aload_n 0, 1) := by decide +kernel
theorem d_Md_behind_211 : decode b_Md_behind 211 = .ok (.iconst 1, 1) := by decide +kernel
theorem d_Md_behind_212 : decode b_Md_behind 212 = .ok (.putfield 331, 3) := by decide +kernel
theorem d_Md_behind_215 : decode b_Md_behind 215 = .ok (.iconst 0, 1) := by decide +kernel
theorem d_Md_behind_216 : decode b_Md_behind 216 = .ok (.ireturn, 1) := by decide +kernel
abbrev y_Md_berth : MethodName := ⟨"SmallHarbourModel", "berth", "(II)I"⟩
abbrev b_Md_berth : ByteArray := prog_14_method_7_code
theorem mi_Md_berth : MI y_Md_berth b_Md_berth 3 (some .int) 2 := ⟨w_1059, w_13, by decide +kernel, by decide, by decide⟩
theorem mv_Md_berth : MV y_Md_berth := ⟨w_1057, w_1058⟩
theorem d_Md_berth_0 : decode b_Md_berth 0 = .ok (.iload_n 1, 1) := by decide +kernel
theorem d_Md_berth_1 : decode b_Md_berth 1 = .ok (.bipush 10, 2) := by decide +kernel
theorem d_Md_berth_3 : decode b_Md_berth 3 = .ok (.sipush 400, 3) := by decide +kernel
theorem d_Md_berth_6 : decode b_Md_berth 6 = .ok (.invokestatic 144, 3) := by decide +kernel
theorem d_Md_berth_9 : decode b_Md_berth 9 = .ok (.ifCond .eq 22, 3) := by decide +kernel
theorem d_Md_berth_12 : decode b_Md_berth 12 = .ok (.iload_n 2, 1) := by decide +kernel
theorem d_Md_berth_13 : decode b_Md_berth 13 = .ok (.iconst 0, 1) := by decide +kernel
theorem d_Md_berth_14 : decode b_Md_berth 14 = .ok (.bipush 60, 2) := by decide +kernel
theorem d_Md_berth_16 : decode b_Md_berth 16 = .ok (.invokestatic 144, 3) := by decide +kernel
theorem d_Md_berth_19 : decode b_Md_berth 19 = .ok (.ifCond .eq 12, 3) := by decide +kernel
theorem d_Md_berth_22 : decode b_Md_berth 22 = .ok (.aload_n 0, 1) := by decide +kernel
theorem d_Md_berth_23 : decode b_Md_berth 23 = .ok (.getfield 155, 3) := by decide +kernel
theorem d_Md_berth_26 : decode b_Md_berth 26 = .ok (.bipush 10, 2) := by decide +kernel
theorem d_Md_berth_28 : decode b_Md_berth 28 = .ok (.if_icmp .ne 5, 3) := by decide +kernel
theorem d_Md_berth_31 : decode b_Md_berth 31 = .ok (.iconst (-1), 1) := by decide +kernel
theorem d_Md_berth_32 : decode b_Md_berth 32 = .ok (.ireturn, 1) := by decide +kernel
theorem d_Md_berth_33 : decode b_Md_berth 33 = .ok (.aload_n 0, 1) := by decide +kernel
theorem d_Md_berth_34 : decode b_Md_berth 34 = .ok (.getfield 17, 3) := by decide +kernel
theorem d_Md_berth_37 : decode b_Md_berth 37 = .ok (.aload_n 0, 1) := by decide +kernel
theorem d_Md_berth_38 : decode b_Md_berth 38 = .ok (.getfield 155, 3) := by decide +kernel
theorem d_Md_berth_41 : decode b_Md_berth 41 = .ok (.iload_n 1, 1) := by decide +kernel
theorem d_Md_berth_42 : decode b_Md_berth 42 = .ok (.iastore, 1) := by decide +kernel
theorem d_Md_berth_43 : decode b_Md_berth 43 = .ok (.aload_n 0, 1) := by decide +kernel
theorem d_Md_berth_44 : decode b_Md_berth 44 = .ok (.getfield 20, 3) := by decide +kernel
theorem d_Md_berth_47 : decode b_Md_berth 47 = .ok (.aload_n 0, 1) := by decide +kernel
theorem d_Md_berth_48 : decode b_Md_berth 48 = .ok (.getfield 155, 3) := by decide +kernel
theorem d_Md_berth_51 : decode b_Md_berth 51 = .ok (.iload_n 2, 1) := by decide +kernel
theorem d_Md_berth_52 : decode b_Md_berth 52 = .ok (.iastore, 1) := by decide +kernel
theorem d_Md_berth_53 : decode b_Md_berth 53 = .ok (.aload_n 0, 1) := by decide +kernel
theorem d_Md_berth_54 : decode b_Md_berth 54 = .ok (.dup, 1) := by decide +kernel
theorem d_Md_berth_55 : decode b_Md_berth 55 = .ok (.getfield 155, 3) := by decide +kernel
theorem d_Md_berth_58 : decode b_Md_berth 58 = .ok (.iconst 1, 1) := by decide +kernel
theorem d_Md_berth_59 : decode b_Md_berth 59 = .ok (.iadd, 1) := by decide +kernel
theorem d_Md_berth_60 : decode b_Md_berth 60 = .ok (.putfield 155, 3) := by decide +kernel
theorem d_Md_berth_63 : decode b_Md_berth 63 = .ok (.aload_n 0, 1) := by decide +kernel
theorem d_Md_berth_64 : decode b_Md_berth 64 = .ok (.getfield 155, 3) := by decide +kernel
theorem d_Md_berth_67 : decode b_Md_berth 67 = .ok (.iconst 1, 1) := by decide +kernel
theorem d_Md_berth_68 : decode b_Md_berth 68 = .ok (.isub, 1) := by decide +kernel
theorem d_Md_berth_69 : decode b_Md_berth 69 = .ok (.ireturn, 1) := by decide +kernel
abbrev y_Md_two : MethodName := ⟨"SmallHarbourModel", "two", "(III)I"⟩
abbrev b_Md_two : ByteArray := prog_14_method_69_code
theorem mi_Md_two : MI y_Md_two b_Md_two 3 (some .int) 3 := ⟨w_1171, w_13, by decide +kernel, by decide, by decide⟩
theorem d_Md_two_0 : decode b_Md_two 0 = .ok (.iload_n 0, 1) := by decide +kernel
theorem d_Md_two_1 : decode b_Md_two 1 = .ok (.tableswitch 86 10 15 #[39, 43, 47, 51, 63, 75], 39) := by decide +kernel
theorem d_Md_two_40 : decode b_Md_two 40 = .ok (.iload_n 1, 1) := by decide +kernel
theorem d_Md_two_41 : decode b_Md_two 41 = .ok (.iload_n 2, 1) := by decide +kernel
theorem d_Md_two_42 : decode b_Md_two 42 = .ok (.iadd, 1) := by decide +kernel
theorem d_Md_two_43 : decode b_Md_two 43 = .ok (.ireturn, 1) := by decide +kernel
theorem d_Md_two_44 : decode b_Md_two 44 = .ok (.iload_n 1, 1) := by decide +kernel
theorem d_Md_two_45 : decode b_Md_two 45 = .ok (.iload_n 2, 1) := by decide +kernel
theorem d_Md_two_46 : decode b_Md_two 46 = .ok (.isub, 1) := by decide +kernel
theorem d_Md_two_47 : decode b_Md_two 47 = .ok (.ireturn, 1) := by decide +kernel
theorem d_Md_two_48 : decode b_Md_two 48 = .ok (.iload_n 1, 1) := by decide +kernel
theorem d_Md_two_49 : decode b_Md_two 49 = .ok (.iload_n 2, 1) := by decide +kernel
theorem d_Md_two_50 : decode b_Md_two 50 = .ok (.imul, 1) := by decide +kernel
theorem d_Md_two_51 : decode b_Md_two 51 = .ok (.ireturn, 1) := by decide +kernel
theorem d_Md_two_52 : decode b_Md_two 52 = .ok (.iload_n 2, 1) := by decide +kernel
theorem d_Md_two_53 : decode b_Md_two 53 = .ok (.ifCond .ne 7, 3) := by decide +kernel
theorem d_Md_two_56 : decode b_Md_two 56 = .ok (.iconst 0, 1) := by decide +kernel
theorem d_Md_two_57 : decode b_Md_two 57 = .ok (.goto 6, 3) := by decide +kernel
theorem d_Md_two_60 : decode b_Md_two 60 = .ok (.iload_n 1, 1) := by decide +kernel
theorem d_Md_two_61 : decode b_Md_two 61 = .ok (.iload_n 2, 1) := by decide +kernel
theorem d_Md_two_62 : decode b_Md_two 62 = .ok (.idiv, 1) := by decide +kernel
theorem d_Md_two_63 : decode b_Md_two 63 = .ok (.ireturn, 1) := by decide +kernel
theorem d_Md_two_64 : decode b_Md_two 64 = .ok (.iload_n 2, 1) := by decide +kernel
theorem d_Md_two_65 : decode b_Md_two 65 = .ok (.ifCond .ne 7, 3) := by decide +kernel
theorem d_Md_two_68 : decode b_Md_two 68 = .ok (.iconst 0, 1) := by decide +kernel
theorem d_Md_two_69 : decode b_Md_two 69 = .ok (.goto 6, 3) := by decide +kernel
theorem d_Md_two_72 : decode b_Md_two 72 = .ok (.iload_n 1, 1) := by decide +kernel
theorem d_Md_two_73 : decode b_Md_two 73 = .ok (.iload_n 2, 1) := by decide +kernel
theorem d_Md_two_74 : decode b_Md_two 74 = .ok (.irem, 1) := by decide +kernel
theorem d_Md_two_75 : decode b_Md_two 75 = .ok (.ireturn, 1) := by decide +kernel
theorem d_Md_two_76 : decode b_Md_two 76 = .ok (.iload_n 1, 1) := by decide +kernel
theorem d_Md_two_77 : decode b_Md_two 77 = .ok (.iload_n 2, 1) := by decide +kernel
theorem d_Md_two_78 : decode b_Md_two 78 = .ok (.if_icmp .ge 7, 3) := by decide +kernel
theorem d_Md_two_81 : decode b_Md_two 81 = .ok (.iconst 1, 1) := by decide +kernel
theorem d_Md_two_82 : decode b_Md_two 82 = .ok (.goto 4, 3) := by decide +kernel
theorem d_Md_two_85 : decode b_Md_two 85 = .ok (.iconst 0, 1) := by decide +kernel
theorem d_Md_two_86 : decode b_Md_two 86 = .ok (.ireturn, 1) := by decide +kernel
theorem d_Md_two_87 : decode b_Md_two 87 = .ok (.iload_n 1, 1) := by decide +kernel
theorem d_Md_two_88 : decode b_Md_two 88 = .ok (.iload_n 2, 1) := by decide +kernel
theorem d_Md_two_89 : decode b_Md_two 89 = .ok (.if_icmp .ne 7, 3) := by decide +kernel
theorem d_Md_two_92 : decode b_Md_two 92 = .ok (.iconst 1, 1) := by decide +kernel
theorem d_Md_two_93 : decode b_Md_two 93 = .ok (.goto 4, 3) := by decide +kernel
theorem d_Md_two_96 : decode b_Md_two 96 = .ok (.iconst 0, 1) := by decide +kernel
theorem d_Md_two_97 : decode b_Md_two 97 = .ok (.ireturn, 1) := by decide +kernel
abbrev y_Md_work : MethodName := ⟨"SmallHarbourModel", "work", "(IIII)I"⟩
abbrev b_Md_work : ByteArray := prog_14_method_70_code
theorem mi_Md_work : MI y_Md_work b_Md_work 8 (some .int) 4 := ⟨w_1168, w_13, by decide +kernel, by decide, by decide⟩
theorem mv_Md_work : MV y_Md_work := ⟨w_1167, w_s4_3⟩
theorem d_Md_work_0 : decode b_Md_work 0 = .ok (.iconst 0, 1) := by decide +kernel
theorem d_Md_work_1 : decode b_Md_work 1 = .ok (.istore 5, 2) := by decide +kernel
theorem d_Md_work_3 : decode b_Md_work 3 = .ok (.aload_n 0, 1) := by decide +kernel
theorem d_Md_work_4 : decode b_Md_work 4 = .ok (.getfield 120, 3) := by decide +kernel
theorem d_Md_work_7 : decode b_Md_work 7 = .ok (.iload_n 1, 1) := by decide +kernel
theorem d_Md_work_8 : decode b_Md_work 8 = .ok (.iaload, 1) := by decide +kernel
theorem d_Md_work_9 : decode b_Md_work 9 = .ok (.istore 6, 2) := by decide +kernel
theorem d_Md_work_11 : decode b_Md_work 11 = .ok (.iload 6, 2) := by decide +kernel
theorem d_Md_work_13 : decode b_Md_work 13 = .ok (.aload_n 0, 1) := by decide +kernel
theorem d_Md_work_14 : decode b_Md_work 14 = .ok (.getfield 120, 3) := by decide +kernel
theorem d_Md_work_17 : decode b_Md_work 17 = .ok (.iload_n 1, 1) := by decide +kernel
theorem d_Md_work_18 : decode b_Md_work 18 = .ok (.iconst 1, 1) := by decide +kernel
theorem d_Md_work_19 : decode b_Md_work 19 = .ok (.iadd, 1) := by decide +kernel
theorem d_Md_work_20 : decode b_Md_work 20 = .ok (.iaload, 1) := by decide +kernel
theorem d_Md_work_21 : decode b_Md_work 21 = .ok (.if_icmp .ge 190, 3) := by decide +kernel
theorem d_Md_work_24 : decode b_Md_work 24 = .ok (.aload_n 0, 1) := by decide +kernel
theorem d_Md_work_25 : decode b_Md_work 25 = .ok (.getfield 123, 3) := by decide +kernel
theorem d_Md_work_28 : decode b_Md_work 28 = .ok (.iload 6, 2) := by decide +kernel
theorem d_Md_work_30 : decode b_Md_work 30 = .ok (.iaload, 1) := by decide +kernel
theorem d_Md_work_31 : decode b_Md_work 31 = .ok (.istore 7, 2) := by decide +kernel
theorem d_Md_work_33 : decode b_Md_work 33 = .ok (.iload 7, 2) := by decide +kernel
theorem d_Md_work_35 : decode b_Md_work 35 = .ok (.iconst 5, 1) := by decide +kernel
theorem d_Md_work_36 : decode b_Md_work 36 = .ok (.if_icmp .ge 54, 3) := by decide +kernel
theorem d_Md_work_39 : decode b_Md_work 39 = .ok (.aload_n 0, 1) := by decide +kernel
theorem d_Md_work_40 : decode b_Md_work 40 = .ok (.getfield 138, 3) := by decide +kernel
theorem d_Md_work_43 : decode b_Md_work 43 = .ok (.iload 5, 2) := by decide +kernel
theorem d_Md_work_45 : decode b_Md_work 45 = .ok (.iload 7, 2) := by decide +kernel
theorem d_Md_work_47 : decode b_Md_work 47 = .ok (.iconst 1, 1) := by decide +kernel
theorem d_Md_work_48 : decode b_Md_work 48 = .ok (.if_icmp .ne 7, 3) := by decide +kernel
theorem d_Md_work_51 : decode b_Md_work 51 = .ok (.iload_n 2, 1) := by decide +kernel
theorem d_Md_work_52 : decode b_Md_work 52 = .ok (.goto 31, 3) := by decide +kernel
theorem d_Md_work_55 : decode b_Md_work 55 = .ok (.iload 7, 2) := by decide +kernel
theorem d_Md_work_57 : decode b_Md_work 57 = .ok (.iconst 2, 1) := by decide +kernel
theorem d_Md_work_58 : decode b_Md_work 58 = .ok (.if_icmp .ne 7, 3) := by decide +kernel
theorem d_Md_work_61 : decode b_Md_work 61 = .ok (.iload_n 3, 1) := by decide +kernel
theorem d_Md_work_62 : decode b_Md_work 62 = .ok (.goto 21, 3) := by decide +kernel
theorem d_Md_work_65 : decode b_Md_work 65 = .ok (.iload 7, 2) := by decide +kernel
theorem d_Md_work_67 : decode b_Md_work 67 = .ok (.iconst 3, 1) := by decide +kernel
theorem d_Md_work_68 : decode b_Md_work 68 = .ok (.if_icmp .ne 8, 3) := by decide +kernel
theorem d_Md_work_71 : decode b_Md_work 71 = .ok (.iload 4, 2) := by decide +kernel
theorem d_Md_work_73 : decode b_Md_work 73 = .ok (.goto 10, 3) := by decide +kernel
theorem d_Md_work_76 : decode b_Md_work 76 = .ok (.aload_n 0, 1) := by decide +kernel
theorem d_Md_work_77 : decode b_Md_work 77 = .ok (.getfield 126, 3) := by decide +kernel
theorem d_Md_work_80 : decode b_Md_work 80 = .ok (.iload 6, 2) := by decide +kernel
theorem d_Md_work_82 : decode b_Md_work 82 = .ok (.iaload, 1) := by decide +kernel
theorem d_Md_work_83 : decode b_Md_work 83 = .ok (.iastore, 1) := by decide +kernel
theorem d_Md_work_84 : decode b_Md_work 84 = .ok (.iinc 5 1, 3) := by decide +kernel
theorem d_Md_work_87 : decode b_Md_work 87 = .ok (.goto 118, 3) := by decide +kernel
theorem d_Md_work_90 : decode b_Md_work 90 = .ok (.iload 7, 2) := by decide +kernel
theorem d_Md_work_92 : decode b_Md_work 92 = .ok (.bipush 18, 2) := by decide +kernel
theorem d_Md_work_94 : decode b_Md_work 94 = .ok (.if_icmp .ne 25, 3) := by decide +kernel
theorem d_Md_work_97 : decode b_Md_work 97 = .ok (.aload_n 0, 1) := by decide +kernel
theorem d_Md_work_98 : decode b_Md_work 98 = .ok (.getfield 138, 3) := by decide +kernel
theorem d_Md_work_101 : decode b_Md_work 101 = .ok (.iload 5, 2) := by decide +kernel
theorem d_Md_work_103 : decode b_Md_work 103 = .ok (.iconst 1, 1) := by decide +kernel
theorem d_Md_work_104 : decode b_Md_work 104 = .ok (.isub, 1) := by decide +kernel
theorem d_Md_work_105 : decode b_Md_work 105 = .ok (.aload_n 0, 1) := by decide +kernel
theorem d_Md_work_106 : decode b_Md_work 106 = .ok (.getfield 138, 3) := by decide +kernel
theorem d_Md_work_109 : decode b_Md_work 109 = .ok (.iload 5, 2) := by decide +kernel
theorem d_Md_work_111 : decode b_Md_work 111 = .ok (.iconst 1, 1) := by decide +kernel
theorem d_Md_work_112 : decode b_Md_work 112 = .ok (.isub, 1) := by decide +kernel
theorem d_Md_work_113 : decode b_Md_work 113 = .ok (.iaload, 1) := by decide +kernel
theorem d_Md_work_114 : decode b_Md_work 114 = .ok (.ineg, 1) := by decide +kernel
theorem d_Md_work_115 : decode b_Md_work 115 = .ok (.iastore, 1) := by decide +kernel
theorem d_Md_work_116 : decode b_Md_work 116 = .ok (.goto 89, 3) := by decide +kernel
theorem d_Md_work_119 : decode b_Md_work 119 = .ok (.iload 7, 2) := by decide +kernel
theorem d_Md_work_121 : decode b_Md_work 121 = .ok (.bipush 19, 2) := by decide +kernel
theorem d_Md_work_123 : decode b_Md_work 123 = .ok (.if_icmp .ne 49, 3) := by decide +kernel
theorem d_Md_work_126 : decode b_Md_work 126 = .ok (.iinc 5 (-2), 3) := by decide +kernel
theorem d_Md_work_129 : decode b_Md_work 129 = .ok (.aload_n 0, 1) := by decide +kernel
theorem d_Md_work_130 : decode b_Md_work 130 = .ok (.getfield 138, 3) := by decide +kernel
theorem d_Md_work_133 : decode b_Md_work 133 = .ok (.iload 5, 2) := by decide +kernel
theorem d_Md_work_135 : decode b_Md_work 135 = .ok (.iconst 1, 1) := by decide +kernel
theorem d_Md_work_136 : decode b_Md_work 136 = .ok (.isub, 1) := by decide +kernel
theorem d_Md_work_137 : decode b_Md_work 137 = .ok (.aload_n 0, 1) := by decide +kernel
theorem d_Md_work_138 : decode b_Md_work 138 = .ok (.getfield 138, 3) := by decide +kernel
theorem d_Md_work_141 : decode b_Md_work 141 = .ok (.iload 5, 2) := by decide +kernel
theorem d_Md_work_143 : decode b_Md_work 143 = .ok (.iconst 1, 1) := by decide +kernel
theorem d_Md_work_144 : decode b_Md_work 144 = .ok (.isub, 1) := by decide +kernel
theorem d_Md_work_145 : decode b_Md_work 145 = .ok (.iaload, 1) := by decide +kernel
theorem d_Md_work_146 : decode b_Md_work 146 = .ok (.ifCond .eq 13, 3) := by decide +kernel
theorem d_Md_work_149 : decode b_Md_work 149 = .ok (.aload_n 0, 1) := by decide +kernel
theorem d_Md_work_150 : decode b_Md_work 150 = .ok (.getfield 138, 3) := by decide +kernel
theorem d_Md_work_153 : decode b_Md_work 153 = .ok (.iload 5, 2) := by decide +kernel
theorem d_Md_work_155 : decode b_Md_work 155 = .ok (.iaload, 1) := by decide +kernel
theorem d_Md_work_156 : decode b_Md_work 156 = .ok (.goto 12, 3) := by decide +kernel
theorem d_Md_work_159 : decode b_Md_work 159 = .ok (.aload_n 0, 1) := by decide +kernel
theorem d_Md_work_160 : decode b_Md_work 160 = .ok (.getfield 138, 3) := by decide +kernel
theorem d_Md_work_163 : decode b_Md_work 163 = .ok (.iload 5, 2) := by decide +kernel
theorem d_Md_work_165 : decode b_Md_work 165 = .ok (.iconst 1, 1) := by decide +kernel
theorem d_Md_work_166 : decode b_Md_work 166 = .ok (.iadd, 1) := by decide +kernel
theorem d_Md_work_167 : decode b_Md_work 167 = .ok (.iaload, 1) := by decide +kernel
theorem d_Md_work_168 : decode b_Md_work 168 = .ok (.iastore, 1) := by decide +kernel
theorem d_Md_work_169 : decode b_Md_work 169 = .ok (.goto 36, 3) := by decide +kernel
theorem d_Md_work_172 : decode b_Md_work 172 = .ok (.iinc 5 (-1), 3) := by decide +kernel
theorem d_Md_work_175 : decode b_Md_work 175 = .ok (.aload_n 0, 1) := by decide +kernel
theorem d_Md_work_176 : decode b_Md_work 176 = .ok (.getfield 138, 3) := by decide +kernel
theorem d_Md_work_179 : decode b_Md_work 179 = .ok (.iload 5, 2) := by decide +kernel
theorem d_Md_work_181 : decode b_Md_work 181 = .ok (.iconst 1, 1) := by decide +kernel
theorem d_Md_work_182 : decode b_Md_work 182 = .ok (.isub, 1) := by decide +kernel
theorem d_Md_work_183 : decode b_Md_work 183 = .ok (.iload 7, 2) := by decide +kernel
theorem d_Md_work_185 : decode b_Md_work 185 = .ok (.aload_n 0, 1) := by decide +kernel
theorem d_Md_work_186 : decode b_Md_work 186 = .ok (.getfield 138, 3) := by decide +kernel
theorem d_Md_work_189 : decode b_Md_work 189 = .ok (.iload 5, 2) := by decide +kernel
theorem d_Md_work_191 : decode b_Md_work 191 = .ok (.iconst 1, 1) := by decide +kernel
theorem d_Md_work_192 : decode b_Md_work 192 = .ok (.isub, 1) := by decide +kernel
theorem d_Md_work_193 : decode b_Md_work 193 = .ok (.iaload, 1) := by decide +kernel
theorem d_Md_work_194 : decode b_Md_work 194 = .ok (.aload_n 0, 1) := by decide +kernel
theorem d_Md_work_195 : decode b_Md_work 195 = .ok (.getfield 138, 3) := by decide +kernel
theorem d_Md_work_198 : decode b_Md_work 198 = .ok (.iload 5, 2) := by decide +kernel
theorem d_Md_work_200 : decode b_Md_work 200 = .ok (.iaload, 1) := by decide +kernel
theorem d_Md_work_201 : decode b_Md_work 201 = .ok (.invokestatic 363, 3) := by decide +kernel
theorem d_Md_work_204 : decode b_Md_work 204 = .ok (.iastore, 1) := by decide +kernel
theorem d_Md_work_205 : decode b_Md_work 205 = .ok (.iinc 6 1, 3) := by decide +kernel
theorem d_Md_work_208 : decode b_Md_work 208 = .ok (.goto (-197), 3) := by decide +kernel
theorem d_Md_work_211 : decode b_Md_work 211 = .ok (.aload_n 0, 1) := by decide +kernel
theorem d_Md_work_212 : decode b_Md_work 212 = .ok (.getfield 138, 3) := by decide +kernel
theorem d_Md_work_215 : decode b_Md_work 215 = .ok (.iconst 0, 1) := by decide +kernel
theorem d_Md_work_216 : decode b_Md_work 216 = .ok (.iaload, 1) := by decide +kernel
theorem d_Md_work_217 : decode b_Md_work 217 = .ok (.ireturn, 1) := by decide +kernel
abbrev y_Md_bill : MethodName := ⟨"SmallHarbourModel", "bill", "(I)I"⟩
abbrev b_Md_bill : ByteArray := prog_14_method_31_code
theorem mi_Md_bill : MI y_Md_bill b_Md_bill 4 (some .int) 1 := ⟨w_1164, w_13, by decide +kernel, by decide, by decide⟩
theorem mv_Md_bill : MV y_Md_bill := ⟨w_1163, w_s4_2⟩
theorem d_Md_bill_0 : decode b_Md_bill 0 = .ok (.iconst (-1), 1) := by decide +kernel
theorem d_Md_bill_1 : decode b_Md_bill 1 = .ok (.istore_n 2, 1) := by decide +kernel
theorem d_Md_bill_2 : decode b_Md_bill 2 = .ok (.iconst 0, 1) := by decide +kernel
theorem d_Md_bill_3 : decode b_Md_bill 3 = .ok (.istore_n 3, 1) := by decide +kernel
theorem d_Md_bill_4 : decode b_Md_bill 4 = .ok (.iload_n 3, 1) := by decide +kernel
theorem d_Md_bill_5 : decode b_Md_bill 5 = .ok (.aload_n 0, 1) := by decide +kernel
theorem d_Md_bill_6 : decode b_Md_bill 6 = .ok (.getfield 244, 3) := by decide +kernel
theorem d_Md_bill_9 : decode b_Md_bill 9 = .ok (.if_icmp .ge 45, 3) := by decide +kernel
theorem d_Md_bill_12 : decode b_Md_bill 12 = .ok (.aload_n 0, 1) := by decide +kernel
theorem d_Md_bill_13 : decode b_Md_bill 13 = .ok (.getfield 117, 3) := by decide +kernel
theorem d_Md_bill_16 : decode b_Md_bill 16 = .ok (.iload_n 3, 1) := by decide +kernel
theorem d_Md_bill_17 : decode b_Md_bill 17 = .ok (.iaload, 1) := by decide +kernel
theorem d_Md_bill_18 : decode b_Md_bill 18 = .ok (.aload_n 0, 1) := by decide +kernel
theorem d_Md_bill_19 : decode b_Md_bill 19 = .ok (.getfield 50, 3) := by decide +kernel
theorem d_Md_bill_22 : decode b_Md_bill 22 = .ok (.iload_n 1, 1) := by decide +kernel
theorem d_Md_bill_23 : decode b_Md_bill 23 = .ok (.iaload, 1) := by decide +kernel
theorem d_Md_bill_24 : decode b_Md_bill 24 = .ok (.if_icmp .gt 24, 3) := by decide +kernel
theorem d_Md_bill_27 : decode b_Md_bill 27 = .ok (.iload_n 2, 1) := by decide +kernel
theorem d_Md_bill_28 : decode b_Md_bill 28 = .ok (.ifCond .lt 18, 3) := by decide +kernel
theorem d_Md_bill_31 : decode b_Md_bill 31 = .ok (.aload_n 0, 1) := by decide +kernel
theorem d_Md_bill_32 : decode b_Md_bill 32 = .ok (.getfield 117, 3) := by decide +kernel
theorem d_Md_bill_35 : decode b_Md_bill 35 = .ok (.iload_n 3, 1) := by decide +kernel
theorem d_Md_bill_36 : decode b_Md_bill 36 = .ok (.iaload, 1) := by decide +kernel
theorem d_Md_bill_37 : decode b_Md_bill 37 = .ok (.aload_n 0, 1) := by decide +kernel
theorem d_Md_bill_38 : decode b_Md_bill 38 = .ok (.getfield 117, 3) := by decide +kernel
theorem d_Md_bill_41 : decode b_Md_bill 41 = .ok (.iload_n 2, 1) := by decide +kernel
theorem d_Md_bill_42 : decode b_Md_bill 42 = .ok (.iaload, 1) := by decide +kernel
theorem d_Md_bill_43 : decode b_Md_bill 43 = .ok (.if_icmp .lt 5, 3) := by decide +kernel
theorem d_Md_bill_46 : decode b_Md_bill 46 = .ok (.iload_n 3, 1) := by decide +kernel
theorem d_Md_bill_47 : decode b_Md_bill 47 = .ok (.istore_n 2, 1) := by decide +kernel
theorem d_Md_bill_48 : decode b_Md_bill 48 = .ok (.iinc 3 1, 3) := by decide +kernel
theorem d_Md_bill_51 : decode b_Md_bill 51 = .ok (.goto (-47), 3) := by decide +kernel
theorem d_Md_bill_54 : decode b_Md_bill 54 = .ok (.iload_n 2, 1) := by decide +kernel
theorem d_Md_bill_55 : decode b_Md_bill 55 = .ok (.ifCond .ge 7, 3) := by decide +kernel
theorem d_Md_bill_58 : decode b_Md_bill 58 = .ok (.iconst 0, 1) := by decide +kernel
theorem d_Md_bill_59 : decode b_Md_bill 59 = .ok (.goto 38, 3) := by decide +kernel
theorem d_Md_bill_62 : decode b_Md_bill 62 = .ok (.aload_n 0, 1) := by decide +kernel
theorem d_Md_bill_63 : decode b_Md_bill 63 = .ok (.iload_n 2, 1) := by decide +kernel
theorem d_Md_bill_64 : decode b_Md_bill 64 = .ok (.aload_n 0, 1) := by decide +kernel
theorem d_Md_bill_65 : decode b_Md_bill 65 = .ok (.getfield 23, 3) := by decide +kernel
theorem d_Md_bill_68 : decode b_Md_bill 68 = .ok (.aload_n 0, 1) := by decide +kernel
theorem d_Md_bill_69 : decode b_Md_bill 69 = .ok (.getfield 44, 3) := by decide +kernel
theorem d_Md_bill_72 : decode b_Md_bill 72 = .ok (.iload_n 1, 1) := by decide +kernel
theorem d_Md_bill_73 : decode b_Md_bill 73 = .ok (.iaload, 1) := by decide +kernel
theorem d_Md_bill_74 : decode b_Md_bill 74 = .ok (.iaload, 1) := by decide +kernel
theorem d_Md_bill_75 : decode b_Md_bill 75 = .ok (.aload_n 0, 1) := by decide +kernel
theorem d_Md_bill_76 : decode b_Md_bill 76 = .ok (.getfield 53, 3) := by decide +kernel
theorem d_Md_bill_79 : decode b_Md_bill 79 = .ok (.iload_n 1, 1) := by decide +kernel
theorem d_Md_bill_80 : decode b_Md_bill 80 = .ok (.iaload, 1) := by decide +kernel
theorem d_Md_bill_81 : decode b_Md_bill 81 = .ok (.aload_n 0, 1) := by decide +kernel
theorem d_Md_bill_82 : decode b_Md_bill 82 = .ok (.getfield 50, 3) := by decide +kernel
theorem d_Md_bill_85 : decode b_Md_bill 85 = .ok (.iload_n 1, 1) := by decide +kernel
theorem d_Md_bill_86 : decode b_Md_bill 86 = .ok (.iaload, 1) := by decide +kernel
theorem d_Md_bill_87 : decode b_Md_bill 87 = .ok (.isub, 1) := by decide +kernel
theorem d_Md_bill_88 : decode b_Md_bill 88 = .ok (.aload_n 0, 1) := by decide +kernel
theorem d_Md_bill_89 : decode b_Md_bill 89 = .ok (.getfield 50, 3) := by decide +kernel
theorem d_Md_bill_92 : decode b_Md_bill 92 = .ok (.iload_n 1, 1) := by decide +kernel
theorem d_Md_bill_93 : decode b_Md_bill 93 = .ok (.iaload, 1) := by decide +kernel
theorem d_Md_bill_94 : decode b_Md_bill 94 = .ok (.invokevirtual 247, 3) := by decide +kernel
theorem d_Md_bill_97 : decode b_Md_bill 97 = .ok (.ireturn, 1) := by decide +kernel
abbrev y_Md_isFit : MethodName := ⟨"SmallHarbourModel", "isFit", "(IIII)Z"⟩
abbrev b_Md_isFit : ByteArray := prog_14_method_8_code
theorem mi_Md_isFit : MI y_Md_isFit b_Md_isFit 5 (some .boolean) 4 := ⟨w_1071, w_13, by decide +kernel, by decide, by decide⟩
theorem mv_Md_isFit : MV y_Md_isFit := ⟨w_1070, w_s3_1⟩
theorem d_Md_isFit_0 : decode b_Md_isFit 0 = .ok (.iload_n 1, 1) := by decide +kernel
theorem d_Md_isFit_1 : decode b_Md_isFit 1 = .ok (.aload_n 0, 1) := by decide +kernel
theorem d_Md_isFit_2 : decode b_Md_isFit 2 = .ok (.getfield 17, 3) := by decide +kernel
theorem d_Md_isFit_5 : decode b_Md_isFit 5 = .ok (.iload_n 3, 1) := by decide +kernel
theorem d_Md_isFit_6 : decode b_Md_isFit 6 = .ok (.iaload, 1) := by decide +kernel
theorem d_Md_isFit_7 : decode b_Md_isFit 7 = .ok (.if_icmp .gt 30, 3) := by decide +kernel
theorem d_Md_isFit_10 : decode b_Md_isFit 10 = .ok (.iload_n 2, 1) := by decide +kernel
theorem d_Md_isFit_11 : decode b_Md_isFit 11 = .ok (.aload_n 0, 1) := by decide +kernel
theorem d_Md_isFit_12 : decode b_Md_isFit 12 = .ok (.getfield 20, 3) := by decide +kernel
theorem d_Md_isFit_15 : decode b_Md_isFit 15 = .ok (.iload_n 3, 1) := by decide +kernel
theorem d_Md_isFit_16 : decode b_Md_isFit 16 = .ok (.iaload, 1) := by decide +kernel
theorem d_Md_isFit_17 : decode b_Md_isFit 17 = .ok (.aload_n 0, 1) := by decide +kernel
theorem d_Md_isFit_18 : decode b_Md_isFit 18 = .ok (.getfield 13, 3) := by decide +kernel
theorem d_Md_isFit_21 : decode b_Md_isFit 21 = .ok (.iload 4, 2) := by decide +kernel
theorem d_Md_isFit_23 : decode b_Md_isFit 23 = .ok (.aload_n 0, 1) := by decide +kernel
theorem d_Md_isFit_24 : decode b_Md_isFit 24 = .ok (.getfield 7, 3) := by decide +kernel
theorem d_Md_isFit_27 : decode b_Md_isFit 27 = .ok (.irem, 1) := by decide +kernel
theorem d_Md_isFit_28 : decode b_Md_isFit 28 = .ok (.iaload, 1) := by decide +kernel
theorem d_Md_isFit_29 : decode b_Md_isFit 29 = .ok (.iadd, 1) := by decide +kernel
theorem d_Md_isFit_30 : decode b_Md_isFit 30 = .ok (.if_icmp .gt 7, 3) := by decide +kernel
theorem d_Md_isFit_33 : decode b_Md_isFit 33 = .ok (.iconst 1, 1) := by decide +kernel
theorem d_Md_isFit_34 : decode b_Md_isFit 34 = .ok (.goto 4, 3) := by decide +kernel
theorem d_Md_isFit_37 : decode b_Md_isFit 37 = .ok (.iconst 0, 1) := by decide +kernel
theorem d_Md_isFit_38 : decode b_Md_isFit 38 = .ok (.ireturn, 1) := by decide +kernel
abbrev y_Md_canBeHome : MethodName := ⟨"SmallHarbourModel", "canBeHome", "(III)Z"⟩
abbrev b_Md_canBeHome : ByteArray := prog_14_method_10_code
theorem mi_Md_canBeHome : MI y_Md_canBeHome b_Md_canBeHome 5 (some .boolean) 3 := ⟨w_1067, w_13, by decide +kernel, by decide, by decide⟩
theorem mv_Md_canBeHome : MV y_Md_canBeHome := ⟨w_1066, w_s3_0⟩
theorem d_Md_canBeHome_0 : decode b_Md_canBeHome 0 = .ok (.iconst 0, 1) := by decide +kernel
theorem d_Md_canBeHome_1 : decode b_Md_canBeHome 1 = .ok (.istore 4, 2) := by decide +kernel
theorem d_Md_canBeHome_3 : decode b_Md_canBeHome 3 = .ok (.iload 4, 2) := by decide +kernel
theorem d_Md_canBeHome_5 : decode b_Md_canBeHome 5 = .ok (.aload_n 0, 1) := by decide +kernel
theorem d_Md_canBeHome_6 : decode b_Md_canBeHome 6 = .ok (.getfield 141, 3) := by decide +kernel
theorem d_Md_canBeHome_9 : decode b_Md_canBeHome 9 = .ok (.if_icmp .ge 22, 3) := by decide +kernel
theorem d_Md_canBeHome_12 : decode b_Md_canBeHome 12 = .ok (.aload_n 0, 1) := by decide +kernel
theorem d_Md_canBeHome_13 : decode b_Md_canBeHome 13 = .ok (.getfield 32, 3) := by decide +kernel
theorem d_Md_canBeHome_16 : decode b_Md_canBeHome 16 = .ok (.iload 4, 2) := by decide +kernel
theorem d_Md_canBeHome_18 : decode b_Md_canBeHome 18 = .ok (.iaload, 1) := by decide +kernel
theorem d_Md_canBeHome_19 : decode b_Md_canBeHome 19 = .ok (.iload_n 3, 1) := by decide +kernel
theorem d_Md_canBeHome_20 : decode b_Md_canBeHome 20 = .ok (.if_icmp .ne 5, 3) := by decide +kernel
theorem d_Md_canBeHome_23 : decode b_Md_canBeHome 23 = .ok (.iconst 0, 1) := by decide +kernel
theorem d_Md_canBeHome_24 : decode b_Md_canBeHome 24 = .ok (.ireturn, 1) := by decide +kernel
theorem d_Md_canBeHome_25 : decode b_Md_canBeHome 25 = .ok (.iinc 4 1, 3) := by decide +kernel
theorem d_Md_canBeHome_28 : decode b_Md_canBeHome 28 = .ok (.goto (-25), 3) := by decide +kernel
theorem d_Md_canBeHome_31 : decode b_Md_canBeHome 31 = .ok (.iconst 0, 1) := by decide +kernel
theorem d_Md_canBeHome_32 : decode b_Md_canBeHome 32 = .ok (.istore 4, 2) := by decide +kernel
theorem d_Md_canBeHome_34 : decode b_Md_canBeHome 34 = .ok (.iload 4, 2) := by decide +kernel
theorem d_Md_canBeHome_36 : decode b_Md_canBeHome 36 = .ok (.aload_n 0, 1) := by decide +kernel
theorem d_Md_canBeHome_37 : decode b_Md_canBeHome 37 = .ok (.getfield 148, 3) := by decide +kernel
theorem d_Md_canBeHome_40 : decode b_Md_canBeHome 40 = .ok (.if_icmp .ge 22, 3) := by decide +kernel
theorem d_Md_canBeHome_43 : decode b_Md_canBeHome 43 = .ok (.aload_n 0, 1) := by decide +kernel
theorem d_Md_canBeHome_44 : decode b_Md_canBeHome 44 = .ok (.getfield 47, 3) := by decide +kernel
theorem d_Md_canBeHome_47 : decode b_Md_canBeHome 47 = .ok (.iload 4, 2) := by decide +kernel
theorem d_Md_canBeHome_49 : decode b_Md_canBeHome 49 = .ok (.iaload, 1) := by decide +kernel
theorem d_Md_canBeHome_50 : decode b_Md_canBeHome 50 = .ok (.iload_n 3, 1) := by decide +kernel
theorem d_Md_canBeHome_51 : decode b_Md_canBeHome 51 = .ok (.if_icmp .ne 5, 3) := by decide +kernel
theorem d_Md_canBeHome_54 : decode b_Md_canBeHome 54 = .ok (.iconst 0, 1) := by decide +kernel
theorem d_Md_canBeHome_55 : decode b_Md_canBeHome 55 = .ok (.ireturn, 1) := by decide +kernel
theorem d_Md_canBeHome_56 : decode b_Md_canBeHome 56 = .ok (.iinc 4 1, 3) := by decide +kernel
theorem d_Md_canBeHome_59 : decode b_Md_canBeHome 59 = .ok (.goto (-25), 3) := by decide +kernel
theorem d_Md_canBeHome_62 : decode b_Md_canBeHome 62 = .ok (.iconst 0, 1) := by decide +kernel
theorem d_Md_canBeHome_63 : decode b_Md_canBeHome 63 = .ok (.istore 4, 2) := by decide +kernel
theorem d_Md_canBeHome_65 : decode b_Md_canBeHome 65 = .ok (.iload 4, 2) := by decide +kernel
theorem d_Md_canBeHome_67 : decode b_Md_canBeHome 67 = .ok (.sipush 400, 3) := by decide +kernel
theorem d_Md_canBeHome_70 : decode b_Md_canBeHome 70 = .ok (.if_icmp .ge 23, 3) := by decide +kernel
theorem d_Md_canBeHome_73 : decode b_Md_canBeHome 73 = .ok (.aload_n 0, 1) := by decide +kernel
theorem d_Md_canBeHome_74 : decode b_Md_canBeHome 74 = .ok (.iload_n 1, 1) := by decide +kernel
theorem d_Md_canBeHome_75 : decode b_Md_canBeHome 75 = .ok (.iload_n 2, 1) := by decide +kernel
theorem d_Md_canBeHome_76 : decode b_Md_canBeHome 76 = .ok (.iload_n 3, 1) := by decide +kernel
theorem d_Md_canBeHome_77 : decode b_Md_canBeHome 77 = .ok (.iload 4, 2) := by decide +kernel
theorem d_Md_canBeHome_79 : decode b_Md_canBeHome 79 = .ok (.invokevirtual 158, 3) := by decide +kernel
theorem d_Md_canBeHome_82 : decode b_Md_canBeHome 82 = .ok (.ifCond .ne 5, 3) := by decide +kernel
theorem d_Md_canBeHome_85 : decode b_Md_canBeHome 85 = .ok (.iconst 0, 1) := by decide +kernel
theorem d_Md_canBeHome_86 : decode b_Md_canBeHome 86 = .ok (.ireturn, 1) := by decide +kernel
theorem d_Md_canBeHome_87 : decode b_Md_canBeHome 87 = .ok (.iinc 4 1, 3) := by decide +kernel
theorem d_Md_canBeHome_90 : decode b_Md_canBeHome 90 = .ok (.goto (-25), 3) := by decide +kernel
theorem d_Md_canBeHome_93 : decode b_Md_canBeHome 93 = .ok (.iconst 1, 1) := by decide +kernel
theorem d_Md_canBeHome_94 : decode b_Md_canBeHome 94 = .ok (.ireturn, 1) := by decide +kernel
