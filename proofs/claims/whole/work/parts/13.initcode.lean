abbrev y_Berths_init : MethodName := ⟨"SmallHarbour$Berths", "<init>", "()V"⟩
abbrev b_Berths_init : ByteArray := prog_2_method_1_code
theorem mi_Berths_init : MI y_Berths_init b_Berths_init 1 none 0 := ⟨w_43, w_3, by decide +kernel, by decide, by decide⟩
theorem d_Berths_init_0 : decode b_Berths_init 0 = .ok (.aload_n 0, 1) := by decide +kernel
theorem d_Berths_init_1 : decode b_Berths_init 1 = .ok (.invokespecial 3, 3) := by decide +kernel
theorem d_Berths_init_4 : decode b_Berths_init 4 = .ok (.aload_n 0, 1) := by decide +kernel
theorem d_Berths_init_5 : decode b_Berths_init 5 = .ok (.bipush 10, 2) := by decide +kernel
theorem d_Berths_init_7 : decode b_Berths_init 7 = .ok (.newarray .int, 2) := by decide +kernel
theorem d_Berths_init_9 : decode b_Berths_init 9 = .ok (.putfield 9, 3) := by decide +kernel
theorem d_Berths_init_12 : decode b_Berths_init 12 = .ok (.aload_n 0, 1) := by decide +kernel
theorem d_Berths_init_13 : decode b_Berths_init 13 = .ok (.bipush 10, 2) := by decide +kernel
theorem d_Berths_init_15 : decode b_Berths_init 15 = .ok (.newarray .int, 2) := by decide +kernel
theorem d_Berths_init_17 : decode b_Berths_init 17 = .ok (.putfield 15, 3) := by decide +kernel
theorem d_Berths_init_20 : decode b_Berths_init 20 = .ok (.aload_n 0, 1) := by decide +kernel
theorem d_Berths_init_21 : decode b_Berths_init 21 = .ok (.bipush 10, 2) := by decide +kernel
theorem d_Berths_init_23 : decode b_Berths_init 23 = .ok (.newarray .int, 2) := by decide +kernel
theorem d_Berths_init_25 : decode b_Berths_init 25 = .ok (.putfield 18, 3) := by decide +kernel
theorem d_Berths_init_28 : decode b_Berths_init 28 = .ok (.aload_n 0, 1) := by decide +kernel
theorem d_Berths_init_29 : decode b_Berths_init 29 = .ok (.iconst 0, 1) := by decide +kernel
theorem d_Berths_init_30 : decode b_Berths_init 30 = .ok (.putfield 21, 3) := by decide +kernel
theorem d_Berths_init_33 : decode b_Berths_init 33 = .ok (.return_, 1) := by decide +kernel
abbrev y_Boats_init : MethodName := ⟨"SmallHarbour$Boats", "<init>", "()V"⟩
abbrev b_Boats_init : ByteArray := prog_3_method_1_code
theorem mi_Boats_init : MI y_Boats_init b_Boats_init 1 none 0 := ⟨w_64, w_4, by decide +kernel, by decide, by decide⟩
theorem d_Boats_init_0 : decode b_Boats_init 0 = .ok (.aload_n 0, 1) := by decide +kernel
theorem d_Boats_init_1 : decode b_Boats_init 1 = .ok (.invokespecial 3, 3) := by decide +kernel
theorem d_Boats_init_4 : decode b_Boats_init 4 = .ok (.aload_n 0, 1) := by decide +kernel
theorem d_Boats_init_5 : decode b_Boats_init 5 = .ok (.bipush 30, 2) := by decide +kernel
theorem d_Boats_init_7 : decode b_Boats_init 7 = .ok (.newarray .int, 2) := by decide +kernel
theorem d_Boats_init_9 : decode b_Boats_init 9 = .ok (.putfield 9, 3) := by decide +kernel
theorem d_Boats_init_12 : decode b_Boats_init 12 = .ok (.aload_n 0, 1) := by decide +kernel
theorem d_Boats_init_13 : decode b_Boats_init 13 = .ok (.bipush 30, 2) := by decide +kernel
theorem d_Boats_init_15 : decode b_Boats_init 15 = .ok (.newarray .int, 2) := by decide +kernel
theorem d_Boats_init_17 : decode b_Boats_init 17 = .ok (.putfield 15, 3) := by decide +kernel
theorem d_Boats_init_20 : decode b_Boats_init 20 = .ok (.aload_n 0, 1) := by decide +kernel
theorem d_Boats_init_21 : decode b_Boats_init 21 = .ok (.bipush 30, 2) := by decide +kernel
theorem d_Boats_init_23 : decode b_Boats_init 23 = .ok (.newarray .int, 2) := by decide +kernel
theorem d_Boats_init_25 : decode b_Boats_init 25 = .ok (.putfield 18, 3) := by decide +kernel
theorem d_Boats_init_28 : decode b_Boats_init 28 = .ok (.aload_n 0, 1) := by decide +kernel
theorem d_Boats_init_29 : decode b_Boats_init 29 = .ok (.bipush 30, 2) := by decide +kernel
theorem d_Boats_init_31 : decode b_Boats_init 31 = .ok (.newarray .int, 2) := by decide +kernel
theorem d_Boats_init_33 : decode b_Boats_init 33 = .ok (.putfield 21, 3) := by decide +kernel
theorem d_Boats_init_36 : decode b_Boats_init 36 = .ok (.aload_n 0, 1) := by decide +kernel
theorem d_Boats_init_37 : decode b_Boats_init 37 = .ok (.iconst 0, 1) := by decide +kernel
theorem d_Boats_init_38 : decode b_Boats_init 38 = .ok (.putfield 24, 3) := by decide +kernel
theorem d_Boats_init_41 : decode b_Boats_init 41 = .ok (.return_, 1) := by decide +kernel
abbrev y_Hoist_init : MethodName := ⟨"SmallHarbour$Hoist", "<init>", "()V"⟩
abbrev b_Hoist_init : ByteArray := prog_4_method_1_code
theorem mi_Hoist_init : MI y_Hoist_init b_Hoist_init 1 none 0 := ⟨w_189, w_8, by decide +kernel, by decide, by decide⟩
theorem d_Hoist_init_0 : decode b_Hoist_init 0 = .ok (.aload_n 0, 1) := by decide +kernel
theorem d_Hoist_init_1 : decode b_Hoist_init 1 = .ok (.invokespecial 3, 3) := by decide +kernel
theorem d_Hoist_init_4 : decode b_Hoist_init 4 = .ok (.aload_n 0, 1) := by decide +kernel
theorem d_Hoist_init_5 : decode b_Hoist_init 5 = .ok (.sipush 400, 3) := by decide +kernel
theorem d_Hoist_init_8 : decode b_Hoist_init 8 = .ok (.newarray .boolean, 2) := by decide +kernel
theorem d_Hoist_init_10 : decode b_Hoist_init 10 = .ok (.putfield 9, 3) := by decide +kernel
theorem d_Hoist_init_13 : decode b_Hoist_init 13 = .ok (.aload_n 0, 1) := by decide +kernel
theorem d_Hoist_init_14 : decode b_Hoist_init 14 = .ok (.iconst 0, 1) := by decide +kernel
theorem d_Hoist_init_15 : decode b_Hoist_init 15 = .ok (.putfield 15, 3) := by decide +kernel
theorem d_Hoist_init_18 : decode b_Hoist_init 18 = .ok (.aload_n 0, 1) := by decide +kernel
theorem d_Hoist_init_19 : decode b_Hoist_init 19 = .ok (.iconst 0, 1) := by decide +kernel
theorem d_Hoist_init_20 : decode b_Hoist_init 20 = .ok (.putfield 19, 3) := by decide +kernel
theorem d_Hoist_init_23 : decode b_Hoist_init 23 = .ok (.aload_n 0, 1) := by decide +kernel
theorem d_Hoist_init_24 : decode b_Hoist_init 24 = .ok (.sipush 500, 3) := by decide +kernel
theorem d_Hoist_init_27 : decode b_Hoist_init 27 = .ok (.putfield 22, 3) := by decide +kernel
theorem d_Hoist_init_30 : decode b_Hoist_init 30 = .ok (.aload_n 0, 1) := by decide +kernel
theorem d_Hoist_init_31 : decode b_Hoist_init 31 = .ok (.sipush 300, 3) := by decide +kernel
theorem d_Hoist_init_34 : decode b_Hoist_init 34 = .ok (.putfield 25, 3) := by decide +kernel
theorem d_Hoist_init_37 : decode b_Hoist_init 37 = .ok (.aload_n 0, 1) := by decide +kernel
theorem d_Hoist_init_38 : decode b_Hoist_init 38 = .ok (.bipush 40, 2) := by decide +kernel
theorem d_Hoist_init_40 : decode b_Hoist_init 40 = .ok (.newarray .int, 2) := by decide +kernel
theorem d_Hoist_init_42 : decode b_Hoist_init 42 = .ok (.putfield 28, 3) := by decide +kernel
theorem d_Hoist_init_45 : decode b_Hoist_init 45 = .ok (.aload_n 0, 1) := by decide +kernel
theorem d_Hoist_init_46 : decode b_Hoist_init 46 = .ok (.bipush 40, 2) := by decide +kernel
theorem d_Hoist_init_48 : decode b_Hoist_init 48 = .ok (.newarray .int, 2) := by decide +kernel
theorem d_Hoist_init_50 : decode b_Hoist_init 50 = .ok (.putfield 32, 3) := by decide +kernel
theorem d_Hoist_init_53 : decode b_Hoist_init 53 = .ok (.aload_n 0, 1) := by decide +kernel
theorem d_Hoist_init_54 : decode b_Hoist_init 54 = .ok (.bipush 40, 2) := by decide +kernel
theorem d_Hoist_init_56 : decode b_Hoist_init 56 = .ok (.newarray .int, 2) := by decide +kernel
theorem d_Hoist_init_58 : decode b_Hoist_init 58 = .ok (.putfield 35, 3) := by decide +kernel
theorem d_Hoist_init_61 : decode b_Hoist_init 61 = .ok (.return_, 1) := by decide +kernel
abbrev y_Reader_init : MethodName := ⟨"SmallHarbour$Reader", "<init>", "(LSmallHarbour$Tape;)V"⟩
abbrev b_Reader_init : ByteArray := prog_5_method_1_code
theorem mi_Reader_init : MI y_Reader_init b_Reader_init 2 none 1 := ⟨w_279, w_11, by decide +kernel, by decide, by decide⟩
theorem d_Reader_init_0 : decode b_Reader_init 0 = .ok (.aload_n 0, 1) := by decide +kernel
theorem d_Reader_init_1 : decode b_Reader_init 1 = .ok (.invokespecial 3, 3) := by decide +kernel
theorem d_Reader_init_4 : decode b_Reader_init 4 = .ok (.aload_n 0, 1) := by decide +kernel
theorem d_Reader_init_5 : decode b_Reader_init 5 = .ok (.bipush 60, 2) := by decide +kernel
theorem d_Reader_init_7 : decode b_Reader_init 7 = .ok (.newarray .int, 2) := by decide +kernel
theorem d_Reader_init_9 : decode b_Reader_init 9 = .ok (.putfield 9, 3) := by decide +kernel
theorem d_Reader_init_12 : decode b_Reader_init 12 = .ok (.aload_n 0, 1) := by decide +kernel
theorem d_Reader_init_13 : decode b_Reader_init 13 = .ok (.iconst 0, 1) := by decide +kernel
theorem d_Reader_init_14 : decode b_Reader_init 14 = .ok (.putfield 15, 3) := by decide +kernel
theorem d_Reader_init_17 : decode b_Reader_init 17 = .ok (.aload_n 0, 1) := by decide +kernel
theorem d_Reader_init_18 : decode b_Reader_init 18 = .ok (.iconst (-1), 1) := by decide +kernel
theorem d_Reader_init_19 : decode b_Reader_init 19 = .ok (.putfield 19, 3) := by decide +kernel
theorem d_Reader_init_22 : decode b_Reader_init 22 = .ok (.aload_n 0, 1) := by decide +kernel
theorem d_Reader_init_23 : decode b_Reader_init 23 = .ok (.iconst (-1), 1) := by decide +kernel
theorem d_Reader_init_24 : decode b_Reader_init 24 = .ok (.putfield 22, 3) := by decide +kernel
theorem d_Reader_init_27 : decode b_Reader_init 27 = .ok (.aload_n 0, 1) := by decide +kernel
theorem d_Reader_init_28 : decode b_Reader_init 28 = .ok (.aload_n 1, 1) := by decide +kernel
theorem d_Reader_init_29 : decode b_Reader_init 29 = .ok (.putfield 25, 3) := by decide +kernel
theorem d_Reader_init_32 : decode b_Reader_init 32 = .ok (.return_, 1) := by decide +kernel
abbrev y_Rules_init : MethodName := ⟨"SmallHarbour$Rules", "<init>", "()V"⟩
abbrev b_Rules_init : ByteArray := prog_6_method_1_code
theorem mi_Rules_init : MI y_Rules_init b_Rules_init 1 none 0 := ⟨w_323, w_12, by decide +kernel, by decide, by decide⟩
theorem d_Rules_init_0 : decode b_Rules_init 0 = .ok (.aload_n 0, 1) := by decide +kernel
theorem d_Rules_init_1 : decode b_Rules_init 1 = .ok (.invokespecial 3, 3) := by decide +kernel
theorem d_Rules_init_4 : decode b_Rules_init 4 = .ok (.aload_n 0, 1) := by decide +kernel
theorem d_Rules_init_5 : decode b_Rules_init 5 = .ok (.iconst 0, 1) := by decide +kernel
theorem d_Rules_init_6 : decode b_Rules_init 6 = .ok (.putfield 9, 3) := by decide +kernel
theorem d_Rules_init_9 : decode b_Rules_init 9 = .ok (.aload_n 0, 1) := by decide +kernel
theorem d_Rules_init_10 : decode b_Rules_init 10 = .ok (.bipush 8, 2) := by decide +kernel
theorem d_Rules_init_12 : decode b_Rules_init 12 = .ok (.newarray .int, 2) := by decide +kernel
theorem d_Rules_init_14 : decode b_Rules_init 14 = .ok (.putfield 15, 3) := by decide +kernel
theorem d_Rules_init_17 : decode b_Rules_init 17 = .ok (.aload_n 0, 1) := by decide +kernel
theorem d_Rules_init_18 : decode b_Rules_init 18 = .ok (.bipush 8, 2) := by decide +kernel
theorem d_Rules_init_20 : decode b_Rules_init 20 = .ok (.newarray .int, 2) := by decide +kernel
theorem d_Rules_init_22 : decode b_Rules_init 22 = .ok (.putfield 19, 3) := by decide +kernel
theorem d_Rules_init_25 : decode b_Rules_init 25 = .ok (.aload_n 0, 1) := by decide +kernel
theorem d_Rules_init_26 : decode b_Rules_init 26 = .ok (.sipush 480, 3) := by decide +kernel
theorem d_Rules_init_29 : decode b_Rules_init 29 = .ok (.newarray .int, 2) := by decide +kernel
theorem d_Rules_init_31 : decode b_Rules_init 31 = .ok (.putfield 22, 3) := by decide +kernel
theorem d_Rules_init_34 : decode b_Rules_init 34 = .ok (.aload_n 0, 1) := by decide +kernel
theorem d_Rules_init_35 : decode b_Rules_init 35 = .ok (.bipush 60, 2) := by decide +kernel
theorem d_Rules_init_37 : decode b_Rules_init 37 = .ok (.newarray .int, 2) := by decide +kernel
theorem d_Rules_init_39 : decode b_Rules_init 39 = .ok (.putfield 25, 3) := by decide +kernel
theorem d_Rules_init_42 : decode b_Rules_init 42 = .ok (.aload_n 0, 1) := by decide +kernel
theorem d_Rules_init_43 : decode b_Rules_init 43 = .ok (.iconst 0, 1) := by decide +kernel
theorem d_Rules_init_44 : decode b_Rules_init 44 = .ok (.putfield 28, 3) := by decide +kernel
theorem d_Rules_init_47 : decode b_Rules_init 47 = .ok (.return_, 1) := by decide +kernel
abbrev y_Shed_init : MethodName := ⟨"SmallHarbour$Shed", "<init>", "()V"⟩
abbrev b_Shed_init : ByteArray := prog_7_method_1_code
theorem mi_Shed_init : MI y_Shed_init b_Shed_init 1 none 0 := ⟨w_223, w_9, by decide +kernel, by decide, by decide⟩
theorem d_Shed_init_0 : decode b_Shed_init 0 = .ok (.aload_n 0, 1) := by decide +kernel
theorem d_Shed_init_1 : decode b_Shed_init 1 = .ok (.invokespecial 3, 3) := by decide +kernel
theorem d_Shed_init_4 : decode b_Shed_init 4 = .ok (.aload_n 0, 1) := by decide +kernel
theorem d_Shed_init_5 : decode b_Shed_init 5 = .ok (.iconst 0, 1) := by decide +kernel
theorem d_Shed_init_6 : decode b_Shed_init 6 = .ok (.putfield 9, 3) := by decide +kernel
theorem d_Shed_init_9 : decode b_Shed_init 9 = .ok (.aload_n 0, 1) := by decide +kernel
theorem d_Shed_init_10 : decode b_Shed_init 10 = .ok (.iconst 0, 1) := by decide +kernel
theorem d_Shed_init_11 : decode b_Shed_init 11 = .ok (.putfield 15, 3) := by decide +kernel
theorem d_Shed_init_14 : decode b_Shed_init 14 = .ok (.aload_n 0, 1) := by decide +kernel
theorem d_Shed_init_15 : decode b_Shed_init 15 = .ok (.bipush 9, 2) := by decide +kernel
theorem d_Shed_init_17 : decode b_Shed_init 17 = .ok (.newarray .int, 2) := by decide +kernel
theorem d_Shed_init_19 : decode b_Shed_init 19 = .ok (.putfield 18, 3) := by decide +kernel
theorem d_Shed_init_22 : decode b_Shed_init 22 = .ok (.aload_n 0, 1) := by decide +kernel
theorem d_Shed_init_23 : decode b_Shed_init 23 = .ok (.iconst 1, 1) := by decide +kernel
theorem d_Shed_init_24 : decode b_Shed_init 24 = .ok (.putfield 22, 3) := by decide +kernel
theorem d_Shed_init_27 : decode b_Shed_init 27 = .ok (.aload_n 0, 1) := by decide +kernel
theorem d_Shed_init_28 : decode b_Shed_init 28 = .ok (.bipush 100, 2) := by decide +kernel
theorem d_Shed_init_30 : decode b_Shed_init 30 = .ok (.putfield 25, 3) := by decide +kernel
theorem d_Shed_init_33 : decode b_Shed_init 33 = .ok (.aload_n 0, 1) := by decide +kernel
theorem d_Shed_init_34 : decode b_Shed_init 34 = .ok (.bipush 9, 2) := by decide +kernel
theorem d_Shed_init_36 : decode b_Shed_init 36 = .ok (.newarray .int, 2) := by decide +kernel
theorem d_Shed_init_38 : decode b_Shed_init 38 = .ok (.putfield 28, 3) := by decide +kernel
theorem d_Shed_init_41 : decode b_Shed_init 41 = .ok (.aload_n 0, 1) := by decide +kernel
theorem d_Shed_init_42 : decode b_Shed_init 42 = .ok (.bipush 9, 2) := by decide +kernel
theorem d_Shed_init_44 : decode b_Shed_init 44 = .ok (.newarray .int, 2) := by decide +kernel
theorem d_Shed_init_46 : decode b_Shed_init 46 = .ok (.putfield 31, 3) := by decide +kernel
theorem d_Shed_init_49 : decode b_Shed_init 49 = .ok (.aload_n 0, 1) := by decide +kernel
theorem d_Shed_init_50 : decode b_Shed_init 50 = .ok (.bipush 9, 2) := by decide +kernel
theorem d_Shed_init_52 : decode b_Shed_init 52 = .ok (.newarray .int, 2) := by decide +kernel
theorem d_Shed_init_54 : decode b_Shed_init 54 = .ok (.putfield 34, 3) := by decide +kernel
theorem d_Shed_init_57 : decode b_Shed_init 57 = .ok (.aload_n 0, 1) := by decide +kernel
theorem d_Shed_init_58 : decode b_Shed_init 58 = .ok (.bipush 9, 2) := by decide +kernel
theorem d_Shed_init_60 : decode b_Shed_init 60 = .ok (.newarray .int, 2) := by decide +kernel
theorem d_Shed_init_62 : decode b_Shed_init 62 = .ok (.putfield 37, 3) := by decide +kernel
theorem d_Shed_init_65 : decode b_Shed_init 65 = .ok (.aload_n 0, 1) := by decide +kernel
theorem d_Shed_init_66 : decode b_Shed_init 66 = .ok (.iconst 4, 1) := by decide +kernel
theorem d_Shed_init_67 : decode b_Shed_init 67 = .ok (.newarray .int, 2) := by decide +kernel
theorem d_Shed_init_69 : decode b_Shed_init 69 = .ok (.putfield 40, 3) := by decide +kernel
theorem d_Shed_init_72 : decode b_Shed_init 72 = .ok (.return_, 1) := by decide +kernel
abbrev y_Spans_init : MethodName := ⟨"SmallHarbour$Spans", "<init>", "()V"⟩
abbrev b_Spans_init : ByteArray := prog_8_method_1_code
theorem mi_Spans_init : MI y_Spans_init b_Spans_init 1 none 0 := ⟨w_91, w_5, by decide +kernel, by decide, by decide⟩
theorem d_Spans_init_0 : decode b_Spans_init 0 = .ok (.aload_n 0, 1) := by decide +kernel
theorem d_Spans_init_1 : decode b_Spans_init 1 = .ok (.invokespecial 3, 3) := by decide +kernel
theorem d_Spans_init_4 : decode b_Spans_init 4 = .ok (.aload_n 0, 1) := by decide +kernel
theorem d_Spans_init_5 : decode b_Spans_init 5 = .ok (.bipush 60, 2) := by decide +kernel
theorem d_Spans_init_7 : decode b_Spans_init 7 = .ok (.newarray .int, 2) := by decide +kernel
theorem d_Spans_init_9 : decode b_Spans_init 9 = .ok (.putfield 9, 3) := by decide +kernel
theorem d_Spans_init_12 : decode b_Spans_init 12 = .ok (.aload_n 0, 1) := by decide +kernel
theorem d_Spans_init_13 : decode b_Spans_init 13 = .ok (.bipush 60, 2) := by decide +kernel
theorem d_Spans_init_15 : decode b_Spans_init 15 = .ok (.newarray .int, 2) := by decide +kernel
theorem d_Spans_init_17 : decode b_Spans_init 17 = .ok (.putfield 15, 3) := by decide +kernel
theorem d_Spans_init_20 : decode b_Spans_init 20 = .ok (.aload_n 0, 1) := by decide +kernel
theorem d_Spans_init_21 : decode b_Spans_init 21 = .ok (.bipush 60, 2) := by decide +kernel
theorem d_Spans_init_23 : decode b_Spans_init 23 = .ok (.newarray .int, 2) := by decide +kernel
theorem d_Spans_init_25 : decode b_Spans_init 25 = .ok (.putfield 18, 3) := by decide +kernel
theorem d_Spans_init_28 : decode b_Spans_init 28 = .ok (.aload_n 0, 1) := by decide +kernel
theorem d_Spans_init_29 : decode b_Spans_init 29 = .ok (.iconst 0, 1) := by decide +kernel
theorem d_Spans_init_30 : decode b_Spans_init 30 = .ok (.putfield 21, 3) := by decide +kernel
theorem d_Spans_init_33 : decode b_Spans_init 33 = .ok (.return_, 1) := by decide +kernel
abbrev y_Stays_init : MethodName := ⟨"SmallHarbour$Stays", "<init>", "()V"⟩
abbrev b_Stays_init : ByteArray := prog_9_method_1_code
theorem mi_Stays_init : MI y_Stays_init b_Stays_init 1 none 0 := ⟨w_113, w_6, by decide +kernel, by decide, by decide⟩
theorem d_Stays_init_0 : decode b_Stays_init 0 = .ok (.aload_n 0, 1) := by decide +kernel
theorem d_Stays_init_1 : decode b_Stays_init 1 = .ok (.invokespecial 3, 3) := by decide +kernel
theorem d_Stays_init_4 : decode b_Stays_init 4 = .ok (.aload_n 0, 1) := by decide +kernel
theorem d_Stays_init_5 : decode b_Stays_init 5 = .ok (.bipush 40, 2) := by decide +kernel
theorem d_Stays_init_7 : decode b_Stays_init 7 = .ok (.newarray .int, 2) := by decide +kernel
theorem d_Stays_init_9 : decode b_Stays_init 9 = .ok (.putfield 9, 3) := by decide +kernel
theorem d_Stays_init_12 : decode b_Stays_init 12 = .ok (.aload_n 0, 1) := by decide +kernel
theorem d_Stays_init_13 : decode b_Stays_init 13 = .ok (.bipush 40, 2) := by decide +kernel
theorem d_Stays_init_15 : decode b_Stays_init 15 = .ok (.newarray .int, 2) := by decide +kernel
theorem d_Stays_init_17 : decode b_Stays_init 17 = .ok (.putfield 15, 3) := by decide +kernel
theorem d_Stays_init_20 : decode b_Stays_init 20 = .ok (.aload_n 0, 1) := by decide +kernel
theorem d_Stays_init_21 : decode b_Stays_init 21 = .ok (.bipush 40, 2) := by decide +kernel
theorem d_Stays_init_23 : decode b_Stays_init 23 = .ok (.newarray .int, 2) := by decide +kernel
theorem d_Stays_init_25 : decode b_Stays_init 25 = .ok (.putfield 18, 3) := by decide +kernel
theorem d_Stays_init_28 : decode b_Stays_init 28 = .ok (.aload_n 0, 1) := by decide +kernel
theorem d_Stays_init_29 : decode b_Stays_init 29 = .ok (.bipush 40, 2) := by decide +kernel
theorem d_Stays_init_31 : decode b_Stays_init 31 = .ok (.newarray .int, 2) := by decide +kernel
theorem d_Stays_init_33 : decode b_Stays_init 33 = .ok (.putfield 21, 3) := by decide +kernel
theorem d_Stays_init_36 : decode b_Stays_init 36 = .ok (.aload_n 0, 1) := by decide +kernel
theorem d_Stays_init_37 : decode b_Stays_init 37 = .ok (.iconst 0, 1) := by decide +kernel
theorem d_Stays_init_38 : decode b_Stays_init 38 = .ok (.putfield 24, 3) := by decide +kernel
theorem d_Stays_init_41 : decode b_Stays_init 41 = .ok (.return_, 1) := by decide +kernel
abbrev y_Tape_init : MethodName := ⟨"SmallHarbour$Tape", "<init>", "()V"⟩
abbrev b_Tape_init : ByteArray := prog_10_method_1_code
theorem mi_Tape_init : MI y_Tape_init b_Tape_init 1 none 0 := ⟨w_263, w_10, by decide +kernel, by decide, by decide⟩
theorem d_Tape_init_0 : decode b_Tape_init 0 = .ok (.aload_n 0, 1) := by decide +kernel
theorem d_Tape_init_1 : decode b_Tape_init 1 = .ok (.invokespecial 3, 3) := by decide +kernel
theorem d_Tape_init_4 : decode b_Tape_init 4 = .ok (.aload_n 0, 1) := by decide +kernel
theorem d_Tape_init_5 : decode b_Tape_init 5 = .ok (.sipush 200, 3) := by decide +kernel
theorem d_Tape_init_8 : decode b_Tape_init 8 = .ok (.newarray .int, 2) := by decide +kernel
theorem d_Tape_init_10 : decode b_Tape_init 10 = .ok (.putfield 9, 3) := by decide +kernel
theorem d_Tape_init_13 : decode b_Tape_init 13 = .ok (.aload_n 0, 1) := by decide +kernel
theorem d_Tape_init_14 : decode b_Tape_init 14 = .ok (.iconst 0, 1) := by decide +kernel
theorem d_Tape_init_15 : decode b_Tape_init 15 = .ok (.putfield 15, 3) := by decide +kernel
theorem d_Tape_init_18 : decode b_Tape_init 18 = .ok (.return_, 1) := by decide +kernel
abbrev y_Tide_init : MethodName := ⟨"SmallHarbour$Tide", "<init>", "()V"⟩
abbrev b_Tide_init : ByteArray := prog_11_method_1_code
theorem mi_Tide_init : MI y_Tide_init b_Tide_init 1 none 0 := ⟨w_29, w_2, by decide +kernel, by decide, by decide⟩
theorem d_Tide_init_0 : decode b_Tide_init 0 = .ok (.aload_n 0, 1) := by decide +kernel
theorem d_Tide_init_1 : decode b_Tide_init 1 = .ok (.invokespecial 3, 3) := by decide +kernel
theorem d_Tide_init_4 : decode b_Tide_init 4 = .ok (.aload_n 0, 1) := by decide +kernel
theorem d_Tide_init_5 : decode b_Tide_init 5 = .ok (.bipush 30, 2) := by decide +kernel
theorem d_Tide_init_7 : decode b_Tide_init 7 = .ok (.newarray .int, 2) := by decide +kernel
theorem d_Tide_init_9 : decode b_Tide_init 9 = .ok (.putfield 9, 3) := by decide +kernel
theorem d_Tide_init_12 : decode b_Tide_init 12 = .ok (.aload_n 0, 1) := by decide +kernel
theorem d_Tide_init_13 : decode b_Tide_init 13 = .ok (.iconst 1, 1) := by decide +kernel
theorem d_Tide_init_14 : decode b_Tide_init 14 = .ok (.putfield 15, 3) := by decide +kernel
theorem d_Tide_init_17 : decode b_Tide_init 17 = .ok (.return_, 1) := by decide +kernel
abbrev y_Walk_init : MethodName := ⟨"SmallHarbour$Walk", "<init>", "()V"⟩
abbrev b_Walk_init : ByteArray := prog_12_method_1_code
theorem mi_Walk_init : MI y_Walk_init b_Walk_init 1 none 0 := ⟨w_140, w_7, by decide +kernel, by decide, by decide⟩
theorem d_Walk_init_0 : decode b_Walk_init 0 = .ok (.aload_n 0, 1) := by decide +kernel
theorem d_Walk_init_1 : decode b_Walk_init 1 = .ok (.invokespecial 3, 3) := by decide +kernel
theorem d_Walk_init_4 : decode b_Walk_init 4 = .ok (.aload_n 0, 1) := by decide +kernel
theorem d_Walk_init_5 : decode b_Walk_init 5 = .ok (.bipush 12, 2) := by decide +kernel
theorem d_Walk_init_7 : decode b_Walk_init 7 = .ok (.newarray .int, 2) := by decide +kernel
theorem d_Walk_init_9 : decode b_Walk_init 9 = .ok (.putfield 9, 3) := by decide +kernel
theorem d_Walk_init_12 : decode b_Walk_init 12 = .ok (.aload_n 0, 1) := by decide +kernel
theorem d_Walk_init_13 : decode b_Walk_init 13 = .ok (.bipush 12, 2) := by decide +kernel
theorem d_Walk_init_15 : decode b_Walk_init 15 = .ok (.newarray .int, 2) := by decide +kernel
theorem d_Walk_init_17 : decode b_Walk_init 17 = .ok (.putfield 15, 3) := by decide +kernel
theorem d_Walk_init_20 : decode b_Walk_init 20 = .ok (.aload_n 0, 1) := by decide +kernel
theorem d_Walk_init_21 : decode b_Walk_init 21 = .ok (.iconst 0, 1) := by decide +kernel
theorem d_Walk_init_22 : decode b_Walk_init 22 = .ok (.putfield 18, 3) := by decide +kernel
theorem d_Walk_init_25 : decode b_Walk_init 25 = .ok (.aload_n 0, 1) := by decide +kernel
theorem d_Walk_init_26 : decode b_Walk_init 26 = .ok (.bipush 12, 2) := by decide +kernel
theorem d_Walk_init_28 : decode b_Walk_init 28 = .ok (.newarray .int, 2) := by decide +kernel
theorem d_Walk_init_30 : decode b_Walk_init 30 = .ok (.putfield 22, 3) := by decide +kernel
theorem d_Walk_init_33 : decode b_Walk_init 33 = .ok (.aload_n 0, 1) := by decide +kernel
theorem d_Walk_init_34 : decode b_Walk_init 34 = .ok (.bipush 12, 2) := by decide +kernel
theorem d_Walk_init_36 : decode b_Walk_init 36 = .ok (.newarray .int, 2) := by decide +kernel
theorem d_Walk_init_38 : decode b_Walk_init 38 = .ok (.putfield 25, 3) := by decide +kernel
theorem d_Walk_init_41 : decode b_Walk_init 41 = .ok (.aload_n 0, 1) := by decide +kernel
theorem d_Walk_init_42 : decode b_Walk_init 42 = .ok (.bipush 12, 2) := by decide +kernel
theorem d_Walk_init_44 : decode b_Walk_init 44 = .ok (.newarray .int, 2) := by decide +kernel
theorem d_Walk_init_46 : decode b_Walk_init 46 = .ok (.putfield 28, 3) := by decide +kernel
theorem d_Walk_init_49 : decode b_Walk_init 49 = .ok (.aload_n 0, 1) := by decide +kernel
theorem d_Walk_init_50 : decode b_Walk_init 50 = .ok (.bipush 12, 2) := by decide +kernel
theorem d_Walk_init_52 : decode b_Walk_init 52 = .ok (.newarray .int, 2) := by decide +kernel
theorem d_Walk_init_54 : decode b_Walk_init 54 = .ok (.putfield 31, 3) := by decide +kernel
theorem d_Walk_init_57 : decode b_Walk_init 57 = .ok (.aload_n 0, 1) := by decide +kernel
theorem d_Walk_init_58 : decode b_Walk_init 58 = .ok (.bipush 12, 2) := by decide +kernel
theorem d_Walk_init_60 : decode b_Walk_init 60 = .ok (.newarray .int, 2) := by decide +kernel
theorem d_Walk_init_62 : decode b_Walk_init 62 = .ok (.putfield 34, 3) := by decide +kernel
theorem d_Walk_init_65 : decode b_Walk_init 65 = .ok (.aload_n 0, 1) := by decide +kernel
theorem d_Walk_init_66 : decode b_Walk_init 66 = .ok (.bipush 12, 2) := by decide +kernel
theorem d_Walk_init_68 : decode b_Walk_init 68 = .ok (.newarray .int, 2) := by decide +kernel
theorem d_Walk_init_70 : decode b_Walk_init 70 = .ok (.putfield 37, 3) := by decide +kernel
theorem d_Walk_init_73 : decode b_Walk_init 73 = .ok (.aload_n 0, 1) := by decide +kernel
theorem d_Walk_init_74 : decode b_Walk_init 74 = .ok (.bipush 10, 2) := by decide +kernel
theorem d_Walk_init_76 : decode b_Walk_init 76 = .ok (.newarray .int, 2) := by decide +kernel
theorem d_Walk_init_78 : decode b_Walk_init 78 = .ok (.putfield 40, 3) := by decide +kernel
theorem d_Walk_init_81 : decode b_Walk_init 81 = .ok (.aload_n 0, 1) := by decide +kernel
theorem d_Walk_init_82 : decode b_Walk_init 82 = .ok (.iconst 0, 1) := by decide +kernel
theorem d_Walk_init_83 : decode b_Walk_init 83 = .ok (.putfield 43, 3) := by decide +kernel
theorem d_Walk_init_86 : decode b_Walk_init 86 = .ok (.aload_n 0, 1) := by decide +kernel
theorem d_Walk_init_87 : decode b_Walk_init 87 = .ok (.bipush 13, 2) := by decide +kernel
theorem d_Walk_init_89 : decode b_Walk_init 89 = .ok (.putfield 46, 3) := by decide +kernel
theorem d_Walk_init_92 : decode b_Walk_init 92 = .ok (.aload_n 0, 1) := by decide +kernel
theorem d_Walk_init_93 : decode b_Walk_init 93 = .ok (.iconst 0, 1) := by decide +kernel
theorem d_Walk_init_94 : decode b_Walk_init 94 = .ok (.putfield 49, 3) := by decide +kernel
theorem d_Walk_init_97 : decode b_Walk_init 97 = .ok (.return_, 1) := by decide +kernel
abbrev y_Hb_init : MethodName := ⟨"SmallHarbour", "<init>", "()V"⟩
abbrev b_Hb_init : ByteArray := prog_1_method_1_code
theorem mi_Hb_init : MI y_Hb_init b_Hb_init 1 none 0 := ⟨w_21, w_1, by decide +kernel, by decide, by decide⟩
theorem d_Hb_init_0 : decode b_Hb_init 0 = .ok (.aload_n 0, 1) := by decide +kernel
theorem d_Hb_init_1 : decode b_Hb_init 1 = .ok (.invokespecial 1, 3) := by decide +kernel
theorem d_Hb_init_4 : decode b_Hb_init 4 = .ok (.aload_n 0, 1) := by decide +kernel
theorem d_Hb_init_5 : decode b_Hb_init 5 = .ok (.new 7, 3) := by decide +kernel
theorem d_Hb_init_8 : decode b_Hb_init 8 = .ok (.dup, 1) := by decide +kernel
theorem d_Hb_init_9 : decode b_Hb_init 9 = .ok (.invokespecial 9, 3) := by decide +kernel
theorem d_Hb_init_12 : decode b_Hb_init 12 = .ok (.putfield 10, 3) := by decide +kernel
theorem d_Hb_init_15 : decode b_Hb_init 15 = .ok (.aload_n 0, 1) := by decide +kernel
theorem d_Hb_init_16 : decode b_Hb_init 16 = .ok (.new 16, 3) := by decide +kernel
theorem d_Hb_init_19 : decode b_Hb_init 19 = .ok (.dup, 1) := by decide +kernel
theorem d_Hb_init_20 : decode b_Hb_init 20 = .ok (.invokespecial 18, 3) := by decide +kernel
theorem d_Hb_init_23 : decode b_Hb_init 23 = .ok (.putfield 19, 3) := by decide +kernel
theorem d_Hb_init_26 : decode b_Hb_init 26 = .ok (.aload_n 0, 1) := by decide +kernel
theorem d_Hb_init_27 : decode b_Hb_init 27 = .ok (.new 23, 3) := by decide +kernel
theorem d_Hb_init_30 : decode b_Hb_init 30 = .ok (.dup, 1) := by decide +kernel
theorem d_Hb_init_31 : decode b_Hb_init 31 = .ok (.invokespecial 25, 3) := by decide +kernel
theorem d_Hb_init_34 : decode b_Hb_init 34 = .ok (.putfield 26, 3) := by decide +kernel
theorem d_Hb_init_37 : decode b_Hb_init 37 = .ok (.aload_n 0, 1) := by decide +kernel
theorem d_Hb_init_38 : decode b_Hb_init 38 = .ok (.new 30, 3) := by decide +kernel
theorem d_Hb_init_41 : decode b_Hb_init 41 = .ok (.dup, 1) := by decide +kernel
theorem d_Hb_init_42 : decode b_Hb_init 42 = .ok (.invokespecial 32, 3) := by decide +kernel
theorem d_Hb_init_45 : decode b_Hb_init 45 = .ok (.putfield 33, 3) := by decide +kernel
theorem d_Hb_init_48 : decode b_Hb_init 48 = .ok (.aload_n 0, 1) := by decide +kernel
theorem d_Hb_init_49 : decode b_Hb_init 49 = .ok (.new 37, 3) := by decide +kernel
theorem d_Hb_init_52 : decode b_Hb_init 52 = .ok (.dup, 1) := by decide +kernel
theorem d_Hb_init_53 : decode b_Hb_init 53 = .ok (.invokespecial 39, 3) := by decide +kernel
theorem d_Hb_init_56 : decode b_Hb_init 56 = .ok (.putfield 40, 3) := by decide +kernel
theorem d_Hb_init_59 : decode b_Hb_init 59 = .ok (.aload_n 0, 1) := by decide +kernel
theorem d_Hb_init_60 : decode b_Hb_init 60 = .ok (.new 44, 3) := by decide +kernel
theorem d_Hb_init_63 : decode b_Hb_init 63 = .ok (.dup, 1) := by decide +kernel
theorem d_Hb_init_64 : decode b_Hb_init 64 = .ok (.invokespecial 46, 3) := by decide +kernel
theorem d_Hb_init_67 : decode b_Hb_init 67 = .ok (.putfield 47, 3) := by decide +kernel
theorem d_Hb_init_70 : decode b_Hb_init 70 = .ok (.aload_n 0, 1) := by decide +kernel
theorem d_Hb_init_71 : decode b_Hb_init 71 = .ok (.new 51, 3) := by decide +kernel
theorem d_Hb_init_74 : decode b_Hb_init 74 = .ok (.dup, 1) := by decide +kernel
theorem d_Hb_init_75 : decode b_Hb_init 75 = .ok (.invokespecial 53, 3) := by decide +kernel
theorem d_Hb_init_78 : decode b_Hb_init 78 = .ok (.putfield 54, 3) := by decide +kernel
theorem d_Hb_init_81 : decode b_Hb_init 81 = .ok (.aload_n 0, 1) := by decide +kernel
theorem d_Hb_init_82 : decode b_Hb_init 82 = .ok (.new 58, 3) := by decide +kernel
theorem d_Hb_init_85 : decode b_Hb_init 85 = .ok (.dup, 1) := by decide +kernel
theorem d_Hb_init_86 : decode b_Hb_init 86 = .ok (.invokespecial 60, 3) := by decide +kernel
theorem d_Hb_init_89 : decode b_Hb_init 89 = .ok (.putfield 61, 3) := by decide +kernel
theorem d_Hb_init_92 : decode b_Hb_init 92 = .ok (.aload_n 0, 1) := by decide +kernel
theorem d_Hb_init_93 : decode b_Hb_init 93 = .ok (.new 65, 3) := by decide +kernel
theorem d_Hb_init_96 : decode b_Hb_init 96 = .ok (.dup, 1) := by decide +kernel
theorem d_Hb_init_97 : decode b_Hb_init 97 = .ok (.invokespecial 67, 3) := by decide +kernel
theorem d_Hb_init_100 : decode b_Hb_init 100 = .ok (.putfield 68, 3) := by decide +kernel
theorem d_Hb_init_103 : decode b_Hb_init 103 = .ok (.aload_n 0, 1) := by decide +kernel
theorem d_Hb_init_104 : decode b_Hb_init 104 = .ok (.new 72, 3) := by decide +kernel
theorem d_Hb_init_107 : decode b_Hb_init 107 = .ok (.dup, 1) := by decide +kernel
theorem d_Hb_init_108 : decode b_Hb_init 108 = .ok (.aload_n 0, 1) := by decide +kernel
theorem d_Hb_init_109 : decode b_Hb_init 109 = .ok (.getfield 68, 3) := by decide +kernel
theorem d_Hb_init_112 : decode b_Hb_init 112 = .ok (.invokespecial 74, 3) := by decide +kernel
theorem d_Hb_init_115 : decode b_Hb_init 115 = .ok (.putfield 77, 3) := by decide +kernel
theorem d_Hb_init_118 : decode b_Hb_init 118 = .ok (.aload_n 0, 1) := by decide +kernel
theorem d_Hb_init_119 : decode b_Hb_init 119 = .ok (.new 81, 3) := by decide +kernel
theorem d_Hb_init_122 : decode b_Hb_init 122 = .ok (.dup, 1) := by decide +kernel
theorem d_Hb_init_123 : decode b_Hb_init 123 = .ok (.invokespecial 83, 3) := by decide +kernel
theorem d_Hb_init_126 : decode b_Hb_init 126 = .ok (.putfield 84, 3) := by decide +kernel
theorem d_Hb_init_129 : decode b_Hb_init 129 = .ok (.aload_n 0, 1) := by decide +kernel
theorem d_Hb_init_130 : decode b_Hb_init 130 = .ok (.iconst 3, 1) := by decide +kernel
theorem d_Hb_init_131 : decode b_Hb_init 131 = .ok (.bipush 12, 2) := by decide +kernel
theorem d_Hb_init_133 : decode b_Hb_init 133 = .ok (.multianewarray 88 2, 4) := by decide +kernel
theorem d_Hb_init_137 : decode b_Hb_init 137 = .ok (.putfield 90, 3) := by decide +kernel
theorem d_Hb_init_140 : decode b_Hb_init 140 = .ok (.aload_n 0, 1) := by decide +kernel
theorem d_Hb_init_141 : decode b_Hb_init 141 = .ok (.iconst 0, 1) := by decide +kernel
theorem d_Hb_init_142 : decode b_Hb_init 142 = .ok (.putfield 93, 3) := by decide +kernel
theorem d_Hb_init_145 : decode b_Hb_init 145 = .ok (.return_, 1) := by decide +kernel
abbrev y_Md_init : MethodName := ⟨"SmallHarbourModel", "<init>", "()V"⟩
abbrev b_Md_init : ByteArray := prog_14_method_1_code
theorem mi_Md_init : MI y_Md_init b_Md_init 1 none 0 := ⟨w_834, w_13, by decide +kernel, by decide, by decide⟩
theorem d_Md_init_0 : decode b_Md_init 0 = .ok (.aload_n 0, 1) := by decide +kernel
theorem d_Md_init_1 : decode b_Md_init 1 = .ok (.invokespecial 1, 3) := by decide +kernel
theorem d_Md_init_4 : decode b_Md_init 4 = .ok (.aload_n 0, 1) := by decide +kernel
theorem d_Md_init_5 : decode b_Md_init 5 = .ok (.iconst 1, 1) := by decide +kernel
theorem d_Md_init_6 : decode b_Md_init 6 = .ok (.putfield 7, 3) := by decide +kernel
theorem d_Md_init_9 : decode b_Md_init 9 = .ok (.aload_n 0, 1) := by decide +kernel
theorem d_Md_init_10 : decode b_Md_init 10 = .ok (.bipush 30, 2) := by decide +kernel
theorem d_Md_init_12 : decode b_Md_init 12 = .ok (.newarray .int, 2) := by decide +kernel
theorem d_Md_init_14 : decode b_Md_init 14 = .ok (.putfield 13, 3) := by decide +kernel
theorem d_Md_init_17 : decode b_Md_init 17 = .ok (.aload_n 0, 1) := by decide +kernel
theorem d_Md_init_18 : decode b_Md_init 18 = .ok (.bipush 10, 2) := by decide +kernel
theorem d_Md_init_20 : decode b_Md_init 20 = .ok (.newarray .int, 2) := by decide +kernel
theorem d_Md_init_22 : decode b_Md_init 22 = .ok (.putfield 17, 3) := by decide +kernel
theorem d_Md_init_25 : decode b_Md_init 25 = .ok (.aload_n 0, 1) := by decide +kernel
theorem d_Md_init_26 : decode b_Md_init 26 = .ok (.bipush 10, 2) := by decide +kernel
theorem d_Md_init_28 : decode b_Md_init 28 = .ok (.newarray .int, 2) := by decide +kernel
theorem d_Md_init_30 : decode b_Md_init 30 = .ok (.putfield 20, 3) := by decide +kernel
theorem d_Md_init_33 : decode b_Md_init 33 = .ok (.aload_n 0, 1) := by decide +kernel
theorem d_Md_init_34 : decode b_Md_init 34 = .ok (.bipush 30, 2) := by decide +kernel
theorem d_Md_init_36 : decode b_Md_init 36 = .ok (.newarray .int, 2) := by decide +kernel
theorem d_Md_init_38 : decode b_Md_init 38 = .ok (.putfield 23, 3) := by decide +kernel
theorem d_Md_init_41 : decode b_Md_init 41 = .ok (.aload_n 0, 1) := by decide +kernel
theorem d_Md_init_42 : decode b_Md_init 42 = .ok (.bipush 30, 2) := by decide +kernel
theorem d_Md_init_44 : decode b_Md_init 44 = .ok (.newarray .int, 2) := by decide +kernel
theorem d_Md_init_46 : decode b_Md_init 46 = .ok (.putfield 26, 3) := by decide +kernel
theorem d_Md_init_49 : decode b_Md_init 49 = .ok (.aload_n 0, 1) := by decide +kernel
theorem d_Md_init_50 : decode b_Md_init 50 = .ok (.bipush 30, 2) := by decide +kernel
theorem d_Md_init_52 : decode b_Md_init 52 = .ok (.newarray .int, 2) := by decide +kernel
theorem d_Md_init_54 : decode b_Md_init 54 = .ok (.putfield 29, 3) := by decide +kernel
theorem d_Md_init_57 : decode b_Md_init 57 = .ok (.aload_n 0, 1) := by decide +kernel
theorem d_Md_init_58 : decode b_Md_init 58 = .ok (.bipush 30, 2) := by decide +kernel
theorem d_Md_init_60 : decode b_Md_init 60 = .ok (.newarray .int, 2) := by decide +kernel
theorem d_Md_init_62 : decode b_Md_init 62 = .ok (.putfield 32, 3) := by decide +kernel
theorem d_Md_init_65 : decode b_Md_init 65 = .ok (.aload_n 0, 1) := by decide +kernel
theorem d_Md_init_66 : decode b_Md_init 66 = .ok (.bipush 60, 2) := by decide +kernel
theorem d_Md_init_68 : decode b_Md_init 68 = .ok (.newarray .int, 2) := by decide +kernel
theorem d_Md_init_70 : decode b_Md_init 70 = .ok (.putfield 35, 3) := by decide +kernel
theorem d_Md_init_73 : decode b_Md_init 73 = .ok (.aload_n 0, 1) := by decide +kernel
theorem d_Md_init_74 : decode b_Md_init 74 = .ok (.bipush 60, 2) := by decide +kernel
theorem d_Md_init_76 : decode b_Md_init 76 = .ok (.newarray .int, 2) := by decide +kernel
theorem d_Md_init_78 : decode b_Md_init 78 = .ok (.putfield 38, 3) := by decide +kernel
theorem d_Md_init_81 : decode b_Md_init 81 = .ok (.aload_n 0, 1) := by decide +kernel
theorem d_Md_init_82 : decode b_Md_init 82 = .ok (.bipush 60, 2) := by decide +kernel
theorem d_Md_init_84 : decode b_Md_init 84 = .ok (.newarray .int, 2) := by decide +kernel
theorem d_Md_init_86 : decode b_Md_init 86 = .ok (.putfield 41, 3) := by decide +kernel
theorem d_Md_init_89 : decode b_Md_init 89 = .ok (.aload_n 0, 1) := by decide +kernel
theorem d_Md_init_90 : decode b_Md_init 90 = .ok (.bipush 40, 2) := by decide +kernel
theorem d_Md_init_92 : decode b_Md_init 92 = .ok (.newarray .int, 2) := by decide +kernel
theorem d_Md_init_94 : decode b_Md_init 94 = .ok (.putfield 44, 3) := by decide +kernel
theorem d_Md_init_97 : decode b_Md_init 97 = .ok (.aload_n 0, 1) := by decide +kernel
theorem d_Md_init_98 : decode b_Md_init 98 = .ok (.bipush 40, 2) := by decide +kernel
theorem d_Md_init_100 : decode b_Md_init 100 = .ok (.newarray .int, 2) := by decide +kernel
theorem d_Md_init_102 : decode b_Md_init 102 = .ok (.putfield 47, 3) := by decide +kernel
theorem d_Md_init_105 : decode b_Md_init 105 = .ok (.aload_n 0, 1) := by decide +kernel
theorem d_Md_init_106 : decode b_Md_init 106 = .ok (.bipush 40, 2) := by decide +kernel
theorem d_Md_init_108 : decode b_Md_init 108 = .ok (.newarray .int, 2) := by decide +kernel
theorem d_Md_init_110 : decode b_Md_init 110 = .ok (.putfield 50, 3) := by decide +kernel
theorem d_Md_init_113 : decode b_Md_init 113 = .ok (.aload_n 0, 1) := by decide +kernel
theorem d_Md_init_114 : decode b_Md_init 114 = .ok (.bipush 40, 2) := by decide +kernel
theorem d_Md_init_116 : decode b_Md_init 116 = .ok (.newarray .int, 2) := by decide +kernel
theorem d_Md_init_118 : decode b_Md_init 118 = .ok (.putfield 53, 3) := by decide +kernel
theorem d_Md_init_121 : decode b_Md_init 121 = .ok (.aload_n 0, 1) := by decide +kernel
theorem d_Md_init_122 : decode b_Md_init 122 = .ok (.bipush 12, 2) := by decide +kernel
theorem d_Md_init_124 : decode b_Md_init 124 = .ok (.newarray .int, 2) := by decide +kernel
theorem d_Md_init_126 : decode b_Md_init 126 = .ok (.putfield 56, 3) := by decide +kernel
theorem d_Md_init_129 : decode b_Md_init 129 = .ok (.aload_n 0, 1) := by decide +kernel
theorem d_Md_init_130 : decode b_Md_init 130 = .ok (.bipush 12, 2) := by decide +kernel
theorem d_Md_init_132 : decode b_Md_init 132 = .ok (.newarray .int, 2) := by decide +kernel
theorem d_Md_init_134 : decode b_Md_init 134 = .ok (.putfield 59, 3) := by decide +kernel
theorem d_Md_init_137 : decode b_Md_init 137 = .ok (.aload_n 0, 1) := by decide +kernel
theorem d_Md_init_138 : decode b_Md_init 138 = .ok (.bipush 12, 2) := by decide +kernel
theorem d_Md_init_140 : decode b_Md_init 140 = .ok (.newarray .int, 2) := by decide +kernel
theorem d_Md_init_142 : decode b_Md_init 142 = .ok (.putfield 62, 3) := by decide +kernel
theorem d_Md_init_145 : decode b_Md_init 145 = .ok (.aload_n 0, 1) := by decide +kernel
theorem d_Md_init_146 : decode b_Md_init 146 = .ok (.bipush 12, 2) := by decide +kernel
theorem d_Md_init_148 : decode b_Md_init 148 = .ok (.newarray .int, 2) := by decide +kernel
theorem d_Md_init_150 : decode b_Md_init 150 = .ok (.putfield 65, 3) := by decide +kernel
theorem d_Md_init_153 : decode b_Md_init 153 = .ok (.aload_n 0, 1) := by decide +kernel
theorem d_Md_init_154 : decode b_Md_init 154 = .ok (.bipush 12, 2) := by decide +kernel
theorem d_Md_init_156 : decode b_Md_init 156 = .ok (.newarray .int, 2) := by decide +kernel
theorem d_Md_init_158 : decode b_Md_init 158 = .ok (.putfield 68, 3) := by decide +kernel
theorem d_Md_init_161 : decode b_Md_init 161 = .ok (.aload_n 0, 1) := by decide +kernel
theorem d_Md_init_162 : decode b_Md_init 162 = .ok (.bipush 12, 2) := by decide +kernel
theorem d_Md_init_164 : decode b_Md_init 164 = .ok (.newarray .int, 2) := by decide +kernel
theorem d_Md_init_166 : decode b_Md_init 166 = .ok (.putfield 71, 3) := by decide +kernel
theorem d_Md_init_169 : decode b_Md_init 169 = .ok (.aload_n 0, 1) := by decide +kernel
theorem d_Md_init_170 : decode b_Md_init 170 = .ok (.sipush 500, 3) := by decide +kernel
theorem d_Md_init_173 : decode b_Md_init 173 = .ok (.putfield 74, 3) := by decide +kernel
theorem d_Md_init_176 : decode b_Md_init 176 = .ok (.aload_n 0, 1) := by decide +kernel
theorem d_Md_init_177 : decode b_Md_init 177 = .ok (.sipush 300, 3) := by decide +kernel
theorem d_Md_init_180 : decode b_Md_init 180 = .ok (.putfield 77, 3) := by decide +kernel
theorem d_Md_init_183 : decode b_Md_init 183 = .ok (.aload_n 0, 1) := by decide +kernel
theorem d_Md_init_184 : decode b_Md_init 184 = .ok (.sipush 400, 3) := by decide +kernel
theorem d_Md_init_187 : decode b_Md_init 187 = .ok (.newarray .boolean, 2) := by decide +kernel
theorem d_Md_init_189 : decode b_Md_init 189 = .ok (.putfield 80, 3) := by decide +kernel
theorem d_Md_init_192 : decode b_Md_init 192 = .ok (.aload_n 0, 1) := by decide +kernel
theorem d_Md_init_193 : decode b_Md_init 193 = .ok (.bipush 40, 2) := by decide +kernel
theorem d_Md_init_195 : decode b_Md_init 195 = .ok (.newarray .int, 2) := by decide +kernel
theorem d_Md_init_197 : decode b_Md_init 197 = .ok (.putfield 84, 3) := by decide +kernel
theorem d_Md_init_200 : decode b_Md_init 200 = .ok (.aload_n 0, 1) := by decide +kernel
theorem d_Md_init_201 : decode b_Md_init 201 = .ok (.bipush 40, 2) := by decide +kernel
theorem d_Md_init_203 : decode b_Md_init 203 = .ok (.newarray .int, 2) := by decide +kernel
theorem d_Md_init_205 : decode b_Md_init 205 = .ok (.putfield 87, 3) := by decide +kernel
theorem d_Md_init_208 : decode b_Md_init 208 = .ok (.aload_n 0, 1) := by decide +kernel
theorem d_Md_init_209 : decode b_Md_init 209 = .ok (.bipush 40, 2) := by decide +kernel
theorem d_Md_init_211 : decode b_Md_init 211 = .ok (.newarray .int, 2) := by decide +kernel
theorem d_Md_init_213 : decode b_Md_init 213 = .ok (.putfield 90, 3) := by decide +kernel
theorem d_Md_init_216 : decode b_Md_init 216 = .ok (.aload_n 0, 1) := by decide +kernel
theorem d_Md_init_217 : decode b_Md_init 217 = .ok (.bipush 40, 2) := by decide +kernel
theorem d_Md_init_219 : decode b_Md_init 219 = .ok (.newarray .int, 2) := by decide +kernel
theorem d_Md_init_221 : decode b_Md_init 221 = .ok (.putfield 93, 3) := by decide +kernel
theorem d_Md_init_224 : decode b_Md_init 224 = .ok (.aload_n 0, 1) := by decide +kernel
theorem d_Md_init_225 : decode b_Md_init 225 = .ok (.iconst 1, 1) := by decide +kernel
theorem d_Md_init_226 : decode b_Md_init 226 = .ok (.putfield 96, 3) := by decide +kernel
theorem d_Md_init_229 : decode b_Md_init 229 = .ok (.aload_n 0, 1) := by decide +kernel
theorem d_Md_init_230 : decode b_Md_init 230 = .ok (.bipush 100, 2) := by decide +kernel
theorem d_Md_init_232 : decode b_Md_init 232 = .ok (.putfield 99, 3) := by decide +kernel
theorem d_Md_init_235 : decode b_Md_init 235 = .ok (.aload_n 0, 1) := by decide +kernel
theorem d_Md_init_236 : decode b_Md_init 236 = .ok (.bipush 9, 2) := by decide +kernel
theorem d_Md_init_238 : decode b_Md_init 238 = .ok (.newarray .int, 2) := by decide +kernel
theorem d_Md_init_240 : decode b_Md_init 240 = .ok (.putfield 102, 3) := by decide +kernel
theorem d_Md_init_243 : decode b_Md_init 243 = .ok (.aload_n 0, 1) := by decide +kernel
theorem d_Md_init_244 : decode b_Md_init 244 = .ok (.bipush 9, 2) := by decide +kernel
theorem d_Md_init_246 : decode b_Md_init 246 = .ok (.newarray .int, 2) := by decide +kernel
theorem d_Md_init_248 : decode b_Md_init 248 = .ok (.putfield 105, 3) := by decide +kernel
theorem d_Md_init_251 : decode b_Md_init 251 = .ok (.aload_n 0, 1) := by decide +kernel
theorem d_Md_init_252 : decode b_Md_init 252 = .ok (.bipush 9, 2) := by decide +kernel
theorem d_Md_init_254 : decode b_Md_init 254 = .ok (.newarray .int, 2) := by decide +kernel
theorem d_Md_init_256 : decode b_Md_init 256 = .ok (.putfield 108, 3) := by decide +kernel
theorem d_Md_init_259 : decode b_Md_init 259 = .ok (.aload_n 0, 1) := by decide +kernel
theorem d_Md_init_260 : decode b_Md_init 260 = .ok (.bipush 9, 2) := by decide +kernel
theorem d_Md_init_262 : decode b_Md_init 262 = .ok (.newarray .int, 2) := by decide +kernel
theorem d_Md_init_264 : decode b_Md_init 264 = .ok (.putfield 111, 3) := by decide +kernel
theorem d_Md_init_267 : decode b_Md_init 267 = .ok (.aload_n 0, 1) := by decide +kernel
theorem d_Md_init_268 : decode b_Md_init 268 = .ok (.sipush 200, 3) := by decide +kernel
theorem d_Md_init_271 : decode b_Md_init 271 = .ok (.newarray .int, 2) := by decide +kernel
theorem d_Md_init_273 : decode b_Md_init 273 = .ok (.putfield 114, 3) := by decide +kernel
theorem d_Md_init_276 : decode b_Md_init 276 = .ok (.aload_n 0, 1) := by decide +kernel
theorem d_Md_init_277 : decode b_Md_init 277 = .ok (.bipush 8, 2) := by decide +kernel
theorem d_Md_init_279 : decode b_Md_init 279 = .ok (.newarray .int, 2) := by decide +kernel
theorem d_Md_init_281 : decode b_Md_init 281 = .ok (.putfield 117, 3) := by decide +kernel
theorem d_Md_init_284 : decode b_Md_init 284 = .ok (.aload_n 0, 1) := by decide +kernel
theorem d_Md_init_285 : decode b_Md_init 285 = .ok (.bipush 9, 2) := by decide +kernel
theorem d_Md_init_287 : decode b_Md_init 287 = .ok (.newarray .int, 2) := by decide +kernel
theorem d_Md_init_289 : decode b_Md_init 289 = .ok (.putfield 120, 3) := by decide +kernel
theorem d_Md_init_292 : decode b_Md_init 292 = .ok (.aload_n 0, 1) := by decide +kernel
theorem d_Md_init_293 : decode b_Md_init 293 = .ok (.sipush 1000, 3) := by decide +kernel
theorem d_Md_init_296 : decode b_Md_init 296 = .ok (.newarray .int, 2) := by decide +kernel
theorem d_Md_init_298 : decode b_Md_init 298 = .ok (.putfield 123, 3) := by decide +kernel
theorem d_Md_init_301 : decode b_Md_init 301 = .ok (.aload_n 0, 1) := by decide +kernel
theorem d_Md_init_302 : decode b_Md_init 302 = .ok (.sipush 1000, 3) := by decide +kernel
theorem d_Md_init_305 : decode b_Md_init 305 = .ok (.newarray .int, 2) := by decide +kernel
theorem d_Md_init_307 : decode b_Md_init 307 = .ok (.putfield 126, 3) := by decide +kernel
theorem d_Md_init_310 : decode b_Md_init 310 = .ok (.aload_n 0, 1) := by decide +kernel
theorem d_Md_init_311 : decode b_Md_init 311 = .ok (.iconst (-1), 1) := by decide +kernel
theorem d_Md_init_312 : decode b_Md_init 312 = .ok (.putfield 129, 3) := by decide +kernel
theorem d_Md_init_315 : decode b_Md_init 315 = .ok (.aload_n 0, 1) := by decide +kernel
theorem d_Md_init_316 : decode b_Md_init 316 = .ok (.iconst (-1), 1) := by decide +kernel
theorem d_Md_init_317 : decode b_Md_init 317 = .ok (.putfield 132, 3) := by decide +kernel
theorem d_Md_init_320 : decode b_Md_init 320 = .ok (.aload_n 0, 1) := by decide +kernel
theorem d_Md_init_321 : decode b_Md_init 321 = .ok (.sipush 130, 3) := by decide +kernel
theorem d_Md_init_324 : decode b_Md_init 324 = .ok (.newarray .int, 2) := by decide +kernel
theorem d_Md_init_326 : decode b_Md_init 326 = .ok (.putfield 135, 3) := by decide +kernel
theorem d_Md_init_329 : decode b_Md_init 329 = .ok (.aload_n 0, 1) := by decide +kernel
theorem d_Md_init_330 : decode b_Md_init 330 = .ok (.sipush 130, 3) := by decide +kernel
theorem d_Md_init_333 : decode b_Md_init 333 = .ok (.newarray .int, 2) := by decide +kernel
theorem d_Md_init_335 : decode b_Md_init 335 = .ok (.putfield 138, 3) := by decide +kernel
theorem d_Md_init_338 : decode b_Md_init 338 = .ok (.return_, 1) := by decide +kernel
