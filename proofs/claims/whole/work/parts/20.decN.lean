theorem o_N_init : (mn 0).cls = "NeedsALoser" := by decide +kernel
theorem l_N_init : ml 0 = 1 := by decide +kernel
theorem t_N_init : mr 0 = none := by decide +kernel
theorem i_N_init_0 : decode (mb 0) 0 = .ok (.aload_n 0, 1) := by decide +kernel
theorem i_N_init_1 : decode (mb 0) 1 = .ok (.invokespecial 1, 3) := by decide +kernel
theorem i_N_init_4 : decode (mb 0) 4 = .ok (.aload_n 0, 1) := by decide +kernel
theorem i_N_init_5 : decode (mb 0) 5 = .ok (.new 7, 3) := by decide +kernel
theorem i_N_init_8 : decode (mb 0) 8 = .ok (.dup, 1) := by decide +kernel
theorem i_N_init_9 : decode (mb 0) 9 = .ok (.invokespecial 9, 3) := by decide +kernel
theorem i_N_init_12 : decode (mb 0) 12 = .ok (.putfield 10, 3) := by decide +kernel
theorem i_N_init_15 : decode (mb 0) 15 = .ok (.aload_n 0, 1) := by decide +kernel
theorem i_N_init_16 : decode (mb 0) 16 = .ok (.new 7, 3) := by decide +kernel
theorem i_N_init_19 : decode (mb 0) 19 = .ok (.dup, 1) := by decide +kernel
theorem i_N_init_20 : decode (mb 0) 20 = .ok (.invokespecial 9, 3) := by decide +kernel
theorem i_N_init_23 : decode (mb 0) 23 = .ok (.putfield 16, 3) := by decide +kernel
theorem i_N_init_26 : decode (mb 0) 26 = .ok (.aload_n 0, 1) := by decide +kernel
theorem i_N_init_27 : decode (mb 0) 27 = .ok (.new 7, 3) := by decide +kernel
theorem i_N_init_30 : decode (mb 0) 30 = .ok (.dup, 1) := by decide +kernel
theorem i_N_init_31 : decode (mb 0) 31 = .ok (.invokespecial 9, 3) := by decide +kernel
theorem i_N_init_34 : decode (mb 0) 34 = .ok (.putfield 19, 3) := by decide +kernel
theorem i_N_init_37 : decode (mb 0) 37 = .ok (.aload_n 0, 1) := by decide +kernel
theorem i_N_init_38 : decode (mb 0) 38 = .ok (.iconst 0, 1) := by decide +kernel
theorem i_N_init_39 : decode (mb 0) 39 = .ok (.putfield 22, 3) := by decide +kernel
theorem i_N_init_42 : decode (mb 0) 42 = .ok (.aload_n 0, 1) := by decide +kernel
theorem i_N_init_43 : decode (mb 0) 43 = .ok (.new 26, 3) := by decide +kernel
theorem i_N_init_46 : decode (mb 0) 46 = .ok (.dup, 1) := by decide +kernel
theorem i_N_init_47 : decode (mb 0) 47 = .ok (.invokespecial 28, 3) := by decide +kernel
theorem i_N_init_50 : decode (mb 0) 50 = .ok (.putfield 29, 3) := by decide +kernel
theorem i_N_init_53 : decode (mb 0) 53 = .ok (.aload_n 0, 1) := by decide +kernel
theorem i_N_init_54 : decode (mb 0) 54 = .ok (.new 33, 3) := by decide +kernel
theorem i_N_init_57 : decode (mb 0) 57 = .ok (.dup, 1) := by decide +kernel
theorem i_N_init_58 : decode (mb 0) 58 = .ok (.invokespecial 35, 3) := by decide +kernel
theorem i_N_init_61 : decode (mb 0) 61 = .ok (.putfield 36, 3) := by decide +kernel
theorem i_N_init_64 : decode (mb 0) 64 = .ok (.aload_n 0, 1) := by decide +kernel
theorem i_N_init_65 : decode (mb 0) 65 = .ok (.new 40, 3) := by decide +kernel
theorem i_N_init_68 : decode (mb 0) 68 = .ok (.dup, 1) := by decide +kernel
theorem i_N_init_69 : decode (mb 0) 69 = .ok (.invokespecial 42, 3) := by decide +kernel
theorem i_N_init_72 : decode (mb 0) 72 = .ok (.putfield 43, 3) := by decide +kernel
theorem i_N_init_75 : decode (mb 0) 75 = .ok (.aload_n 0, 1) := by decide +kernel
theorem i_N_init_76 : decode (mb 0) 76 = .ok (.new 47, 3) := by decide +kernel
theorem i_N_init_79 : decode (mb 0) 79 = .ok (.dup, 1) := by decide +kernel
theorem i_N_init_80 : decode (mb 0) 80 = .ok (.invokespecial 49, 3) := by decide +kernel
theorem i_N_init_83 : decode (mb 0) 83 = .ok (.putfield 50, 3) := by decide +kernel
theorem i_N_init_86 : decode (mb 0) 86 = .ok (.aload_n 0, 1) := by decide +kernel
theorem i_N_init_87 : decode (mb 0) 87 = .ok (.iconst 5, 1) := by decide +kernel
theorem i_N_init_88 : decode (mb 0) 88 = .ok (.newarray .int, 2) := by decide +kernel
theorem i_N_init_90 : decode (mb 0) 90 = .ok (.putfield 54, 3) := by decide +kernel
theorem i_N_init_93 : decode (mb 0) 93 = .ok (.return_, 1) := by decide +kernel
theorem o_T_init : (mn 2).cls = "NeedsALoser$Town" := by decide +kernel
theorem l_T_init : ml 2 = 1 := by decide +kernel
theorem t_T_init : mr 2 = none := by decide +kernel
theorem i_T_init_0 : decode (mb 2) 0 = .ok (.aload_n 0, 1) := by decide +kernel
theorem i_T_init_1 : decode (mb 2) 1 = .ok (.invokespecial 3, 3) := by decide +kernel
theorem i_T_init_4 : decode (mb 2) 4 = .ok (.aload_n 0, 1) := by decide +kernel
theorem i_T_init_5 : decode (mb 2) 5 = .ok (.iconst 0, 1) := by decide +kernel
theorem i_T_init_6 : decode (mb 2) 6 = .ok (.putfield 9, 3) := by decide +kernel
theorem i_T_init_9 : decode (mb 2) 9 = .ok (.aload_n 0, 1) := by decide +kernel
theorem i_T_init_10 : decode (mb 2) 10 = .ok (.iconst 0, 1) := by decide +kernel
theorem i_T_init_11 : decode (mb 2) 11 = .ok (.putfield 15, 3) := by decide +kernel
theorem i_T_init_14 : decode (mb 2) 14 = .ok (.aload_n 0, 1) := by decide +kernel
theorem i_T_init_15 : decode (mb 2) 15 = .ok (.iconst 1, 1) := by decide +kernel
theorem i_T_init_16 : decode (mb 2) 16 = .ok (.putfield 18, 3) := by decide +kernel
theorem i_T_init_19 : decode (mb 2) 19 = .ok (.aload_n 0, 1) := by decide +kernel
theorem i_T_init_20 : decode (mb 2) 20 = .ok (.iconst 1, 1) := by decide +kernel
theorem i_T_init_21 : decode (mb 2) 21 = .ok (.putfield 21, 3) := by decide +kernel
theorem i_T_init_24 : decode (mb 2) 24 = .ok (.aload_n 0, 1) := by decide +kernel
theorem i_T_init_25 : decode (mb 2) 25 = .ok (.iconst 5, 1) := by decide +kernel
theorem i_T_init_26 : decode (mb 2) 26 = .ok (.putfield 24, 3) := by decide +kernel
theorem i_T_init_29 : decode (mb 2) 29 = .ok (.aload_n 0, 1) := by decide +kernel
theorem i_T_init_30 : decode (mb 2) 30 = .ok (.bipush 50, 2) := by decide +kernel
theorem i_T_init_32 : decode (mb 2) 32 = .ok (.putfield 27, 3) := by decide +kernel
theorem i_T_init_35 : decode (mb 2) 35 = .ok (.aload_n 0, 1) := by decide +kernel
theorem i_T_init_36 : decode (mb 2) 36 = .ok (.iconst 1, 1) := by decide +kernel
theorem i_T_init_37 : decode (mb 2) 37 = .ok (.putfield 30, 3) := by decide +kernel
theorem i_T_init_40 : decode (mb 2) 40 = .ok (.aload_n 0, 1) := by decide +kernel
theorem i_T_init_41 : decode (mb 2) 41 = .ok (.iconst 0, 1) := by decide +kernel
theorem i_T_init_42 : decode (mb 2) 42 = .ok (.putfield 33, 3) := by decide +kernel
theorem i_T_init_45 : decode (mb 2) 45 = .ok (.aload_n 0, 1) := by decide +kernel
theorem i_T_init_46 : decode (mb 2) 46 = .ok (.iconst 0, 1) := by decide +kernel
theorem i_T_init_47 : decode (mb 2) 47 = .ok (.putfield 36, 3) := by decide +kernel
theorem i_T_init_50 : decode (mb 2) 50 = .ok (.aload_n 0, 1) := by decide +kernel
theorem i_T_init_51 : decode (mb 2) 51 = .ok (.bipush 7, 2) := by decide +kernel
theorem i_T_init_53 : decode (mb 2) 53 = .ok (.newarray .int, 2) := by decide +kernel
theorem i_T_init_55 : decode (mb 2) 55 = .ok (.putfield 39, 3) := by decide +kernel
theorem i_T_init_58 : decode (mb 2) 58 = .ok (.aload_n 0, 1) := by decide +kernel
theorem i_T_init_59 : decode (mb 2) 59 = .ok (.bipush 7, 2) := by decide +kernel
theorem i_T_init_61 : decode (mb 2) 61 = .ok (.newarray .int, 2) := by decide +kernel
theorem i_T_init_63 : decode (mb 2) 63 = .ok (.putfield 43, 3) := by decide +kernel
theorem i_T_init_66 : decode (mb 2) 66 = .ok (.aload_n 0, 1) := by decide +kernel
theorem i_T_init_67 : decode (mb 2) 67 = .ok (.bipush 7, 2) := by decide +kernel
theorem i_T_init_69 : decode (mb 2) 69 = .ok (.newarray .int, 2) := by decide +kernel
theorem i_T_init_71 : decode (mb 2) 71 = .ok (.putfield 46, 3) := by decide +kernel
theorem i_T_init_74 : decode (mb 2) 74 = .ok (.aload_n 0, 1) := by decide +kernel
theorem i_T_init_75 : decode (mb 2) 75 = .ok (.bipush 7, 2) := by decide +kernel
theorem i_T_init_77 : decode (mb 2) 77 = .ok (.newarray .int, 2) := by decide +kernel
theorem i_T_init_79 : decode (mb 2) 79 = .ok (.putfield 49, 3) := by decide +kernel
theorem i_T_init_82 : decode (mb 2) 82 = .ok (.aload_n 0, 1) := by decide +kernel
theorem i_T_init_83 : decode (mb 2) 83 = .ok (.bipush 7, 2) := by decide +kernel
theorem i_T_init_85 : decode (mb 2) 85 = .ok (.newarray .int, 2) := by decide +kernel
theorem i_T_init_87 : decode (mb 2) 87 = .ok (.putfield 52, 3) := by decide +kernel
theorem i_T_init_90 : decode (mb 2) 90 = .ok (.aload_n 0, 1) := by decide +kernel
theorem i_T_init_91 : decode (mb 2) 91 = .ok (.bipush 7, 2) := by decide +kernel
theorem i_T_init_93 : decode (mb 2) 93 = .ok (.newarray .int, 2) := by decide +kernel
theorem i_T_init_95 : decode (mb 2) 95 = .ok (.putfield 55, 3) := by decide +kernel
theorem i_T_init_98 : decode (mb 2) 98 = .ok (.aload_n 0, 1) := by decide +kernel
theorem i_T_init_99 : decode (mb 2) 99 = .ok (.bipush 7, 2) := by decide +kernel
theorem i_T_init_101 : decode (mb 2) 101 = .ok (.newarray .int, 2) := by decide +kernel
theorem i_T_init_103 : decode (mb 2) 103 = .ok (.putfield 58, 3) := by decide +kernel
theorem i_T_init_106 : decode (mb 2) 106 = .ok (.aload_n 0, 1) := by decide +kernel
theorem i_T_init_107 : decode (mb 2) 107 = .ok (.bipush 49, 2) := by decide +kernel
theorem i_T_init_109 : decode (mb 2) 109 = .ok (.newarray .int, 2) := by decide +kernel
theorem i_T_init_111 : decode (mb 2) 111 = .ok (.putfield 61, 3) := by decide +kernel
theorem i_T_init_114 : decode (mb 2) 114 = .ok (.return_, 1) := by decide +kernel
theorem o_S_init : (mn 3).cls = "NeedsALoser$Shelves" := by decide +kernel
theorem l_S_init : ml 3 = 2 := by decide +kernel
theorem t_S_init : mr 3 = none := by decide +kernel
theorem i_S_init_0 : decode (mb 3) 0 = .ok (.aload_n 0, 1) := by decide +kernel
theorem i_S_init_1 : decode (mb 3) 1 = .ok (.invokespecial 3, 3) := by decide +kernel
theorem i_S_init_4 : decode (mb 3) 4 = .ok (.aload_n 0, 1) := by decide +kernel
theorem i_S_init_5 : decode (mb 3) 5 = .ok (.bipush 8, 2) := by decide +kernel
theorem i_S_init_7 : decode (mb 3) 7 = .ok (.newarray .int, 2) := by decide +kernel
theorem i_S_init_9 : decode (mb 3) 9 = .ok (.putfield 9, 3) := by decide +kernel
theorem i_S_init_12 : decode (mb 3) 12 = .ok (.aload_n 0, 1) := by decide +kernel
theorem i_S_init_13 : decode (mb 3) 13 = .ok (.bipush 8, 2) := by decide +kernel
theorem i_S_init_15 : decode (mb 3) 15 = .ok (.newarray .int, 2) := by decide +kernel
theorem i_S_init_17 : decode (mb 3) 17 = .ok (.putfield 15, 3) := by decide +kernel
theorem i_S_init_20 : decode (mb 3) 20 = .ok (.aload_n 0, 1) := by decide +kernel
theorem i_S_init_21 : decode (mb 3) 21 = .ok (.bipush 8, 2) := by decide +kernel
theorem i_S_init_23 : decode (mb 3) 23 = .ok (.newarray .int, 2) := by decide +kernel
theorem i_S_init_25 : decode (mb 3) 25 = .ok (.putfield 18, 3) := by decide +kernel
theorem i_S_init_28 : decode (mb 3) 28 = .ok (.aload_n 0, 1) := by decide +kernel
theorem i_S_init_29 : decode (mb 3) 29 = .ok (.sipush 320, 3) := by decide +kernel
theorem i_S_init_32 : decode (mb 3) 32 = .ok (.newarray .long, 2) := by decide +kernel
theorem i_S_init_34 : decode (mb 3) 34 = .ok (.putfield 21, 3) := by decide +kernel
theorem i_S_init_37 : decode (mb 3) 37 = .ok (.iconst 0, 1) := by decide +kernel
theorem i_S_init_38 : decode (mb 3) 38 = .ok (.istore_n 1, 1) := by decide +kernel
theorem i_S_init_39 : decode (mb 3) 39 = .ok (.iload_n 1, 1) := by decide +kernel
theorem i_S_init_40 : decode (mb 3) 40 = .ok (.aload_n 0, 1) := by decide +kernel
theorem i_S_init_41 : decode (mb 3) 41 = .ok (.getfield 9, 3) := by decide +kernel
theorem i_S_init_44 : decode (mb 3) 44 = .ok (.arraylength, 1) := by decide +kernel
theorem i_S_init_45 : decode (mb 3) 45 = .ok (.if_icmp .ge 16, 3) := by decide +kernel
theorem i_S_init_48 : decode (mb 3) 48 = .ok (.aload_n 0, 1) := by decide +kernel
theorem i_S_init_49 : decode (mb 3) 49 = .ok (.getfield 9, 3) := by decide +kernel
theorem i_S_init_52 : decode (mb 3) 52 = .ok (.iload_n 1, 1) := by decide +kernel
theorem i_S_init_53 : decode (mb 3) 53 = .ok (.iconst (-1), 1) := by decide +kernel
theorem i_S_init_54 : decode (mb 3) 54 = .ok (.iastore, 1) := by decide +kernel
theorem i_S_init_55 : decode (mb 3) 55 = .ok (.iinc 1 1, 3) := by decide +kernel
theorem i_S_init_58 : decode (mb 3) 58 = .ok (.goto (-19), 3) := by decide +kernel
theorem i_S_init_61 : decode (mb 3) 61 = .ok (.return_, 1) := by decide +kernel
theorem o_R_init : (mn 4).cls = "NeedsALoser$Reader" := by decide +kernel
theorem l_R_init : ml 4 = 1 := by decide +kernel
theorem t_R_init : mr 4 = none := by decide +kernel
theorem i_R_init_0 : decode (mb 4) 0 = .ok (.aload_n 0, 1) := by decide +kernel
theorem i_R_init_1 : decode (mb 4) 1 = .ok (.invokespecial 3, 3) := by decide +kernel
theorem i_R_init_4 : decode (mb 4) 4 = .ok (.aload_n 0, 1) := by decide +kernel
theorem i_R_init_5 : decode (mb 4) 5 = .ok (.sipush 250, 3) := by decide +kernel
theorem i_R_init_8 : decode (mb 4) 8 = .ok (.newarray .int, 2) := by decide +kernel
theorem i_R_init_10 : decode (mb 4) 10 = .ok (.putfield 11, 3) := by decide +kernel
theorem i_R_init_13 : decode (mb 4) 13 = .ok (.aload_n 0, 1) := by decide +kernel
theorem i_R_init_14 : decode (mb 4) 14 = .ok (.iconst 0, 1) := by decide +kernel
theorem i_R_init_15 : decode (mb 4) 15 = .ok (.putfield 15, 3) := by decide +kernel
theorem i_R_init_18 : decode (mb 4) 18 = .ok (.aload_n 0, 1) := by decide +kernel
theorem i_R_init_19 : decode (mb 4) 19 = .ok (.iconst 0, 1) := by decide +kernel
theorem i_R_init_20 : decode (mb 4) 20 = .ok (.putfield 19, 3) := by decide +kernel
theorem i_R_init_23 : decode (mb 4) 23 = .ok (.aload_n 0, 1) := by decide +kernel
theorem i_R_init_24 : decode (mb 4) 24 = .ok (.iconst 0, 1) := by decide +kernel
theorem i_R_init_25 : decode (mb 4) 25 = .ok (.putfield 22, 3) := by decide +kernel
theorem i_R_init_28 : decode (mb 4) 28 = .ok (.aload_n 0, 1) := by decide +kernel
theorem i_R_init_29 : decode (mb 4) 29 = .ok (.iconst 0, 1) := by decide +kernel
theorem i_R_init_30 : decode (mb 4) 30 = .ok (.putfield 25, 3) := by decide +kernel
theorem i_R_init_33 : decode (mb 4) 33 = .ok (.aload_n 0, 1) := by decide +kernel
theorem i_R_init_34 : decode (mb 4) 34 = .ok (.iconst (-1), 1) := by decide +kernel
theorem i_R_init_35 : decode (mb 4) 35 = .ok (.putfield 28, 3) := by decide +kernel
theorem i_R_init_38 : decode (mb 4) 38 = .ok (.return_, 1) := by decide +kernel
theorem o_W_init : (mn 5).cls = "NeedsALoser$Week" := by decide +kernel
theorem l_W_init : ml 5 = 1 := by decide +kernel
theorem t_W_init : mr 5 = none := by decide +kernel
theorem i_W_init_0 : decode (mb 5) 0 = .ok (.aload_n 0, 1) := by decide +kernel
theorem i_W_init_1 : decode (mb 5) 1 = .ok (.invokespecial 3, 3) := by decide +kernel
theorem i_W_init_4 : decode (mb 5) 4 = .ok (.aload_n 0, 1) := by decide +kernel
theorem i_W_init_5 : decode (mb 5) 5 = .ok (.bipush 7, 2) := by decide +kernel
theorem i_W_init_7 : decode (mb 5) 7 = .ok (.newarray .int, 2) := by decide +kernel
theorem i_W_init_9 : decode (mb 5) 9 = .ok (.putfield 9, 3) := by decide +kernel
theorem i_W_init_12 : decode (mb 5) 12 = .ok (.aload_n 0, 1) := by decide +kernel
theorem i_W_init_13 : decode (mb 5) 13 = .ok (.iconst 0, 1) := by decide +kernel
theorem i_W_init_14 : decode (mb 5) 14 = .ok (.putfield 15, 3) := by decide +kernel
theorem i_W_init_17 : decode (mb 5) 17 = .ok (.aload_n 0, 1) := by decide +kernel
theorem i_W_init_18 : decode (mb 5) 18 = .ok (.iconst 0, 1) := by decide +kernel
theorem i_W_init_19 : decode (mb 5) 19 = .ok (.putfield 19, 3) := by decide +kernel
theorem i_W_init_22 : decode (mb 5) 22 = .ok (.return_, 1) := by decide +kernel
theorem o_E_init : (mn 6).cls = "NeedsALoser$Search" := by decide +kernel
theorem l_E_init : ml 6 = 1 := by decide +kernel
theorem t_E_init : mr 6 = none := by decide +kernel
theorem i_E_init_0 : decode (mb 6) 0 = .ok (.aload_n 0, 1) := by decide +kernel
theorem i_E_init_1 : decode (mb 6) 1 = .ok (.invokespecial 5, 3) := by decide +kernel
theorem i_E_init_4 : decode (mb 6) 4 = .ok (.aload_n 0, 1) := by decide +kernel
theorem i_E_init_5 : decode (mb 6) 5 = .ok (.sipush 128, 3) := by decide +kernel
theorem i_E_init_8 : decode (mb 6) 8 = .ok (.newarray .boolean, 2) := by decide +kernel
theorem i_E_init_10 : decode (mb 6) 10 = .ok (.putfield 13, 3) := by decide +kernel
theorem i_E_init_13 : decode (mb 6) 13 = .ok (.aload_n 0, 1) := by decide +kernel
theorem i_E_init_14 : decode (mb 6) 14 = .ok (.sipush 128, 3) := by decide +kernel
theorem i_E_init_17 : decode (mb 6) 17 = .ok (.newarray .long, 2) := by decide +kernel
theorem i_E_init_19 : decode (mb 6) 19 = .ok (.putfield 17, 3) := by decide +kernel
theorem i_E_init_22 : decode (mb 6) 22 = .ok (.aload_n 0, 1) := by decide +kernel
theorem i_E_init_23 : decode (mb 6) 23 = .ok (.sipush 128, 3) := by decide +kernel
theorem i_E_init_26 : decode (mb 6) 26 = .ok (.newarray .long, 2) := by decide +kernel
theorem i_E_init_28 : decode (mb 6) 28 = .ok (.putfield 21, 3) := by decide +kernel
theorem i_E_init_31 : decode (mb 6) 31 = .ok (.aload_n 0, 1) := by decide +kernel
theorem i_E_init_32 : decode (mb 6) 32 = .ok (.bipush 7, 2) := by decide +kernel
theorem i_E_init_34 : decode (mb 6) 34 = .ok (.newarray .long, 2) := by decide +kernel
theorem i_E_init_36 : decode (mb 6) 36 = .ok (.putfield 24, 3) := by decide +kernel
theorem i_E_init_39 : decode (mb 6) 39 = .ok (.aload_n 0, 1) := by decide +kernel
theorem i_E_init_40 : decode (mb 6) 40 = .ok (.bipush 7, 2) := by decide +kernel
theorem i_E_init_42 : decode (mb 6) 42 = .ok (.newarray .int, 2) := by decide +kernel
theorem i_E_init_44 : decode (mb 6) 44 = .ok (.putfield 27, 3) := by decide +kernel
theorem i_E_init_47 : decode (mb 6) 47 = .ok (.return_, 1) := by decide +kernel
theorem o_N_row : (mn 7).cls = "NeedsALoser" := by decide +kernel
theorem l_N_row : ml 7 = 4 := by decide +kernel
theorem t_N_row : mr 7 = some (FieldType.int) := by decide +kernel
theorem i_N_row_0 : decode (mb 7) 0 = .ok (.iload_n 1, 1) := by decide +kernel
theorem i_N_row_1 : decode (mb 7) 1 = .ok (.bipush 8, 2) := by decide +kernel
theorem i_N_row_3 : decode (mb 7) 3 = .ok (.invokestatic 58, 3) := by decide +kernel
theorem i_N_row_6 : decode (mb 7) 6 = .ok (.ifCond .eq 21, 3) := by decide +kernel
theorem i_N_row_9 : decode (mb 7) 9 = .ok (.iload_n 2, 1) := by decide +kernel
theorem i_N_row_10 : decode (mb 7) 10 = .ok (.iconst 5, 1) := by decide +kernel
theorem i_N_row_11 : decode (mb 7) 11 = .ok (.invokestatic 58, 3) := by decide +kernel
theorem i_N_row_14 : decode (mb 7) 14 = .ok (.ifCond .eq 13, 3) := by decide +kernel
theorem i_N_row_17 : decode (mb 7) 17 = .ok (.iload_n 3, 1) := by decide +kernel
theorem i_N_row_18 : decode (mb 7) 18 = .ok (.iconst 0, 1) := by decide +kernel
theorem i_N_row_19 : decode (mb 7) 19 = .ok (.bipush 40, 2) := by decide +kernel
theorem i_N_row_21 : decode (mb 7) 21 = .ok (.invokestatic 62, 3) := by decide +kernel
theorem i_N_row_24 : decode (mb 7) 24 = .ok (.ifCond .ne 10, 3) := by decide +kernel
theorem i_N_row_27 : decode (mb 7) 27 = .ok (.aload_n 0, 1) := by decide +kernel
theorem i_N_row_28 : decode (mb 7) 28 = .ok (.bipush (-2), 2) := by decide +kernel
theorem i_N_row_30 : decode (mb 7) 30 = .ok (.invokevirtual 66, 3) := by decide +kernel
theorem i_N_row_33 : decode (mb 7) 33 = .ok (.ireturn, 1) := by decide +kernel
theorem i_N_row_34 : decode (mb 7) 34 = .ok (.aload_n 0, 1) := by decide +kernel
theorem i_N_row_35 : decode (mb 7) 35 = .ok (.getfield 29, 3) := by decide +kernel
theorem i_N_row_38 : decode (mb 7) 38 = .ok (.iload_n 1, 1) := by decide +kernel
theorem i_N_row_39 : decode (mb 7) 39 = .ok (.iload_n 2, 1) := by decide +kernel
theorem i_N_row_40 : decode (mb 7) 40 = .ok (.iload_n 3, 1) := by decide +kernel
theorem i_N_row_41 : decode (mb 7) 41 = .ok (.invokevirtual 70, 3) := by decide +kernel
theorem i_N_row_44 : decode (mb 7) 44 = .ok (.iconst 1, 1) := by decide +kernel
theorem i_N_row_45 : decode (mb 7) 45 = .ok (.ireturn, 1) := by decide +kernel
theorem o_N_isBelow : (mn 8).cls = "NeedsALoser" := by decide +kernel
theorem l_N_isBelow : ml 8 = 2 := by decide +kernel
theorem t_N_isBelow : mr 8 = some (FieldType.boolean) := by decide +kernel
theorem i_N_isBelow_0 : decode (mb 8) 0 = .ok (.iload_n 0, 1) := by decide +kernel
theorem i_N_isBelow_1 : decode (mb 8) 1 = .ok (.ifCond .lt 12, 3) := by decide +kernel
theorem i_N_isBelow_4 : decode (mb 8) 4 = .ok (.iload_n 0, 1) := by decide +kernel
theorem i_N_isBelow_5 : decode (mb 8) 5 = .ok (.iload_n 1, 1) := by decide +kernel
theorem i_N_isBelow_6 : decode (mb 8) 6 = .ok (.if_icmp .ge 7, 3) := by decide +kernel
theorem i_N_isBelow_9 : decode (mb 8) 9 = .ok (.iconst 1, 1) := by decide +kernel
theorem i_N_isBelow_10 : decode (mb 8) 10 = .ok (.goto 4, 3) := by decide +kernel
theorem i_N_isBelow_13 : decode (mb 8) 13 = .ok (.iconst 0, 1) := by decide +kernel
theorem i_N_isBelow_14 : decode (mb 8) 14 = .ok (.ireturn, 1) := by decide +kernel
theorem o_N_isWithin : (mn 9).cls = "NeedsALoser" := by decide +kernel
theorem l_N_isWithin : ml 9 = 3 := by decide +kernel
theorem t_N_isWithin : mr 9 = some (FieldType.boolean) := by decide +kernel
theorem i_N_isWithin_0 : decode (mb 9) 0 = .ok (.iload_n 0, 1) := by decide +kernel
theorem i_N_isWithin_1 : decode (mb 9) 1 = .ok (.iload_n 1, 1) := by decide +kernel
theorem i_N_isWithin_2 : decode (mb 9) 2 = .ok (.if_icmp .lt 12, 3) := by decide +kernel
theorem i_N_isWithin_5 : decode (mb 9) 5 = .ok (.iload_n 0, 1) := by decide +kernel
theorem i_N_isWithin_6 : decode (mb 9) 6 = .ok (.iload_n 2, 1) := by decide +kernel
theorem i_N_isWithin_7 : decode (mb 9) 7 = .ok (.if_icmp .gt 7, 3) := by decide +kernel
theorem i_N_isWithin_10 : decode (mb 9) 10 = .ok (.iconst 1, 1) := by decide +kernel
theorem i_N_isWithin_11 : decode (mb 9) 11 = .ok (.goto 4, 3) := by decide +kernel
theorem i_N_isWithin_14 : decode (mb 9) 14 = .ok (.iconst 0, 1) := by decide +kernel
theorem i_N_isWithin_15 : decode (mb 9) 15 = .ok (.ireturn, 1) := by decide +kernel
theorem o_N_refuse : (mn 10).cls = "NeedsALoser" := by decide +kernel
theorem l_N_refuse : ml 10 = 3 := by decide +kernel
theorem t_N_refuse : mr 10 = some (FieldType.int) := by decide +kernel
theorem i_N_refuse_0 : decode (mb 10) 0 = .ok (.bipush (-2), 2) := by decide +kernel
theorem i_N_refuse_2 : decode (mb 10) 2 = .ok (.iload_n 1, 1) := by decide +kernel
theorem i_N_refuse_3 : decode (mb 10) 3 = .ok (.isub, 1) := by decide +kernel
theorem i_N_refuse_4 : decode (mb 10) 4 = .ok (.istore_n 2, 1) := by decide +kernel
theorem i_N_refuse_5 : decode (mb 10) 5 = .ok (.aload_n 0, 1) := by decide +kernel
theorem i_N_refuse_6 : decode (mb 10) 6 = .ok (.getfield 54, 3) := by decide +kernel
theorem i_N_refuse_9 : decode (mb 10) 9 = .ok (.iload_n 2, 1) := by decide +kernel
theorem i_N_refuse_10 : decode (mb 10) 10 = .ok (.aload_n 0, 1) := by decide +kernel
theorem i_N_refuse_11 : decode (mb 10) 11 = .ok (.getfield 54, 3) := by decide +kernel
theorem i_N_refuse_14 : decode (mb 10) 14 = .ok (.iload_n 2, 1) := by decide +kernel
theorem i_N_refuse_15 : decode (mb 10) 15 = .ok (.invokestatic 195, 3) := by decide +kernel
theorem i_N_refuse_18 : decode (mb 10) 18 = .ok (.iconst 1, 1) := by decide +kernel
theorem i_N_refuse_19 : decode (mb 10) 19 = .ok (.iadd, 1) := by decide +kernel
theorem i_N_refuse_20 : decode (mb 10) 20 = .ok (.invokestatic 339, 3) := by decide +kernel
theorem i_N_refuse_23 : decode (mb 10) 23 = .ok (.iload_n 1, 1) := by decide +kernel
theorem i_N_refuse_24 : decode (mb 10) 24 = .ok (.ireturn, 1) := by decide +kernel
theorem o_N_at : (mn 11).cls = "NeedsALoser" := by decide +kernel
theorem l_N_at : ml 11 = 2 := by decide +kernel
theorem t_N_at : mr 11 = some (FieldType.int) := by decide +kernel
theorem i_N_at_0 : decode (mb 11) 0 = .ok (.iload_n 1, 1) := by decide +kernel
theorem i_N_at_1 : decode (mb 11) 1 = .ok (.ifCond .lt 15, 3) := by decide +kernel
theorem i_N_at_4 : decode (mb 11) 4 = .ok (.iload_n 1, 1) := by decide +kernel
theorem i_N_at_5 : decode (mb 11) 5 = .ok (.aload_n 0, 1) := by decide +kernel
theorem i_N_at_6 : decode (mb 11) 6 = .ok (.arraylength, 1) := by decide +kernel
theorem i_N_at_7 : decode (mb 11) 7 = .ok (.if_icmp .ge 9, 3) := by decide +kernel
theorem i_N_at_10 : decode (mb 11) 10 = .ok (.aload_n 0, 1) := by decide +kernel
theorem i_N_at_11 : decode (mb 11) 11 = .ok (.iload_n 1, 1) := by decide +kernel
theorem i_N_at_12 : decode (mb 11) 12 = .ok (.iaload, 1) := by decide +kernel
theorem i_N_at_13 : decode (mb 11) 13 = .ok (.goto 4, 3) := by decide +kernel
theorem i_N_at_16 : decode (mb 11) 16 = .ok (.iconst 0, 1) := by decide +kernel
theorem i_N_at_17 : decode (mb 11) 17 = .ok (.ireturn, 1) := by decide +kernel
theorem o_N_put : (mn 12).cls = "NeedsALoser" := by decide +kernel
theorem l_N_put : ml 12 = 3 := by decide +kernel
theorem t_N_put : mr 12 = none := by decide +kernel
theorem i_N_put_0 : decode (mb 12) 0 = .ok (.iload_n 1, 1) := by decide +kernel
theorem i_N_put_1 : decode (mb 12) 1 = .ok (.ifCond .lt 13, 3) := by decide +kernel
theorem i_N_put_4 : decode (mb 12) 4 = .ok (.iload_n 1, 1) := by decide +kernel
theorem i_N_put_5 : decode (mb 12) 5 = .ok (.aload_n 0, 1) := by decide +kernel
theorem i_N_put_6 : decode (mb 12) 6 = .ok (.arraylength, 1) := by decide +kernel
theorem i_N_put_7 : decode (mb 12) 7 = .ok (.if_icmp .ge 7, 3) := by decide +kernel
theorem i_N_put_10 : decode (mb 12) 10 = .ok (.aload_n 0, 1) := by decide +kernel
theorem i_N_put_11 : decode (mb 12) 11 = .ok (.iload_n 1, 1) := by decide +kernel
theorem i_N_put_12 : decode (mb 12) 12 = .ok (.iload_n 2, 1) := by decide +kernel
theorem i_N_put_13 : decode (mb 12) 13 = .ok (.iastore, 1) := by decide +kernel
theorem i_N_put_14 : decode (mb 12) 14 = .ok (.return_, 1) := by decide +kernel
theorem o_S_putRow : (mn 13).cls = "NeedsALoser$Shelves" := by decide +kernel
theorem l_S_putRow : ml 13 = 5 := by decide +kernel
theorem t_S_putRow : mr 13 = none := by decide +kernel
theorem i_S_putRow_0 : decode (mb 13) 0 = .ok (.aload_n 0, 1) := by decide +kernel
theorem i_S_putRow_1 : decode (mb 13) 1 = .ok (.getfield 9, 3) := by decide +kernel
theorem i_S_putRow_4 : decode (mb 13) 4 = .ok (.iload_n 1, 1) := by decide +kernel
theorem i_S_putRow_5 : decode (mb 13) 5 = .ok (.iload_n 2, 1) := by decide +kernel
theorem i_S_putRow_6 : decode (mb 13) 6 = .ok (.invokestatic 51, 3) := by decide +kernel
theorem i_S_putRow_9 : decode (mb 13) 9 = .ok (.aload_n 0, 1) := by decide +kernel
theorem i_S_putRow_10 : decode (mb 13) 10 = .ok (.getfield 15, 3) := by decide +kernel
theorem i_S_putRow_13 : decode (mb 13) 13 = .ok (.iload_n 1, 1) := by decide +kernel
theorem i_S_putRow_14 : decode (mb 13) 14 = .ok (.iload_n 3, 1) := by decide +kernel
theorem i_S_putRow_15 : decode (mb 13) 15 = .ok (.invokestatic 51, 3) := by decide +kernel
theorem i_S_putRow_18 : decode (mb 13) 18 = .ok (.iconst 0, 1) := by decide +kernel
theorem i_S_putRow_19 : decode (mb 13) 19 = .ok (.istore 4, 2) := by decide +kernel
theorem i_S_putRow_21 : decode (mb 13) 21 = .ok (.iload 4, 2) := by decide +kernel
theorem i_S_putRow_23 : decode (mb 13) 23 = .ok (.iload_n 3, 1) := by decide +kernel
theorem i_S_putRow_24 : decode (mb 13) 24 = .ok (.if_icmp .ge 17, 3) := by decide +kernel
theorem i_S_putRow_27 : decode (mb 13) 27 = .ok (.aload_n 0, 1) := by decide +kernel
theorem i_S_putRow_28 : decode (mb 13) 28 = .ok (.iload_n 1, 1) := by decide +kernel
theorem i_S_putRow_29 : decode (mb 13) 29 = .ok (.iload 4, 2) := by decide +kernel
theorem i_S_putRow_31 : decode (mb 13) 31 = .ok (.lconst 0, 1) := by decide +kernel
theorem i_S_putRow_32 : decode (mb 13) 32 = .ok (.invokevirtual 55, 3) := by decide +kernel
theorem i_S_putRow_35 : decode (mb 13) 35 = .ok (.iinc 4 1, 3) := by decide +kernel
theorem i_S_putRow_38 : decode (mb 13) 38 = .ok (.goto (-17), 3) := by decide +kernel
theorem i_S_putRow_41 : decode (mb 13) 41 = .ok (.return_, 1) := by decide +kernel
theorem o_S_putElement : (mn 14).cls = "NeedsALoser$Shelves" := by decide +kernel
theorem l_S_putElement : ml 14 = 6 := by decide +kernel
theorem t_S_putElement : mr 14 = none := by decide +kernel
theorem i_S_putElement_0 : decode (mb 14) 0 = .ok (.iload_n 1, 1) := by decide +kernel
theorem i_S_putElement_1 : decode (mb 14) 1 = .ok (.bipush 40, 2) := by decide +kernel
theorem i_S_putElement_3 : decode (mb 14) 3 = .ok (.imul, 1) := by decide +kernel
theorem i_S_putElement_4 : decode (mb 14) 4 = .ok (.iload_n 2, 1) := by decide +kernel
theorem i_S_putElement_5 : decode (mb 14) 5 = .ok (.iadd, 1) := by decide +kernel
theorem i_S_putElement_6 : decode (mb 14) 6 = .ok (.istore 5, 2) := by decide +kernel
theorem i_S_putElement_8 : decode (mb 14) 8 = .ok (.iload 5, 2) := by decide +kernel
theorem i_S_putElement_10 : decode (mb 14) 10 = .ok (.ifCond .lt 29, 3) := by decide +kernel
theorem i_S_putElement_13 : decode (mb 14) 13 = .ok (.iload 5, 2) := by decide +kernel
theorem i_S_putElement_15 : decode (mb 14) 15 = .ok (.aload_n 0, 1) := by decide +kernel
theorem i_S_putElement_16 : decode (mb 14) 16 = .ok (.getfield 21, 3) := by decide +kernel
theorem i_S_putElement_19 : decode (mb 14) 19 = .ok (.arraylength, 1) := by decide +kernel
theorem i_S_putElement_20 : decode (mb 14) 20 = .ok (.if_icmp .ge 19, 3) := by decide +kernel
theorem i_S_putElement_23 : decode (mb 14) 23 = .ok (.aload_n 0, 1) := by decide +kernel
theorem i_S_putElement_24 : decode (mb 14) 24 = .ok (.getfield 21, 3) := by decide +kernel
theorem i_S_putElement_27 : decode (mb 14) 27 = .ok (.iload 5, 2) := by decide +kernel
theorem i_S_putElement_29 : decode (mb 14) 29 = .ok (.aload_n 0, 1) := by decide +kernel
theorem i_S_putElement_30 : decode (mb 14) 30 = .ok (.iload_n 1, 1) := by decide +kernel
theorem i_S_putElement_31 : decode (mb 14) 31 = .ok (.invokevirtual 33, 3) := by decide +kernel
theorem i_S_putElement_34 : decode (mb 14) 34 = .ok (.lload_n 3, 1) := by decide +kernel
theorem i_S_putElement_35 : decode (mb 14) 35 = .ok (.invokestatic 59, 3) := by decide +kernel
theorem i_S_putElement_38 : decode (mb 14) 38 = .ok (.lastore, 1) := by decide +kernel
theorem i_S_putElement_39 : decode (mb 14) 39 = .ok (.return_, 1) := by decide +kernel
theorem o_S_heldIn : (mn 15).cls = "NeedsALoser$Shelves" := by decide +kernel
theorem l_S_heldIn : ml 15 = 2 := by decide +kernel
theorem t_S_heldIn : mr 15 = some (FieldType.int) := by decide +kernel
theorem i_S_heldIn_0 : decode (mb 15) 0 = .ok (.iload_n 1, 1) := by decide +kernel
theorem i_S_heldIn_1 : decode (mb 15) 1 = .ok (.bipush 8, 2) := by decide +kernel
theorem i_S_heldIn_3 : decode (mb 15) 3 = .ok (.invokestatic 25, 3) := by decide +kernel
theorem i_S_heldIn_6 : decode (mb 15) 6 = .ok (.ifCond .eq 14, 3) := by decide +kernel
theorem i_S_heldIn_9 : decode (mb 15) 9 = .ok (.aload_n 0, 1) := by decide +kernel
theorem i_S_heldIn_10 : decode (mb 15) 10 = .ok (.getfield 9, 3) := by decide +kernel
theorem i_S_heldIn_13 : decode (mb 15) 13 = .ok (.iload_n 1, 1) := by decide +kernel
theorem i_S_heldIn_14 : decode (mb 15) 14 = .ok (.invokestatic 29, 3) := by decide +kernel
theorem i_S_heldIn_17 : decode (mb 15) 17 = .ok (.goto 4, 3) := by decide +kernel
theorem i_S_heldIn_20 : decode (mb 15) 20 = .ok (.iconst (-1), 1) := by decide +kernel
theorem i_S_heldIn_21 : decode (mb 15) 21 = .ok (.ireturn, 1) := by decide +kernel
theorem o_S_lowestBits : (mn 16).cls = "NeedsALoser$Shelves" := by decide +kernel
theorem l_S_lowestBits : ml 16 = 3 := by decide +kernel
theorem t_S_lowestBits : mr 16 = some (FieldType.long) := by decide +kernel
theorem i_S_lowestBits_0 : decode (mb 16) 0 = .ok (.iload_n 0, 1) := by decide +kernel
theorem i_S_lowestBits_1 : decode (mb 16) 1 = .ok (.tableswitch 61 0 4 #[35, 40, 45, 61, 49], 35) := by decide +kernel
theorem i_S_lowestBits_36 : decode (mb 16) 36 = .ok (.lload_n 1, 1) := by decide +kernel
theorem i_S_lowestBits_37 : decode (mb 16) 37 = .ok (.l2i, 1) := by decide +kernel
theorem i_S_lowestBits_38 : decode (mb 16) 38 = .ok (.i2b, 1) := by decide +kernel
theorem i_S_lowestBits_39 : decode (mb 16) 39 = .ok (.i2l, 1) := by decide +kernel
theorem i_S_lowestBits_40 : decode (mb 16) 40 = .ok (.lreturn, 1) := by decide +kernel
theorem i_S_lowestBits_41 : decode (mb 16) 41 = .ok (.lload_n 1, 1) := by decide +kernel
theorem i_S_lowestBits_42 : decode (mb 16) 42 = .ok (.l2i, 1) := by decide +kernel
theorem i_S_lowestBits_43 : decode (mb 16) 43 = .ok (.i2s, 1) := by decide +kernel
theorem i_S_lowestBits_44 : decode (mb 16) 44 = .ok (.i2l, 1) := by decide +kernel
theorem i_S_lowestBits_45 : decode (mb 16) 45 = .ok (.lreturn, 1) := by decide +kernel
theorem i_S_lowestBits_46 : decode (mb 16) 46 = .ok (.lload_n 1, 1) := by decide +kernel
theorem i_S_lowestBits_47 : decode (mb 16) 47 = .ok (.l2i, 1) := by decide +kernel
theorem i_S_lowestBits_48 : decode (mb 16) 48 = .ok (.i2l, 1) := by decide +kernel
theorem i_S_lowestBits_49 : decode (mb 16) 49 = .ok (.lreturn, 1) := by decide +kernel
theorem i_S_lowestBits_50 : decode (mb 16) 50 = .ok (.lload_n 1, 1) := by decide +kernel
theorem i_S_lowestBits_51 : decode (mb 16) 51 = .ok (.lconst 0, 1) := by decide +kernel
theorem i_S_lowestBits_52 : decode (mb 16) 52 = .ok (.lcmp, 1) := by decide +kernel
theorem i_S_lowestBits_53 : decode (mb 16) 53 = .ok (.ifCond .eq 7, 3) := by decide +kernel
theorem i_S_lowestBits_56 : decode (mb 16) 56 = .ok (.lconst 1, 1) := by decide +kernel
theorem i_S_lowestBits_57 : decode (mb 16) 57 = .ok (.goto 4, 3) := by decide +kernel
theorem i_S_lowestBits_60 : decode (mb 16) 60 = .ok (.lconst 0, 1) := by decide +kernel
theorem i_S_lowestBits_61 : decode (mb 16) 61 = .ok (.lreturn, 1) := by decide +kernel
theorem i_S_lowestBits_62 : decode (mb 16) 62 = .ok (.lload_n 1, 1) := by decide +kernel
theorem i_S_lowestBits_63 : decode (mb 16) 63 = .ok (.lreturn, 1) := by decide +kernel
theorem o_N_set : (mn 17).cls = "NeedsALoser" := by decide +kernel
theorem l_N_set : ml 17 = 6 := by decide +kernel
theorem t_N_set : mr 17 = some (FieldType.int) := by decide +kernel
theorem i_N_set_0 : decode (mb 17) 0 = .ok (.aload_n 0, 1) := by decide +kernel
theorem i_N_set_1 : decode (mb 17) 1 = .ok (.getfield 29, 3) := by decide +kernel
theorem i_N_set_4 : decode (mb 17) 4 = .ok (.iload_n 1, 1) := by decide +kernel
theorem i_N_set_5 : decode (mb 17) 5 = .ok (.invokevirtual 74, 3) := by decide +kernel
theorem i_N_set_8 : decode (mb 17) 8 = .ok (.istore 5, 2) := by decide +kernel
theorem i_N_set_10 : decode (mb 17) 10 = .ok (.iload 5, 2) := by decide +kernel
theorem i_N_set_12 : decode (mb 17) 12 = .ok (.ifCond .ne 22, 3) := by decide +kernel
theorem i_N_set_15 : decode (mb 17) 15 = .ok (.iload_n 2, 1) := by decide +kernel
theorem i_N_set_16 : decode (mb 17) 16 = .ok (.aload_n 0, 1) := by decide +kernel
theorem i_N_set_17 : decode (mb 17) 17 = .ok (.getfield 29, 3) := by decide +kernel
theorem i_N_set_20 : decode (mb 17) 20 = .ok (.iload_n 1, 1) := by decide +kernel
theorem i_N_set_21 : decode (mb 17) 21 = .ok (.invokevirtual 77, 3) := by decide +kernel
theorem i_N_set_24 : decode (mb 17) 24 = .ok (.invokestatic 58, 3) := by decide +kernel
theorem i_N_set_27 : decode (mb 17) 27 = .ok (.ifCond .ne 7, 3) := by decide +kernel
theorem i_N_set_30 : decode (mb 17) 30 = .ok (.bipush (-2), 2) := by decide +kernel
theorem i_N_set_32 : decode (mb 17) 32 = .ok (.istore 5, 2) := by decide +kernel
theorem i_N_set_34 : decode (mb 17) 34 = .ok (.iload 5, 2) := by decide +kernel
theorem i_N_set_36 : decode (mb 17) 36 = .ok (.ifCond .eq 10, 3) := by decide +kernel
theorem i_N_set_39 : decode (mb 17) 39 = .ok (.aload_n 0, 1) := by decide +kernel
theorem i_N_set_40 : decode (mb 17) 40 = .ok (.iload 5, 2) := by decide +kernel
theorem i_N_set_42 : decode (mb 17) 42 = .ok (.invokevirtual 66, 3) := by decide +kernel
theorem i_N_set_45 : decode (mb 17) 45 = .ok (.ireturn, 1) := by decide +kernel
theorem i_N_set_46 : decode (mb 17) 46 = .ok (.aload_n 0, 1) := by decide +kernel
theorem i_N_set_47 : decode (mb 17) 47 = .ok (.getfield 29, 3) := by decide +kernel
theorem i_N_set_50 : decode (mb 17) 50 = .ok (.iload_n 1, 1) := by decide +kernel
theorem i_N_set_51 : decode (mb 17) 51 = .ok (.iload_n 2, 1) := by decide +kernel
theorem i_N_set_52 : decode (mb 17) 52 = .ok (.lload_n 3, 1) := by decide +kernel
theorem i_N_set_53 : decode (mb 17) 53 = .ok (.invokevirtual 80, 3) := by decide +kernel
theorem i_N_set_56 : decode (mb 17) 56 = .ok (.iconst 1, 1) := by decide +kernel
theorem i_N_set_57 : decode (mb 17) 57 = .ok (.ireturn, 1) := by decide +kernel
theorem o_S_rowRefusal : (mn 18).cls = "NeedsALoser$Shelves" := by decide +kernel
theorem l_S_rowRefusal : ml 18 = 2 := by decide +kernel
theorem t_S_rowRefusal : mr 18 = some (FieldType.int) := by decide +kernel
theorem i_S_rowRefusal_0 : decode (mb 18) 0 = .ok (.iload_n 1, 1) := by decide +kernel
theorem i_S_rowRefusal_1 : decode (mb 18) 1 = .ok (.bipush 8, 2) := by decide +kernel
theorem i_S_rowRefusal_3 : decode (mb 18) 3 = .ok (.invokestatic 25, 3) := by decide +kernel
theorem i_S_rowRefusal_6 : decode (mb 18) 6 = .ok (.ifCond .ne 6, 3) := by decide +kernel
theorem i_S_rowRefusal_9 : decode (mb 18) 9 = .ok (.bipush (-2), 2) := by decide +kernel
theorem i_S_rowRefusal_11 : decode (mb 18) 11 = .ok (.ireturn, 1) := by decide +kernel
theorem i_S_rowRefusal_12 : decode (mb 18) 12 = .ok (.aload_n 0, 1) := by decide +kernel
theorem i_S_rowRefusal_13 : decode (mb 18) 13 = .ok (.iload_n 1, 1) := by decide +kernel
theorem i_S_rowRefusal_14 : decode (mb 18) 14 = .ok (.invokevirtual 37, 3) := by decide +kernel
theorem i_S_rowRefusal_17 : decode (mb 18) 17 = .ok (.ifCond .eq 6, 3) := by decide +kernel
theorem i_S_rowRefusal_20 : decode (mb 18) 20 = .ok (.bipush (-3), 2) := by decide +kernel
theorem i_S_rowRefusal_22 : decode (mb 18) 22 = .ok (.ireturn, 1) := by decide +kernel
theorem i_S_rowRefusal_23 : decode (mb 18) 23 = .ok (.aload_n 0, 1) := by decide +kernel
theorem i_S_rowRefusal_24 : decode (mb 18) 24 = .ok (.iload_n 1, 1) := by decide +kernel
theorem i_S_rowRefusal_25 : decode (mb 18) 25 = .ok (.invokevirtual 41, 3) := by decide +kernel
theorem i_S_rowRefusal_28 : decode (mb 18) 28 = .ok (.ifCond .eq 7, 3) := by decide +kernel
theorem i_S_rowRefusal_31 : decode (mb 18) 31 = .ok (.iconst 0, 1) := by decide +kernel
theorem i_S_rowRefusal_32 : decode (mb 18) 32 = .ok (.goto 5, 3) := by decide +kernel
theorem i_S_rowRefusal_35 : decode (mb 18) 35 = .ok (.bipush (-4), 2) := by decide +kernel
theorem i_S_rowRefusal_37 : decode (mb 18) 37 = .ok (.ireturn, 1) := by decide +kernel
theorem o_S_holdsRule : (mn 19).cls = "NeedsALoser$Shelves" := by decide +kernel
theorem l_S_holdsRule : ml 19 = 2 := by decide +kernel
theorem t_S_holdsRule : mr 19 = some (FieldType.boolean) := by decide +kernel
theorem i_S_holdsRule_0 : decode (mb 19) 0 = .ok (.aload_n 0, 1) := by decide +kernel
theorem i_S_holdsRule_1 : decode (mb 19) 1 = .ok (.iload_n 1, 1) := by decide +kernel
theorem i_S_holdsRule_2 : decode (mb 19) 2 = .ok (.invokevirtual 33, 3) := by decide +kernel
theorem i_S_holdsRule_5 : decode (mb 19) 5 = .ok (.bipush 10, 2) := by decide +kernel
theorem i_S_holdsRule_7 : decode (mb 19) 7 = .ok (.if_icmp .lt 7, 3) := by decide +kernel
theorem i_S_holdsRule_10 : decode (mb 19) 10 = .ok (.iconst 1, 1) := by decide +kernel
theorem i_S_holdsRule_11 : decode (mb 19) 11 = .ok (.goto 4, 3) := by decide +kernel
theorem i_S_holdsRule_14 : decode (mb 19) 14 = .ok (.iconst 0, 1) := by decide +kernel
theorem i_S_holdsRule_15 : decode (mb 19) 15 = .ok (.ireturn, 1) := by decide +kernel
theorem o_S_holdsRow : (mn 20).cls = "NeedsALoser$Shelves" := by decide +kernel
theorem l_S_holdsRow : ml 20 = 2 := by decide +kernel
theorem t_S_holdsRow : mr 20 = some (FieldType.boolean) := by decide +kernel
theorem i_S_holdsRow_0 : decode (mb 20) 0 = .ok (.aload_n 0, 1) := by decide +kernel
theorem i_S_holdsRow_1 : decode (mb 20) 1 = .ok (.iload_n 1, 1) := by decide +kernel
theorem i_S_holdsRow_2 : decode (mb 20) 2 = .ok (.invokevirtual 33, 3) := by decide +kernel
theorem i_S_holdsRow_5 : decode (mb 20) 5 = .ok (.iconst 5, 1) := by decide +kernel
theorem i_S_holdsRow_6 : decode (mb 20) 6 = .ok (.invokestatic 25, 3) := by decide +kernel
theorem i_S_holdsRow_9 : decode (mb 20) 9 = .ok (.ireturn, 1) := by decide +kernel
theorem o_S_sizeOf : (mn 21).cls = "NeedsALoser$Shelves" := by decide +kernel
theorem l_S_sizeOf : ml 21 = 2 := by decide +kernel
theorem t_S_sizeOf : mr 21 = some (FieldType.int) := by decide +kernel
theorem i_S_sizeOf_0 : decode (mb 21) 0 = .ok (.aload_n 0, 1) := by decide +kernel
theorem i_S_sizeOf_1 : decode (mb 21) 1 = .ok (.iload_n 1, 1) := by decide +kernel
theorem i_S_sizeOf_2 : decode (mb 21) 2 = .ok (.invokevirtual 41, 3) := by decide +kernel
theorem i_S_sizeOf_5 : decode (mb 21) 5 = .ok (.ifCond .eq 14, 3) := by decide +kernel
theorem i_S_sizeOf_8 : decode (mb 21) 8 = .ok (.aload_n 0, 1) := by decide +kernel
theorem i_S_sizeOf_9 : decode (mb 21) 9 = .ok (.getfield 15, 3) := by decide +kernel
theorem i_S_sizeOf_12 : decode (mb 21) 12 = .ok (.iload_n 1, 1) := by decide +kernel
theorem i_S_sizeOf_13 : decode (mb 21) 13 = .ok (.invokestatic 29, 3) := by decide +kernel
theorem i_S_sizeOf_16 : decode (mb 21) 16 = .ok (.goto 4, 3) := by decide +kernel
theorem i_S_sizeOf_19 : decode (mb 21) 19 = .ok (.iconst 0, 1) := by decide +kernel
theorem i_S_sizeOf_20 : decode (mb 21) 20 = .ok (.ireturn, 1) := by decide +kernel
theorem o_N_copy : (mn 22).cls = "NeedsALoser" := by decide +kernel
theorem l_N_copy : ml 22 = 7 := by decide +kernel
theorem t_N_copy : mr 22 = some (FieldType.int) := by decide +kernel
theorem i_N_copy_0 : decode (mb 22) 0 = .ok (.aload_n 0, 1) := by decide +kernel
theorem i_N_copy_1 : decode (mb 22) 1 = .ok (.getfield 29, 3) := by decide +kernel
theorem i_N_copy_4 : decode (mb 22) 4 = .ok (.iload_n 1, 1) := by decide +kernel
theorem i_N_copy_5 : decode (mb 22) 5 = .ok (.iload_n 2, 1) := by decide +kernel
theorem i_N_copy_6 : decode (mb 22) 6 = .ok (.iload_n 3, 1) := by decide +kernel
theorem i_N_copy_7 : decode (mb 22) 7 = .ok (.iload 4, 2) := by decide +kernel
theorem i_N_copy_9 : decode (mb 22) 9 = .ok (.iload 5, 2) := by decide +kernel
theorem i_N_copy_11 : decode (mb 22) 11 = .ok (.invokevirtual 84, 3) := by decide +kernel
theorem i_N_copy_14 : decode (mb 22) 14 = .ok (.istore 6, 2) := by decide +kernel
theorem i_N_copy_16 : decode (mb 22) 16 = .ok (.iload 6, 2) := by decide +kernel
theorem i_N_copy_18 : decode (mb 22) 18 = .ok (.ifCond .eq 10, 3) := by decide +kernel
theorem i_N_copy_21 : decode (mb 22) 21 = .ok (.aload_n 0, 1) := by decide +kernel
theorem i_N_copy_22 : decode (mb 22) 22 = .ok (.iload 6, 2) := by decide +kernel
theorem i_N_copy_24 : decode (mb 22) 24 = .ok (.invokevirtual 66, 3) := by decide +kernel
theorem i_N_copy_27 : decode (mb 22) 27 = .ok (.ireturn, 1) := by decide +kernel
theorem i_N_copy_28 : decode (mb 22) 28 = .ok (.aload_n 0, 1) := by decide +kernel
theorem i_N_copy_29 : decode (mb 22) 29 = .ok (.getfield 29, 3) := by decide +kernel
theorem i_N_copy_32 : decode (mb 22) 32 = .ok (.iload_n 1, 1) := by decide +kernel
theorem i_N_copy_33 : decode (mb 22) 33 = .ok (.iload_n 2, 1) := by decide +kernel
theorem i_N_copy_34 : decode (mb 22) 34 = .ok (.iload_n 3, 1) := by decide +kernel
theorem i_N_copy_35 : decode (mb 22) 35 = .ok (.iload 4, 2) := by decide +kernel
theorem i_N_copy_37 : decode (mb 22) 37 = .ok (.iload 5, 2) := by decide +kernel
theorem i_N_copy_39 : decode (mb 22) 39 = .ok (.invokevirtual 88, 3) := by decide +kernel
theorem i_N_copy_42 : decode (mb 22) 42 = .ok (.iload 5, 2) := by decide +kernel
theorem i_N_copy_44 : decode (mb 22) 44 = .ok (.ireturn, 1) := by decide +kernel
theorem o_S_copyRefusal : (mn 23).cls = "NeedsALoser$Shelves" := by decide +kernel
theorem l_S_copyRefusal : ml 23 = 7 := by decide +kernel
theorem t_S_copyRefusal : mr 23 = some (FieldType.int) := by decide +kernel
theorem i_S_copyRefusal_0 : decode (mb 23) 0 = .ok (.iload_n 1, 1) := by decide +kernel
theorem i_S_copyRefusal_1 : decode (mb 23) 1 = .ok (.bipush 8, 2) := by decide +kernel
theorem i_S_copyRefusal_3 : decode (mb 23) 3 = .ok (.invokestatic 25, 3) := by decide +kernel
theorem i_S_copyRefusal_6 : decode (mb 23) 6 = .ok (.ifCond .eq 12, 3) := by decide +kernel
theorem i_S_copyRefusal_9 : decode (mb 23) 9 = .ok (.iload_n 2, 1) := by decide +kernel
theorem i_S_copyRefusal_10 : decode (mb 23) 10 = .ok (.bipush 8, 2) := by decide +kernel
theorem i_S_copyRefusal_12 : decode (mb 23) 12 = .ok (.invokestatic 25, 3) := by decide +kernel
theorem i_S_copyRefusal_15 : decode (mb 23) 15 = .ok (.ifCond .ne 6, 3) := by decide +kernel
theorem i_S_copyRefusal_18 : decode (mb 23) 18 = .ok (.bipush (-2), 2) := by decide +kernel
theorem i_S_copyRefusal_20 : decode (mb 23) 20 = .ok (.ireturn, 1) := by decide +kernel
theorem i_S_copyRefusal_21 : decode (mb 23) 21 = .ok (.aload_n 0, 1) := by decide +kernel
theorem i_S_copyRefusal_22 : decode (mb 23) 22 = .ok (.iload_n 1, 1) := by decide +kernel
theorem i_S_copyRefusal_23 : decode (mb 23) 23 = .ok (.invokevirtual 37, 3) := by decide +kernel
theorem i_S_copyRefusal_26 : decode (mb 23) 26 = .ok (.ifCond .ne 11, 3) := by decide +kernel
theorem i_S_copyRefusal_29 : decode (mb 23) 29 = .ok (.aload_n 0, 1) := by decide +kernel
theorem i_S_copyRefusal_30 : decode (mb 23) 30 = .ok (.iload_n 2, 1) := by decide +kernel
theorem i_S_copyRefusal_31 : decode (mb 23) 31 = .ok (.invokevirtual 37, 3) := by decide +kernel
theorem i_S_copyRefusal_34 : decode (mb 23) 34 = .ok (.ifCond .eq 6, 3) := by decide +kernel
theorem i_S_copyRefusal_37 : decode (mb 23) 37 = .ok (.bipush (-3), 2) := by decide +kernel
theorem i_S_copyRefusal_39 : decode (mb 23) 39 = .ok (.ireturn, 1) := by decide +kernel
theorem i_S_copyRefusal_40 : decode (mb 23) 40 = .ok (.aload_n 0, 1) := by decide +kernel
theorem i_S_copyRefusal_41 : decode (mb 23) 41 = .ok (.iload_n 1, 1) := by decide +kernel
theorem i_S_copyRefusal_42 : decode (mb 23) 42 = .ok (.invokevirtual 41, 3) := by decide +kernel
theorem i_S_copyRefusal_45 : decode (mb 23) 45 = .ok (.ifCond .eq 15, 3) := by decide +kernel
theorem i_S_copyRefusal_48 : decode (mb 23) 48 = .ok (.aload_n 0, 1) := by decide +kernel
theorem i_S_copyRefusal_49 : decode (mb 23) 49 = .ok (.iload_n 2, 1) := by decide +kernel
theorem i_S_copyRefusal_50 : decode (mb 23) 50 = .ok (.invokevirtual 41, 3) := by decide +kernel
theorem i_S_copyRefusal_53 : decode (mb 23) 53 = .ok (.ifCond .eq 7, 3) := by decide +kernel
theorem i_S_copyRefusal_56 : decode (mb 23) 56 = .ok (.iconst 1, 1) := by decide +kernel
theorem i_S_copyRefusal_57 : decode (mb 23) 57 = .ok (.goto 4, 3) := by decide +kernel
theorem i_S_copyRefusal_60 : decode (mb 23) 60 = .ok (.iconst 0, 1) := by decide +kernel
theorem i_S_copyRefusal_61 : decode (mb 23) 61 = .ok (.istore 6, 2) := by decide +kernel
theorem i_S_copyRefusal_63 : decode (mb 23) 63 = .ok (.iload 6, 2) := by decide +kernel
theorem i_S_copyRefusal_65 : decode (mb 23) 65 = .ok (.ifCond .eq 19, 3) := by decide +kernel
theorem i_S_copyRefusal_68 : decode (mb 23) 68 = .ok (.aload_n 0, 1) := by decide +kernel
theorem i_S_copyRefusal_69 : decode (mb 23) 69 = .ok (.iload_n 1, 1) := by decide +kernel
theorem i_S_copyRefusal_70 : decode (mb 23) 70 = .ok (.invokevirtual 33, 3) := by decide +kernel
theorem i_S_copyRefusal_73 : decode (mb 23) 73 = .ok (.aload_n 0, 1) := by decide +kernel
theorem i_S_copyRefusal_74 : decode (mb 23) 74 = .ok (.iload_n 2, 1) := by decide +kernel
theorem i_S_copyRefusal_75 : decode (mb 23) 75 = .ok (.invokevirtual 33, 3) := by decide +kernel
theorem i_S_copyRefusal_78 : decode (mb 23) 78 = .ok (.if_icmp .eq 6, 3) := by decide +kernel
theorem i_S_copyRefusal_81 : decode (mb 23) 81 = .ok (.bipush (-3), 2) := by decide +kernel
theorem i_S_copyRefusal_83 : decode (mb 23) 83 = .ok (.ireturn, 1) := by decide +kernel
theorem i_S_copyRefusal_84 : decode (mb 23) 84 = .ok (.iload 6, 2) := by decide +kernel
theorem i_S_copyRefusal_86 : decode (mb 23) 86 = .ok (.ifCond .ne 6, 3) := by decide +kernel
theorem i_S_copyRefusal_89 : decode (mb 23) 89 = .ok (.bipush (-4), 2) := by decide +kernel
theorem i_S_copyRefusal_91 : decode (mb 23) 91 = .ok (.ireturn, 1) := by decide +kernel
theorem i_S_copyRefusal_92 : decode (mb 23) 92 = .ok (.iload_n 3, 1) := by decide +kernel
theorem i_S_copyRefusal_93 : decode (mb 23) 93 = .ok (.iload 5, 2) := by decide +kernel
theorem i_S_copyRefusal_95 : decode (mb 23) 95 = .ok (.aload_n 0, 1) := by decide +kernel
theorem i_S_copyRefusal_96 : decode (mb 23) 96 = .ok (.iload_n 1, 1) := by decide +kernel
theorem i_S_copyRefusal_97 : decode (mb 23) 97 = .ok (.invokevirtual 44, 3) := by decide +kernel
theorem i_S_copyRefusal_100 : decode (mb 23) 100 = .ok (.invokestatic 47, 3) := by decide +kernel
theorem i_S_copyRefusal_103 : decode (mb 23) 103 = .ok (.ifCond .eq 22, 3) := by decide +kernel
theorem i_S_copyRefusal_106 : decode (mb 23) 106 = .ok (.iload 4, 2) := by decide +kernel
theorem i_S_copyRefusal_108 : decode (mb 23) 108 = .ok (.iload 5, 2) := by decide +kernel
theorem i_S_copyRefusal_110 : decode (mb 23) 110 = .ok (.aload_n 0, 1) := by decide +kernel
theorem i_S_copyRefusal_111 : decode (mb 23) 111 = .ok (.iload_n 2, 1) := by decide +kernel
theorem i_S_copyRefusal_112 : decode (mb 23) 112 = .ok (.invokevirtual 44, 3) := by decide +kernel
theorem i_S_copyRefusal_115 : decode (mb 23) 115 = .ok (.invokestatic 47, 3) := by decide +kernel
theorem i_S_copyRefusal_118 : decode (mb 23) 118 = .ok (.ifCond .eq 7, 3) := by decide +kernel
theorem i_S_copyRefusal_121 : decode (mb 23) 121 = .ok (.iconst 0, 1) := by decide +kernel
theorem i_S_copyRefusal_122 : decode (mb 23) 122 = .ok (.goto 5, 3) := by decide +kernel
theorem i_S_copyRefusal_125 : decode (mb 23) 125 = .ok (.bipush (-2), 2) := by decide +kernel
theorem i_S_copyRefusal_127 : decode (mb 23) 127 = .ok (.ireturn, 1) := by decide +kernel
theorem o_S_isSpan : (mn 24).cls = "NeedsALoser$Shelves" := by decide +kernel
theorem l_S_isSpan : ml 24 = 3 := by decide +kernel
theorem t_S_isSpan : mr 24 = some (FieldType.boolean) := by decide +kernel
theorem i_S_isSpan_0 : decode (mb 24) 0 = .ok (.iload_n 0, 1) := by decide +kernel
theorem i_S_isSpan_1 : decode (mb 24) 1 = .ok (.ifCond .lt 18, 3) := by decide +kernel
theorem i_S_isSpan_4 : decode (mb 24) 4 = .ok (.iload_n 1, 1) := by decide +kernel
theorem i_S_isSpan_5 : decode (mb 24) 5 = .ok (.ifCond .lt 14, 3) := by decide +kernel
theorem i_S_isSpan_8 : decode (mb 24) 8 = .ok (.iload_n 1, 1) := by decide +kernel
theorem i_S_isSpan_9 : decode (mb 24) 9 = .ok (.iload_n 2, 1) := by decide +kernel
theorem i_S_isSpan_10 : decode (mb 24) 10 = .ok (.iload_n 0, 1) := by decide +kernel
theorem i_S_isSpan_11 : decode (mb 24) 11 = .ok (.isub, 1) := by decide +kernel
theorem i_S_isSpan_12 : decode (mb 24) 12 = .ok (.if_icmp .gt 7, 3) := by decide +kernel
theorem i_S_isSpan_15 : decode (mb 24) 15 = .ok (.iconst 1, 1) := by decide +kernel
theorem i_S_isSpan_16 : decode (mb 24) 16 = .ok (.goto 4, 3) := by decide +kernel
theorem i_S_isSpan_19 : decode (mb 24) 19 = .ok (.iconst 0, 1) := by decide +kernel
theorem i_S_isSpan_20 : decode (mb 24) 20 = .ok (.ireturn, 1) := by decide +kernel
theorem o_S_move : (mn 25).cls = "NeedsALoser$Shelves" := by decide +kernel
theorem l_S_move : ml 25 = 8 := by decide +kernel
theorem t_S_move : mr 25 = none := by decide +kernel
theorem i_S_move_0 : decode (mb 25) 0 = .ok (.iconst 0, 1) := by decide +kernel
theorem i_S_move_1 : decode (mb 25) 1 = .ok (.istore 6, 2) := by decide +kernel
theorem i_S_move_3 : decode (mb 25) 3 = .ok (.iload 6, 2) := by decide +kernel
theorem i_S_move_5 : decode (mb 25) 5 = .ok (.iload 5, 2) := by decide +kernel
theorem i_S_move_7 : decode (mb 25) 7 = .ok (.if_icmp .ge 48, 3) := by decide +kernel
theorem i_S_move_10 : decode (mb 25) 10 = .ok (.iload_n 3, 1) := by decide +kernel
theorem i_S_move_11 : decode (mb 25) 11 = .ok (.iload 4, 2) := by decide +kernel
theorem i_S_move_13 : decode (mb 25) 13 = .ok (.if_icmp .ge 13, 3) := by decide +kernel
theorem i_S_move_16 : decode (mb 25) 16 = .ok (.iload 5, 2) := by decide +kernel
theorem i_S_move_18 : decode (mb 25) 18 = .ok (.iconst 1, 1) := by decide +kernel
theorem i_S_move_19 : decode (mb 25) 19 = .ok (.isub, 1) := by decide +kernel
theorem i_S_move_20 : decode (mb 25) 20 = .ok (.iload 6, 2) := by decide +kernel
theorem i_S_move_22 : decode (mb 25) 22 = .ok (.isub, 1) := by decide +kernel
theorem i_S_move_23 : decode (mb 25) 23 = .ok (.goto 5, 3) := by decide +kernel
theorem i_S_move_26 : decode (mb 25) 26 = .ok (.iload 6, 2) := by decide +kernel
theorem i_S_move_28 : decode (mb 25) 28 = .ok (.istore 7, 2) := by decide +kernel
theorem i_S_move_30 : decode (mb 25) 30 = .ok (.aload_n 0, 1) := by decide +kernel
theorem i_S_move_31 : decode (mb 25) 31 = .ok (.iload_n 2, 1) := by decide +kernel
theorem i_S_move_32 : decode (mb 25) 32 = .ok (.iload 4, 2) := by decide +kernel
theorem i_S_move_34 : decode (mb 25) 34 = .ok (.iload 7, 2) := by decide +kernel
theorem i_S_move_36 : decode (mb 25) 36 = .ok (.iadd, 1) := by decide +kernel
theorem i_S_move_37 : decode (mb 25) 37 = .ok (.aload_n 0, 1) := by decide +kernel
theorem i_S_move_38 : decode (mb 25) 38 = .ok (.iload_n 1, 1) := by decide +kernel
theorem i_S_move_39 : decode (mb 25) 39 = .ok (.iload_n 3, 1) := by decide +kernel
theorem i_S_move_40 : decode (mb 25) 40 = .ok (.iload 7, 2) := by decide +kernel
theorem i_S_move_42 : decode (mb 25) 42 = .ok (.iadd, 1) := by decide +kernel
theorem i_S_move_43 : decode (mb 25) 43 = .ok (.invokevirtual 63, 3) := by decide +kernel
theorem i_S_move_46 : decode (mb 25) 46 = .ok (.invokevirtual 55, 3) := by decide +kernel
theorem i_S_move_49 : decode (mb 25) 49 = .ok (.iinc 6 1, 3) := by decide +kernel
theorem i_S_move_52 : decode (mb 25) 52 = .ok (.goto (-49), 3) := by decide +kernel
theorem i_S_move_55 : decode (mb 25) 55 = .ok (.return_, 1) := by decide +kernel
theorem o_S_elementAt : (mn 26).cls = "NeedsALoser$Shelves" := by decide +kernel
theorem l_S_elementAt : ml 26 = 4 := by decide +kernel
theorem t_S_elementAt : mr 26 = some (FieldType.long) := by decide +kernel
theorem i_S_elementAt_0 : decode (mb 26) 0 = .ok (.iload_n 2, 1) := by decide +kernel
theorem i_S_elementAt_1 : decode (mb 26) 1 = .ok (.aload_n 0, 1) := by decide +kernel
theorem i_S_elementAt_2 : decode (mb 26) 2 = .ok (.iload_n 1, 1) := by decide +kernel
theorem i_S_elementAt_3 : decode (mb 26) 3 = .ok (.invokevirtual 44, 3) := by decide +kernel
theorem i_S_elementAt_6 : decode (mb 26) 6 = .ok (.invokestatic 25, 3) := by decide +kernel
theorem i_S_elementAt_9 : decode (mb 26) 9 = .ok (.ifCond .ne 5, 3) := by decide +kernel
theorem i_S_elementAt_12 : decode (mb 26) 12 = .ok (.lconst 0, 1) := by decide +kernel
theorem i_S_elementAt_13 : decode (mb 26) 13 = .ok (.lreturn, 1) := by decide +kernel
theorem i_S_elementAt_14 : decode (mb 26) 14 = .ok (.iload_n 1, 1) := by decide +kernel
theorem i_S_elementAt_15 : decode (mb 26) 15 = .ok (.bipush 40, 2) := by decide +kernel
theorem i_S_elementAt_17 : decode (mb 26) 17 = .ok (.imul, 1) := by decide +kernel
theorem i_S_elementAt_18 : decode (mb 26) 18 = .ok (.iload_n 2, 1) := by decide +kernel
theorem i_S_elementAt_19 : decode (mb 26) 19 = .ok (.iadd, 1) := by decide +kernel
theorem i_S_elementAt_20 : decode (mb 26) 20 = .ok (.istore_n 3, 1) := by decide +kernel
theorem i_S_elementAt_21 : decode (mb 26) 21 = .ok (.iload_n 3, 1) := by decide +kernel
theorem i_S_elementAt_22 : decode (mb 26) 22 = .ok (.ifCond .lt 21, 3) := by decide +kernel
theorem i_S_elementAt_25 : decode (mb 26) 25 = .ok (.iload_n 3, 1) := by decide +kernel
theorem i_S_elementAt_26 : decode (mb 26) 26 = .ok (.aload_n 0, 1) := by decide +kernel
theorem i_S_elementAt_27 : decode (mb 26) 27 = .ok (.getfield 21, 3) := by decide +kernel
theorem i_S_elementAt_30 : decode (mb 26) 30 = .ok (.arraylength, 1) := by decide +kernel
theorem i_S_elementAt_31 : decode (mb 26) 31 = .ok (.if_icmp .ge 12, 3) := by decide +kernel
theorem i_S_elementAt_34 : decode (mb 26) 34 = .ok (.aload_n 0, 1) := by decide +kernel
theorem i_S_elementAt_35 : decode (mb 26) 35 = .ok (.getfield 21, 3) := by decide +kernel
theorem i_S_elementAt_38 : decode (mb 26) 38 = .ok (.iload_n 3, 1) := by decide +kernel
theorem i_S_elementAt_39 : decode (mb 26) 39 = .ok (.laload, 1) := by decide +kernel
theorem i_S_elementAt_40 : decode (mb 26) 40 = .ok (.goto 4, 3) := by decide +kernel
theorem i_S_elementAt_43 : decode (mb 26) 43 = .ok (.lconst 0, 1) := by decide +kernel
theorem i_S_elementAt_44 : decode (mb 26) 44 = .ok (.lreturn, 1) := by decide +kernel
theorem o_N_element : (mn 27).cls = "NeedsALoser" := by decide +kernel
theorem l_N_element : ml 27 = 3 := by decide +kernel
theorem t_N_element : mr 27 = some (FieldType.long) := by decide +kernel
theorem i_N_element_0 : decode (mb 27) 0 = .ok (.aload_n 0, 1) := by decide +kernel
theorem i_N_element_1 : decode (mb 27) 1 = .ok (.getfield 29, 3) := by decide +kernel
theorem i_N_element_4 : decode (mb 27) 4 = .ok (.iload_n 1, 1) := by decide +kernel
theorem i_N_element_5 : decode (mb 27) 5 = .ok (.iload_n 2, 1) := by decide +kernel
theorem i_N_element_6 : decode (mb 27) 6 = .ok (.invokevirtual 92, 3) := by decide +kernel
theorem i_N_element_9 : decode (mb 27) 9 = .ok (.lreturn, 1) := by decide +kernel
theorem o_N_holds : (mn 28).cls = "NeedsALoser" := by decide +kernel
theorem l_N_holds : ml 28 = 2 := by decide +kernel
theorem t_N_holds : mr 28 = some (FieldType.int) := by decide +kernel
theorem i_N_holds_0 : decode (mb 28) 0 = .ok (.aload_n 0, 1) := by decide +kernel
theorem i_N_holds_1 : decode (mb 28) 1 = .ok (.getfield 29, 3) := by decide +kernel
theorem i_N_holds_4 : decode (mb 28) 4 = .ok (.iload_n 1, 1) := by decide +kernel
theorem i_N_holds_5 : decode (mb 28) 5 = .ok (.invokevirtual 96, 3) := by decide +kernel
theorem i_N_holds_8 : decode (mb 28) 8 = .ok (.ireturn, 1) := by decide +kernel
theorem o_N_rule : (mn 29).cls = "NeedsALoser" := by decide +kernel
theorem l_N_rule : ml 29 = 4 := by decide +kernel
theorem t_N_rule : mr 29 = some (FieldType.int) := by decide +kernel
theorem i_N_rule_0 : decode (mb 29) 0 = .ok (.iload_n 1, 1) := by decide +kernel
theorem i_N_rule_1 : decode (mb 29) 1 = .ok (.bipush 8, 2) := by decide +kernel
theorem i_N_rule_3 : decode (mb 29) 3 = .ok (.invokestatic 58, 3) := by decide +kernel
theorem i_N_rule_6 : decode (mb 29) 6 = .ok (.ifCond .eq 23, 3) := by decide +kernel
theorem i_N_rule_9 : decode (mb 29) 9 = .ok (.iload_n 2, 1) := by decide +kernel
theorem i_N_rule_10 : decode (mb 29) 10 = .ok (.iconst 1, 1) := by decide +kernel
theorem i_N_rule_11 : decode (mb 29) 11 = .ok (.bipush 6, 2) := by decide +kernel
theorem i_N_rule_13 : decode (mb 29) 13 = .ok (.invokestatic 62, 3) := by decide +kernel
theorem i_N_rule_16 : decode (mb 29) 16 = .ok (.ifCond .eq 13, 3) := by decide +kernel
theorem i_N_rule_19 : decode (mb 29) 19 = .ok (.iload_n 3, 1) := by decide +kernel
theorem i_N_rule_20 : decode (mb 29) 20 = .ok (.iconst 0, 1) := by decide +kernel
theorem i_N_rule_21 : decode (mb 29) 21 = .ok (.bipush 99, 2) := by decide +kernel
theorem i_N_rule_23 : decode (mb 29) 23 = .ok (.invokestatic 62, 3) := by decide +kernel
theorem i_N_rule_26 : decode (mb 29) 26 = .ok (.ifCond .ne 10, 3) := by decide +kernel
theorem i_N_rule_29 : decode (mb 29) 29 = .ok (.aload_n 0, 1) := by decide +kernel
theorem i_N_rule_30 : decode (mb 29) 30 = .ok (.bipush (-2), 2) := by decide +kernel
theorem i_N_rule_32 : decode (mb 29) 32 = .ok (.invokevirtual 66, 3) := by decide +kernel
theorem i_N_rule_35 : decode (mb 29) 35 = .ok (.ireturn, 1) := by decide +kernel
theorem i_N_rule_36 : decode (mb 29) 36 = .ok (.aload_n 0, 1) := by decide +kernel
theorem i_N_rule_37 : decode (mb 29) 37 = .ok (.getfield 29, 3) := by decide +kernel
theorem i_N_rule_40 : decode (mb 29) 40 = .ok (.iload_n 1, 1) := by decide +kernel
theorem i_N_rule_41 : decode (mb 29) 41 = .ok (.iload_n 2, 1) := by decide +kernel
theorem i_N_rule_42 : decode (mb 29) 42 = .ok (.iload_n 3, 1) := by decide +kernel
theorem i_N_rule_43 : decode (mb 29) 43 = .ok (.invokevirtual 101, 3) := by decide +kernel
theorem i_N_rule_46 : decode (mb 29) 46 = .ok (.iconst 1, 1) := by decide +kernel
theorem i_N_rule_47 : decode (mb 29) 47 = .ok (.ireturn, 1) := by decide +kernel
theorem o_S_putRule : (mn 30).cls = "NeedsALoser$Shelves" := by decide +kernel
theorem l_S_putRule : ml 30 = 4 := by decide +kernel
theorem t_S_putRule : mr 30 = none := by decide +kernel
theorem i_S_putRule_0 : decode (mb 30) 0 = .ok (.aload_n 0, 1) := by decide +kernel
theorem i_S_putRule_1 : decode (mb 30) 1 = .ok (.getfield 9, 3) := by decide +kernel
theorem i_S_putRule_4 : decode (mb 30) 4 = .ok (.iload_n 1, 1) := by decide +kernel
theorem i_S_putRule_5 : decode (mb 30) 5 = .ok (.bipush 10, 2) := by decide +kernel
theorem i_S_putRule_7 : decode (mb 30) 7 = .ok (.iload_n 2, 1) := by decide +kernel
theorem i_S_putRule_8 : decode (mb 30) 8 = .ok (.iadd, 1) := by decide +kernel
theorem i_S_putRule_9 : decode (mb 30) 9 = .ok (.invokestatic 51, 3) := by decide +kernel
theorem i_S_putRule_12 : decode (mb 30) 12 = .ok (.aload_n 0, 1) := by decide +kernel
theorem i_S_putRule_13 : decode (mb 30) 13 = .ok (.getfield 18, 3) := by decide +kernel
theorem i_S_putRule_16 : decode (mb 30) 16 = .ok (.iload_n 1, 1) := by decide +kernel
theorem i_S_putRule_17 : decode (mb 30) 17 = .ok (.iload_n 3, 1) := by decide +kernel
theorem i_S_putRule_18 : decode (mb 30) 18 = .ok (.invokestatic 51, 3) := by decide +kernel
theorem i_S_putRule_21 : decode (mb 30) 21 = .ok (.return_, 1) := by decide +kernel
theorem o_N_says : (mn 31).cls = "NeedsALoser" := by decide +kernel
theorem l_N_says : ml 31 = 4 := by decide +kernel
theorem t_N_says : mr 31 = some (FieldType.int) := by decide +kernel
theorem i_N_says_0 : decode (mb 31) 0 = .ok (.iload_n 1, 1) := by decide +kernel
theorem i_N_says_1 : decode (mb 31) 1 = .ok (.bipush 8, 2) := by decide +kernel
theorem i_N_says_3 : decode (mb 31) 3 = .ok (.invokestatic 58, 3) := by decide +kernel
theorem i_N_says_6 : decode (mb 31) 6 = .ok (.ifCond .eq 13, 3) := by decide +kernel
theorem i_N_says_9 : decode (mb 31) 9 = .ok (.iload_n 2, 1) := by decide +kernel
theorem i_N_says_10 : decode (mb 31) 10 = .ok (.iconst 0, 1) := by decide +kernel
theorem i_N_says_11 : decode (mb 31) 11 = .ok (.bipush 6, 2) := by decide +kernel
theorem i_N_says_13 : decode (mb 31) 13 = .ok (.invokestatic 62, 3) := by decide +kernel
theorem i_N_says_16 : decode (mb 31) 16 = .ok (.ifCond .ne 10, 3) := by decide +kernel
theorem i_N_says_19 : decode (mb 31) 19 = .ok (.aload_n 0, 1) := by decide +kernel
theorem i_N_says_20 : decode (mb 31) 20 = .ok (.bipush (-2), 2) := by decide +kernel
theorem i_N_says_22 : decode (mb 31) 22 = .ok (.invokevirtual 66, 3) := by decide +kernel
theorem i_N_says_25 : decode (mb 31) 25 = .ok (.ireturn, 1) := by decide +kernel
theorem i_N_says_26 : decode (mb 31) 26 = .ok (.aload_n 0, 1) := by decide +kernel
theorem i_N_says_27 : decode (mb 31) 27 = .ok (.getfield 29, 3) := by decide +kernel
theorem i_N_says_30 : decode (mb 31) 30 = .ok (.iload_n 1, 1) := by decide +kernel
theorem i_N_says_31 : decode (mb 31) 31 = .ok (.invokevirtual 104, 3) := by decide +kernel
theorem i_N_says_34 : decode (mb 31) 34 = .ok (.istore_n 3, 1) := by decide +kernel
theorem i_N_says_35 : decode (mb 31) 35 = .ok (.iload_n 3, 1) := by decide +kernel
theorem i_N_says_36 : decode (mb 31) 36 = .ok (.ifCond .ne 21, 3) := by decide +kernel
theorem i_N_says_39 : decode (mb 31) 39 = .ok (.aload_n 0, 1) := by decide +kernel
theorem i_N_says_40 : decode (mb 31) 40 = .ok (.getfield 29, 3) := by decide +kernel
theorem i_N_says_43 : decode (mb 31) 43 = .ok (.iload_n 1, 1) := by decide +kernel
theorem i_N_says_44 : decode (mb 31) 44 = .ok (.invokevirtual 107, 3) := by decide +kernel
theorem i_N_says_47 : decode (mb 31) 47 = .ok (.iload_n 2, 1) := by decide +kernel
theorem i_N_says_48 : decode (mb 31) 48 = .ok (.invokestatic 110, 3) := by decide +kernel
theorem i_N_says_51 : decode (mb 31) 51 = .ok (.ifCond .ne 6, 3) := by decide +kernel
theorem i_N_says_54 : decode (mb 31) 54 = .ok (.bipush (-3), 2) := by decide +kernel
theorem i_N_says_56 : decode (mb 31) 56 = .ok (.istore_n 3, 1) := by decide +kernel
theorem i_N_says_57 : decode (mb 31) 57 = .ok (.iload_n 3, 1) := by decide +kernel
theorem i_N_says_58 : decode (mb 31) 58 = .ok (.ifCond .ne 20, 3) := by decide +kernel
theorem i_N_says_61 : decode (mb 31) 61 = .ok (.iload_n 2, 1) := by decide +kernel
theorem i_N_says_62 : decode (mb 31) 62 = .ok (.ifCond .eq 16, 3) := by decide +kernel
theorem i_N_says_65 : decode (mb 31) 65 = .ok (.aload_n 0, 1) := by decide +kernel
theorem i_N_says_66 : decode (mb 31) 66 = .ok (.getfield 10, 3) := by decide +kernel
theorem i_N_says_69 : decode (mb 31) 69 = .ok (.getfield 113, 3) := by decide +kernel
theorem i_N_says_72 : decode (mb 31) 72 = .ok (.ifCond .ne 6, 3) := by decide +kernel
theorem i_N_says_75 : decode (mb 31) 75 = .ok (.bipush (-5), 2) := by decide +kernel
theorem i_N_says_77 : decode (mb 31) 77 = .ok (.istore_n 3, 1) := by decide +kernel
theorem i_N_says_78 : decode (mb 31) 78 = .ok (.iload_n 3, 1) := by decide +kernel
theorem i_N_says_79 : decode (mb 31) 79 = .ok (.ifCond .eq 9, 3) := by decide +kernel
theorem i_N_says_82 : decode (mb 31) 82 = .ok (.aload_n 0, 1) := by decide +kernel
theorem i_N_says_83 : decode (mb 31) 83 = .ok (.iload_n 3, 1) := by decide +kernel
theorem i_N_says_84 : decode (mb 31) 84 = .ok (.invokevirtual 66, 3) := by decide +kernel
theorem i_N_says_87 : decode (mb 31) 87 = .ok (.ireturn, 1) := by decide +kernel
theorem i_N_says_88 : decode (mb 31) 88 = .ok (.iload_n 2, 1) := by decide +kernel
theorem i_N_says_89 : decode (mb 31) 89 = .ok (.ifCond .ne 14, 3) := by decide +kernel
theorem i_N_says_92 : decode (mb 31) 92 = .ok (.aload_n 0, 1) := by decide +kernel
theorem i_N_says_93 : decode (mb 31) 93 = .ok (.getfield 29, 3) := by decide +kernel
theorem i_N_says_96 : decode (mb 31) 96 = .ok (.iload_n 1, 1) := by decide +kernel
theorem i_N_says_97 : decode (mb 31) 97 = .ok (.invokevirtual 117, 3) := by decide +kernel
theorem i_N_says_100 : decode (mb 31) 100 = .ok (.goto 10, 3) := by decide +kernel
theorem i_N_says_103 : decode (mb 31) 103 = .ok (.aload_n 0, 1) := by decide +kernel
theorem i_N_says_104 : decode (mb 31) 104 = .ok (.iload_n 1, 1) := by decide +kernel
theorem i_N_says_105 : decode (mb 31) 105 = .ok (.iconst 0, 1) := by decide +kernel
theorem i_N_says_106 : decode (mb 31) 106 = .ok (.iconst 0, 1) := by decide +kernel
theorem i_N_says_107 : decode (mb 31) 107 = .ok (.invokevirtual 120, 3) := by decide +kernel
theorem i_N_says_110 : decode (mb 31) 110 = .ok (.ireturn, 1) := by decide +kernel
theorem o_S_ruleRefusal : (mn 32).cls = "NeedsALoser$Shelves" := by decide +kernel
theorem l_S_ruleRefusal : ml 32 = 2 := by decide +kernel
theorem t_S_ruleRefusal : mr 32 = some (FieldType.int) := by decide +kernel
theorem i_S_ruleRefusal_0 : decode (mb 32) 0 = .ok (.iload_n 1, 1) := by decide +kernel
theorem i_S_ruleRefusal_1 : decode (mb 32) 1 = .ok (.bipush 8, 2) := by decide +kernel
theorem i_S_ruleRefusal_3 : decode (mb 32) 3 = .ok (.invokestatic 25, 3) := by decide +kernel
theorem i_S_ruleRefusal_6 : decode (mb 32) 6 = .ok (.ifCond .ne 6, 3) := by decide +kernel
theorem i_S_ruleRefusal_9 : decode (mb 32) 9 = .ok (.bipush (-2), 2) := by decide +kernel
theorem i_S_ruleRefusal_11 : decode (mb 32) 11 = .ok (.ireturn, 1) := by decide +kernel
theorem i_S_ruleRefusal_12 : decode (mb 32) 12 = .ok (.aload_n 0, 1) := by decide +kernel
theorem i_S_ruleRefusal_13 : decode (mb 32) 13 = .ok (.iload_n 1, 1) := by decide +kernel
theorem i_S_ruleRefusal_14 : decode (mb 32) 14 = .ok (.invokevirtual 41, 3) := by decide +kernel
theorem i_S_ruleRefusal_17 : decode (mb 32) 17 = .ok (.ifCond .eq 6, 3) := by decide +kernel
theorem i_S_ruleRefusal_20 : decode (mb 32) 20 = .ok (.bipush (-3), 2) := by decide +kernel
theorem i_S_ruleRefusal_22 : decode (mb 32) 22 = .ok (.ireturn, 1) := by decide +kernel
theorem i_S_ruleRefusal_23 : decode (mb 32) 23 = .ok (.aload_n 0, 1) := by decide +kernel
theorem i_S_ruleRefusal_24 : decode (mb 32) 24 = .ok (.iload_n 1, 1) := by decide +kernel
theorem i_S_ruleRefusal_25 : decode (mb 32) 25 = .ok (.invokevirtual 37, 3) := by decide +kernel
theorem i_S_ruleRefusal_28 : decode (mb 32) 28 = .ok (.ifCond .eq 7, 3) := by decide +kernel
theorem i_S_ruleRefusal_31 : decode (mb 32) 31 = .ok (.iconst 0, 1) := by decide +kernel
theorem i_S_ruleRefusal_32 : decode (mb 32) 32 = .ok (.goto 5, 3) := by decide +kernel
theorem i_S_ruleRefusal_35 : decode (mb 32) 35 = .ok (.bipush (-4), 2) := by decide +kernel
theorem i_S_ruleRefusal_37 : decode (mb 32) 37 = .ok (.ireturn, 1) := by decide +kernel
theorem o_S_kindIn : (mn 33).cls = "NeedsALoser$Shelves" := by decide +kernel
theorem l_S_kindIn : ml 33 = 2 := by decide +kernel
theorem t_S_kindIn : mr 33 = some (FieldType.int) := by decide +kernel
theorem i_S_kindIn_0 : decode (mb 33) 0 = .ok (.aload_n 0, 1) := by decide +kernel
theorem i_S_kindIn_1 : decode (mb 33) 1 = .ok (.iload_n 1, 1) := by decide +kernel
theorem i_S_kindIn_2 : decode (mb 33) 2 = .ok (.invokevirtual 33, 3) := by decide +kernel
theorem i_S_kindIn_5 : decode (mb 33) 5 = .ok (.bipush 10, 2) := by decide +kernel
theorem i_S_kindIn_7 : decode (mb 33) 7 = .ok (.isub, 1) := by decide +kernel
theorem i_S_kindIn_8 : decode (mb 33) 8 = .ok (.ireturn, 1) := by decide +kernel
theorem o_U_isUnder : (mn 34).cls = "NeedsALoser$Rules" := by decide +kernel
theorem l_U_isUnder : ml 34 = 4 := by decide +kernel
theorem t_U_isUnder : mr 34 = some (FieldType.boolean) := by decide +kernel
theorem i_U_isUnder_0 : decode (mb 34) 0 = .ok (.iload_n 0, 1) := by decide +kernel
theorem i_U_isUnder_1 : decode (mb 34) 1 = .ok (.istore_n 2, 1) := by decide +kernel
theorem i_U_isUnder_2 : decode (mb 34) 2 = .ok (.iconst 0, 1) := by decide +kernel
theorem i_U_isUnder_3 : decode (mb 34) 3 = .ok (.istore_n 3, 1) := by decide +kernel
theorem i_U_isUnder_4 : decode (mb 34) 4 = .ok (.iload_n 3, 1) := by decide +kernel
theorem i_U_isUnder_5 : decode (mb 34) 5 = .ok (.getstatic 9, 3) := by decide +kernel
theorem i_U_isUnder_8 : decode (mb 34) 8 = .ok (.arraylength, 1) := by decide +kernel
theorem i_U_isUnder_9 : decode (mb 34) 9 = .ok (.if_icmp .ge 42, 3) := by decide +kernel
theorem i_U_isUnder_12 : decode (mb 34) 12 = .ok (.iload_n 2, 1) := by decide +kernel
theorem i_U_isUnder_13 : decode (mb 34) 13 = .ok (.iconst (-1), 1) := by decide +kernel
theorem i_U_isUnder_14 : decode (mb 34) 14 = .ok (.if_icmp .eq 37, 3) := by decide +kernel
theorem i_U_isUnder_17 : decode (mb 34) 17 = .ok (.iload_n 2, 1) := by decide +kernel
theorem i_U_isUnder_18 : decode (mb 34) 18 = .ok (.iload_n 1, 1) := by decide +kernel
theorem i_U_isUnder_19 : decode (mb 34) 19 = .ok (.if_icmp .ne 5, 3) := by decide +kernel
theorem i_U_isUnder_22 : decode (mb 34) 22 = .ok (.iconst 1, 1) := by decide +kernel
theorem i_U_isUnder_23 : decode (mb 34) 23 = .ok (.ireturn, 1) := by decide +kernel
theorem i_U_isUnder_24 : decode (mb 34) 24 = .ok (.iload_n 2, 1) := by decide +kernel
theorem i_U_isUnder_25 : decode (mb 34) 25 = .ok (.getstatic 9, 3) := by decide +kernel
theorem i_U_isUnder_28 : decode (mb 34) 28 = .ok (.arraylength, 1) := by decide +kernel
theorem i_U_isUnder_29 : decode (mb 34) 29 = .ok (.invokestatic 15, 3) := by decide +kernel
theorem i_U_isUnder_32 : decode (mb 34) 32 = .ok (.ifCond .eq 11, 3) := by decide +kernel
theorem i_U_isUnder_35 : decode (mb 34) 35 = .ok (.getstatic 9, 3) := by decide +kernel
theorem i_U_isUnder_38 : decode (mb 34) 38 = .ok (.iload_n 2, 1) := by decide +kernel
theorem i_U_isUnder_39 : decode (mb 34) 39 = .ok (.iaload, 1) := by decide +kernel
theorem i_U_isUnder_40 : decode (mb 34) 40 = .ok (.goto 4, 3) := by decide +kernel
theorem i_U_isUnder_43 : decode (mb 34) 43 = .ok (.iconst (-1), 1) := by decide +kernel
theorem i_U_isUnder_44 : decode (mb 34) 44 = .ok (.istore_n 2, 1) := by decide +kernel
theorem i_U_isUnder_45 : decode (mb 34) 45 = .ok (.iinc 3 1, 3) := by decide +kernel
theorem i_U_isUnder_48 : decode (mb 34) 48 = .ok (.goto (-44), 3) := by decide +kernel
theorem i_U_isUnder_51 : decode (mb 34) 51 = .ok (.iconst 0, 1) := by decide +kernel
theorem i_U_isUnder_52 : decode (mb 34) 52 = .ok (.ireturn, 1) := by decide +kernel
theorem o_S_numberIn : (mn 35).cls = "NeedsALoser$Shelves" := by decide +kernel
theorem l_S_numberIn : ml 35 = 2 := by decide +kernel
theorem t_S_numberIn : mr 35 = some (FieldType.int) := by decide +kernel
theorem i_S_numberIn_0 : decode (mb 35) 0 = .ok (.aload_n 0, 1) := by decide +kernel
theorem i_S_numberIn_1 : decode (mb 35) 1 = .ok (.getfield 18, 3) := by decide +kernel
theorem i_S_numberIn_4 : decode (mb 35) 4 = .ok (.iload_n 1, 1) := by decide +kernel
theorem i_S_numberIn_5 : decode (mb 35) 5 = .ok (.invokestatic 29, 3) := by decide +kernel
theorem i_S_numberIn_8 : decode (mb 35) 8 = .ok (.ireturn, 1) := by decide +kernel
theorem o_N_thirdByShelf : (mn 36).cls = "NeedsALoser" := by decide +kernel
theorem l_N_thirdByShelf : ml 36 = 4 := by decide +kernel
theorem t_N_thirdByShelf : mr 36 = some (FieldType.int) := by decide +kernel
theorem i_N_thirdByShelf_0 : decode (mb 36) 0 = .ok (.aload_n 0, 1) := by decide +kernel
theorem i_N_thirdByShelf_1 : decode (mb 36) 1 = .ok (.getfield 10, 3) := by decide +kernel
theorem i_N_thirdByShelf_4 : decode (mb 36) 4 = .ok (.aload_n 0, 1) := by decide +kernel
theorem i_N_thirdByShelf_5 : decode (mb 36) 5 = .ok (.getfield 29, 3) := by decide +kernel
theorem i_N_thirdByShelf_8 : decode (mb 36) 8 = .ok (.iload_n 1, 1) := by decide +kernel
theorem i_N_thirdByShelf_9 : decode (mb 36) 9 = .ok (.invokevirtual 107, 3) := by decide +kernel
theorem i_N_thirdByShelf_12 : decode (mb 36) 12 = .ok (.aload_n 0, 1) := by decide +kernel
theorem i_N_thirdByShelf_13 : decode (mb 36) 13 = .ok (.getfield 29, 3) := by decide +kernel
theorem i_N_thirdByShelf_16 : decode (mb 36) 16 = .ok (.iload_n 1, 1) := by decide +kernel
theorem i_N_thirdByShelf_17 : decode (mb 36) 17 = .ok (.invokevirtual 117, 3) := by decide +kernel
theorem i_N_thirdByShelf_20 : decode (mb 36) 20 = .ok (.iload_n 2, 1) := by decide +kernel
theorem i_N_thirdByShelf_21 : decode (mb 36) 21 = .ok (.aload_n 0, 1) := by decide +kernel
theorem i_N_thirdByShelf_22 : decode (mb 36) 22 = .ok (.getfield 10, 3) := by decide +kernel
theorem i_N_thirdByShelf_25 : decode (mb 36) 25 = .ok (.iload_n 2, 1) := by decide +kernel
theorem i_N_thirdByShelf_26 : decode (mb 36) 26 = .ok (.iload_n 3, 1) := by decide +kernel
theorem i_N_thirdByShelf_27 : decode (mb 36) 27 = .ok (.invokevirtual 344, 3) := by decide +kernel
theorem i_N_thirdByShelf_30 : decode (mb 36) 30 = .ok (.invokestatic 347, 3) := by decide +kernel
theorem i_N_thirdByShelf_33 : decode (mb 36) 33 = .ok (.ireturn, 1) := by decide +kernel
theorem o_T_mayBits : (mn 37).cls = "NeedsALoser$Town" := by decide +kernel
theorem l_T_mayBits : ml 37 = 3 := by decide +kernel
theorem t_T_mayBits : mr 37 = some (FieldType.int) := by decide +kernel
theorem i_T_mayBits_0 : decode (mb 37) 0 = .ok (.aload_n 0, 1) := by decide +kernel
theorem i_T_mayBits_1 : decode (mb 37) 1 = .ok (.getfield 21, 3) := by decide +kernel
theorem i_T_mayBits_4 : decode (mb 37) 4 = .ok (.iconst 1, 1) := by decide +kernel
theorem i_T_mayBits_5 : decode (mb 37) 5 = .ok (.if_icmp .ne 15, 3) := by decide +kernel
theorem i_T_mayBits_8 : decode (mb 37) 8 = .ok (.aload_n 0, 1) := by decide +kernel
theorem i_T_mayBits_9 : decode (mb 37) 9 = .ok (.iload_n 1, 1) := by decide +kernel
theorem i_T_mayBits_10 : decode (mb 37) 10 = .ok (.invokevirtual 108, 3) := by decide +kernel
theorem i_T_mayBits_13 : decode (mb 37) 13 = .ok (.iload_n 2, 1) := by decide +kernel
theorem i_T_mayBits_14 : decode (mb 37) 14 = .ok (.iconst (-1), 1) := by decide +kernel
theorem i_T_mayBits_15 : decode (mb 37) 15 = .ok (.ixor, 1) := by decide +kernel
theorem i_T_mayBits_16 : decode (mb 37) 16 = .ok (.iand, 1) := by decide +kernel
theorem i_T_mayBits_17 : decode (mb 37) 17 = .ok (.goto 8, 3) := by decide +kernel
theorem i_T_mayBits_20 : decode (mb 37) 20 = .ok (.aload_n 0, 1) := by decide +kernel
theorem i_T_mayBits_21 : decode (mb 37) 21 = .ok (.iload_n 1, 1) := by decide +kernel
theorem i_T_mayBits_22 : decode (mb 37) 22 = .ok (.invokevirtual 108, 3) := by decide +kernel
theorem i_T_mayBits_25 : decode (mb 37) 25 = .ok (.ireturn, 1) := by decide +kernel
theorem o_T_goodBits : (mn 38).cls = "NeedsALoser$Town" := by decide +kernel
theorem l_T_goodBits : ml 38 = 4 := by decide +kernel
theorem t_T_goodBits : mr 38 = some (FieldType.int) := by decide +kernel
theorem i_T_goodBits_0 : decode (mb 38) 0 = .ok (.iconst 0, 1) := by decide +kernel
theorem i_T_goodBits_1 : decode (mb 38) 1 = .ok (.istore_n 2, 1) := by decide +kernel
theorem i_T_goodBits_2 : decode (mb 38) 2 = .ok (.iconst 0, 1) := by decide +kernel
theorem i_T_goodBits_3 : decode (mb 38) 3 = .ok (.istore_n 3, 1) := by decide +kernel
theorem i_T_goodBits_4 : decode (mb 38) 4 = .ok (.iload_n 3, 1) := by decide +kernel
theorem i_T_goodBits_5 : decode (mb 38) 5 = .ok (.aload_n 0, 1) := by decide +kernel
theorem i_T_goodBits_6 : decode (mb 38) 6 = .ok (.getfield 9, 3) := by decide +kernel
theorem i_T_goodBits_9 : decode (mb 38) 9 = .ok (.if_icmp .ge 24, 3) := by decide +kernel
theorem i_T_goodBits_12 : decode (mb 38) 12 = .ok (.aload_n 0, 1) := by decide +kernel
theorem i_T_goodBits_13 : decode (mb 38) 13 = .ok (.iload_n 1, 1) := by decide +kernel
theorem i_T_goodBits_14 : decode (mb 38) 14 = .ok (.iload_n 3, 1) := by decide +kernel
theorem i_T_goodBits_15 : decode (mb 38) 15 = .ok (.invokevirtual 105, 3) := by decide +kernel
theorem i_T_goodBits_18 : decode (mb 38) 18 = .ok (.ifCond .eq 9, 3) := by decide +kernel
theorem i_T_goodBits_21 : decode (mb 38) 21 = .ok (.iload_n 2, 1) := by decide +kernel
theorem i_T_goodBits_22 : decode (mb 38) 22 = .ok (.iconst 1, 1) := by decide +kernel
theorem i_T_goodBits_23 : decode (mb 38) 23 = .ok (.iload_n 3, 1) := by decide +kernel
theorem i_T_goodBits_24 : decode (mb 38) 24 = .ok (.ishl, 1) := by decide +kernel
theorem i_T_goodBits_25 : decode (mb 38) 25 = .ok (.ior, 1) := by decide +kernel
theorem i_T_goodBits_26 : decode (mb 38) 26 = .ok (.istore_n 2, 1) := by decide +kernel
theorem i_T_goodBits_27 : decode (mb 38) 27 = .ok (.iinc 3 1, 3) := by decide +kernel
theorem i_T_goodBits_30 : decode (mb 38) 30 = .ok (.goto (-26), 3) := by decide +kernel
theorem i_T_goodBits_33 : decode (mb 38) 33 = .ok (.iload_n 2, 1) := by decide +kernel
theorem i_T_goodBits_34 : decode (mb 38) 34 = .ok (.ireturn, 1) := by decide +kernel
theorem o_T_isGoodBy : (mn 39).cls = "NeedsALoser$Town" := by decide +kernel
theorem l_T_isGoodBy : ml 39 = 3 := by decide +kernel
theorem t_T_isGoodBy : mr 39 = some (FieldType.boolean) := by decide +kernel
theorem i_T_isGoodBy_0 : decode (mb 39) 0 = .ok (.aload_n 0, 1) := by decide +kernel
theorem i_T_isGoodBy_1 : decode (mb 39) 1 = .ok (.iload_n 1, 1) := by decide +kernel
theorem i_T_isGoodBy_2 : decode (mb 39) 2 = .ok (.iload_n 2, 1) := by decide +kernel
theorem i_T_isGoodBy_3 : decode (mb 39) 3 = .ok (.invokevirtual 98, 3) := by decide +kernel
theorem i_T_isGoodBy_6 : decode (mb 39) 6 = .ok (.aload_n 0, 1) := by decide +kernel
theorem i_T_isGoodBy_7 : decode (mb 39) 7 = .ok (.getfield 18, 3) := by decide +kernel
theorem i_T_isGoodBy_10 : decode (mb 39) 10 = .ok (.if_icmp .lt 16, 3) := by decide +kernel
theorem i_T_isGoodBy_13 : decode (mb 39) 13 = .ok (.aload_n 0, 1) := by decide +kernel
theorem i_T_isGoodBy_14 : decode (mb 39) 14 = .ok (.iload_n 1, 1) := by decide +kernel
theorem i_T_isGoodBy_15 : decode (mb 39) 15 = .ok (.iload_n 2, 1) := by decide +kernel
theorem i_T_isGoodBy_16 : decode (mb 39) 16 = .ok (.invokevirtual 102, 3) := by decide +kernel
theorem i_T_isGoodBy_19 : decode (mb 39) 19 = .ok (.ifCond .ne 7, 3) := by decide +kernel
theorem i_T_isGoodBy_22 : decode (mb 39) 22 = .ok (.iconst 1, 1) := by decide +kernel
theorem i_T_isGoodBy_23 : decode (mb 39) 23 = .ok (.goto 4, 3) := by decide +kernel
theorem i_T_isGoodBy_26 : decode (mb 39) 26 = .ok (.iconst 0, 1) := by decide +kernel
theorem i_T_isGoodBy_27 : decode (mb 39) 27 = .ok (.ireturn, 1) := by decide +kernel
theorem o_T_lossBy : (mn 40).cls = "NeedsALoser$Town" := by decide +kernel
theorem l_T_lossBy : ml 40 = 4 := by decide +kernel
theorem t_T_lossBy : mr 40 = some (FieldType.int) := by decide +kernel
theorem i_T_lossBy_0 : decode (mb 40) 0 = .ok (.iload_n 1, 1) := by decide +kernel
theorem i_T_lossBy_1 : decode (mb 40) 1 = .ok (.bipush 7, 2) := by decide +kernel
theorem i_T_lossBy_3 : decode (mb 40) 3 = .ok (.imul, 1) := by decide +kernel
theorem i_T_lossBy_4 : decode (mb 40) 4 = .ok (.iload_n 2, 1) := by decide +kernel
theorem i_T_lossBy_5 : decode (mb 40) 5 = .ok (.iadd, 1) := by decide +kernel
theorem i_T_lossBy_6 : decode (mb 40) 6 = .ok (.istore_n 3, 1) := by decide +kernel
theorem i_T_lossBy_7 : decode (mb 40) 7 = .ok (.iload_n 3, 1) := by decide +kernel
theorem i_T_lossBy_8 : decode (mb 40) 8 = .ok (.ifCond .lt 21, 3) := by decide +kernel
theorem i_T_lossBy_11 : decode (mb 40) 11 = .ok (.iload_n 3, 1) := by decide +kernel
theorem i_T_lossBy_12 : decode (mb 40) 12 = .ok (.aload_n 0, 1) := by decide +kernel
theorem i_T_lossBy_13 : decode (mb 40) 13 = .ok (.getfield 61, 3) := by decide +kernel
theorem i_T_lossBy_16 : decode (mb 40) 16 = .ok (.arraylength, 1) := by decide +kernel
theorem i_T_lossBy_17 : decode (mb 40) 17 = .ok (.if_icmp .ge 12, 3) := by decide +kernel
theorem i_T_lossBy_20 : decode (mb 40) 20 = .ok (.aload_n 0, 1) := by decide +kernel
theorem i_T_lossBy_21 : decode (mb 40) 21 = .ok (.getfield 61, 3) := by decide +kernel
theorem i_T_lossBy_24 : decode (mb 40) 24 = .ok (.iload_n 3, 1) := by decide +kernel
theorem i_T_lossBy_25 : decode (mb 40) 25 = .ok (.iaload, 1) := by decide +kernel
theorem i_T_lossBy_26 : decode (mb 40) 26 = .ok (.goto 4, 3) := by decide +kernel
theorem i_T_lossBy_29 : decode (mb 40) 29 = .ok (.iconst 0, 1) := by decide +kernel
theorem i_T_lossBy_30 : decode (mb 40) 30 = .ok (.ireturn, 1) := by decide +kernel
theorem o_T_isParty : (mn 41).cls = "NeedsALoser$Town" := by decide +kernel
theorem l_T_isParty : ml 41 = 3 := by decide +kernel
theorem t_T_isParty : mr 41 = some (FieldType.boolean) := by decide +kernel
theorem i_T_isParty_0 : decode (mb 41) 0 = .ok (.iload_n 1, 1) := by decide +kernel
theorem i_T_isParty_1 : decode (mb 41) 1 = .ok (.ifCond .lt 45, 3) := by decide +kernel
theorem i_T_isParty_4 : decode (mb 41) 4 = .ok (.iload_n 1, 1) := by decide +kernel
theorem i_T_isParty_5 : decode (mb 41) 5 = .ok (.aload_n 0, 1) := by decide +kernel
theorem i_T_isParty_6 : decode (mb 41) 6 = .ok (.getfield 46, 3) := by decide +kernel
theorem i_T_isParty_9 : decode (mb 41) 9 = .ok (.arraylength, 1) := by decide +kernel
theorem i_T_isParty_10 : decode (mb 41) 10 = .ok (.if_icmp .ge 36, 3) := by decide +kernel
theorem i_T_isParty_13 : decode (mb 41) 13 = .ok (.iload_n 1, 1) := by decide +kernel
theorem i_T_isParty_14 : decode (mb 41) 14 = .ok (.aload_n 0, 1) := by decide +kernel
theorem i_T_isParty_15 : decode (mb 41) 15 = .ok (.getfield 49, 3) := by decide +kernel
theorem i_T_isParty_18 : decode (mb 41) 18 = .ok (.arraylength, 1) := by decide +kernel
theorem i_T_isParty_19 : decode (mb 41) 19 = .ok (.if_icmp .ge 27, 3) := by decide +kernel
theorem i_T_isParty_22 : decode (mb 41) 22 = .ok (.aload_n 0, 1) := by decide +kernel
theorem i_T_isParty_23 : decode (mb 41) 23 = .ok (.getfield 46, 3) := by decide +kernel
theorem i_T_isParty_26 : decode (mb 41) 26 = .ok (.iload_n 1, 1) := by decide +kernel
theorem i_T_isParty_27 : decode (mb 41) 27 = .ok (.iaload, 1) := by decide +kernel
theorem i_T_isParty_28 : decode (mb 41) 28 = .ok (.iload_n 2, 1) := by decide +kernel
theorem i_T_isParty_29 : decode (mb 41) 29 = .ok (.if_icmp .eq 13, 3) := by decide +kernel
theorem i_T_isParty_32 : decode (mb 41) 32 = .ok (.aload_n 0, 1) := by decide +kernel
theorem i_T_isParty_33 : decode (mb 41) 33 = .ok (.getfield 49, 3) := by decide +kernel
theorem i_T_isParty_36 : decode (mb 41) 36 = .ok (.iload_n 1, 1) := by decide +kernel
theorem i_T_isParty_37 : decode (mb 41) 37 = .ok (.iaload, 1) := by decide +kernel
theorem i_T_isParty_38 : decode (mb 41) 38 = .ok (.iload_n 2, 1) := by decide +kernel
theorem i_T_isParty_39 : decode (mb 41) 39 = .ok (.if_icmp .ne 7, 3) := by decide +kernel
theorem i_T_isParty_42 : decode (mb 41) 42 = .ok (.iconst 1, 1) := by decide +kernel
theorem i_T_isParty_43 : decode (mb 41) 43 = .ok (.goto 4, 3) := by decide +kernel
theorem i_T_isParty_46 : decode (mb 41) 46 = .ok (.iconst 0, 1) := by decide +kernel
theorem i_T_isParty_47 : decode (mb 41) 47 = .ok (.ireturn, 1) := by decide +kernel
theorem o_U_thirdFor : (mn 42).cls = "NeedsALoser$Rules" := by decide +kernel
theorem l_U_thirdFor : ml 42 = 7 := by decide +kernel
theorem t_U_thirdFor : mr 42 = some (FieldType.int) := by decide +kernel
theorem i_U_thirdFor_0 : decode (mb 42) 0 = .ok (.iload_n 1, 1) := by decide +kernel
theorem i_U_thirdFor_1 : decode (mb 42) 1 = .ok (.iconst 2, 1) := by decide +kernel
theorem i_U_thirdFor_2 : decode (mb 42) 2 = .ok (.if_icmp .ne 14, 3) := by decide +kernel
theorem i_U_thirdFor_5 : decode (mb 42) 5 = .ok (.iload 4, 2) := by decide +kernel
theorem i_U_thirdFor_7 : decode (mb 42) 7 = .ok (.iload_n 2, 1) := by decide +kernel
theorem i_U_thirdFor_8 : decode (mb 42) 8 = .ok (.invokestatic 19, 3) := by decide +kernel
theorem i_U_thirdFor_11 : decode (mb 42) 11 = .ok (.ifCond .eq 5, 3) := by decide +kernel
theorem i_U_thirdFor_14 : decode (mb 42) 14 = .ok (.iload_n 2, 1) := by decide +kernel
theorem i_U_thirdFor_15 : decode (mb 42) 15 = .ok (.ireturn, 1) := by decide +kernel
theorem i_U_thirdFor_16 : decode (mb 42) 16 = .ok (.aload_n 0, 1) := by decide +kernel
theorem i_U_thirdFor_17 : decode (mb 42) 17 = .ok (.iload_n 1, 1) := by decide +kernel
theorem i_U_thirdFor_18 : decode (mb 42) 18 = .ok (.iload_n 2, 1) := by decide +kernel
theorem i_U_thirdFor_19 : decode (mb 42) 19 = .ok (.iload_n 3, 1) := by decide +kernel
theorem i_U_thirdFor_20 : decode (mb 42) 20 = .ok (.iload 4, 2) := by decide +kernel
theorem i_U_thirdFor_22 : decode (mb 42) 22 = .ok (.invokestatic 22, 3) := by decide +kernel
theorem i_U_thirdFor_25 : decode (mb 42) 25 = .ok (.istore 5, 2) := by decide +kernel
theorem i_U_thirdFor_27 : decode (mb 42) 27 = .ok (.iload_n 1, 1) := by decide +kernel
theorem i_U_thirdFor_28 : decode (mb 42) 28 = .ok (.iconst 5, 1) := by decide +kernel
theorem i_U_thirdFor_29 : decode (mb 42) 29 = .ok (.if_icmp .ne 24, 3) := by decide +kernel
theorem i_U_thirdFor_32 : decode (mb 42) 32 = .ok (.iload 5, 2) := by decide +kernel
theorem i_U_thirdFor_34 : decode (mb 42) 34 = .ok (.iconst (-1), 1) := by decide +kernel
theorem i_U_thirdFor_35 : decode (mb 42) 35 = .ok (.if_icmp .eq 18, 3) := by decide +kernel
theorem i_U_thirdFor_38 : decode (mb 42) 38 = .ok (.aload_n 0, 1) := by decide +kernel
theorem i_U_thirdFor_39 : decode (mb 42) 39 = .ok (.iload_n 3, 1) := by decide +kernel
theorem i_U_thirdFor_40 : decode (mb 42) 40 = .ok (.iload 5, 2) := by decide +kernel
theorem i_U_thirdFor_42 : decode (mb 42) 42 = .ok (.invokevirtual 26, 3) := by decide +kernel
theorem i_U_thirdFor_45 : decode (mb 42) 45 = .ok (.iload_n 2, 1) := by decide +kernel
theorem i_U_thirdFor_46 : decode (mb 42) 46 = .ok (.if_icmp .ge 7, 3) := by decide +kernel
theorem i_U_thirdFor_49 : decode (mb 42) 49 = .ok (.iconst 1, 1) := by decide +kernel
theorem i_U_thirdFor_50 : decode (mb 42) 50 = .ok (.goto 4, 3) := by decide +kernel
theorem i_U_thirdFor_53 : decode (mb 42) 53 = .ok (.iconst 0, 1) := by decide +kernel
theorem i_U_thirdFor_54 : decode (mb 42) 54 = .ok (.istore 6, 2) := by decide +kernel
theorem i_U_thirdFor_56 : decode (mb 42) 56 = .ok (.iload 6, 2) := by decide +kernel
theorem i_U_thirdFor_58 : decode (mb 42) 58 = .ok (.ifCond .eq 7, 3) := by decide +kernel
theorem i_U_thirdFor_61 : decode (mb 42) 61 = .ok (.iconst (-1), 1) := by decide +kernel
theorem i_U_thirdFor_62 : decode (mb 42) 62 = .ok (.goto 5, 3) := by decide +kernel
theorem i_U_thirdFor_65 : decode (mb 42) 65 = .ok (.iload 5, 2) := by decide +kernel
theorem i_U_thirdFor_67 : decode (mb 42) 67 = .ok (.ireturn, 1) := by decide +kernel
theorem o_N_hasBit : (mn 43).cls = "NeedsALoser" := by decide +kernel
theorem l_N_hasBit : ml 43 = 2 := by decide +kernel
theorem t_N_hasBit : mr 43 = some (FieldType.boolean) := by decide +kernel
theorem i_N_hasBit_0 : decode (mb 43) 0 = .ok (.iload_n 1, 1) := by decide +kernel
theorem i_N_hasBit_1 : decode (mb 43) 1 = .ok (.bipush 32, 2) := by decide +kernel
theorem i_N_hasBit_3 : decode (mb 43) 3 = .ok (.invokestatic 58, 3) := by decide +kernel
theorem i_N_hasBit_6 : decode (mb 43) 6 = .ok (.ifCond .eq 16, 3) := by decide +kernel
theorem i_N_hasBit_9 : decode (mb 43) 9 = .ok (.iload_n 0, 1) := by decide +kernel
theorem i_N_hasBit_10 : decode (mb 43) 10 = .ok (.iload_n 1, 1) := by decide +kernel
theorem i_N_hasBit_11 : decode (mb 43) 11 = .ok (.ishr, 1) := by decide +kernel
theorem i_N_hasBit_12 : decode (mb 43) 12 = .ok (.iconst 1, 1) := by decide +kernel
theorem i_N_hasBit_13 : decode (mb 43) 13 = .ok (.iand, 1) := by decide +kernel
theorem i_N_hasBit_14 : decode (mb 43) 14 = .ok (.iconst 1, 1) := by decide +kernel
theorem i_N_hasBit_15 : decode (mb 43) 15 = .ok (.if_icmp .ne 7, 3) := by decide +kernel
theorem i_N_hasBit_18 : decode (mb 43) 18 = .ok (.iconst 1, 1) := by decide +kernel
theorem i_N_hasBit_19 : decode (mb 43) 19 = .ok (.goto 4, 3) := by decide +kernel
theorem i_N_hasBit_22 : decode (mb 43) 22 = .ok (.iconst 0, 1) := by decide +kernel
theorem i_N_hasBit_23 : decode (mb 43) 23 = .ok (.ireturn, 1) := by decide +kernel
theorem o_U_foremost : (mn 44).cls = "NeedsALoser$Rules" := by decide +kernel
theorem l_U_foremost : ml 44 = 9 := by decide +kernel
theorem t_U_foremost : mr 44 = some (FieldType.int) := by decide +kernel
theorem i_U_foremost_0 : decode (mb 44) 0 = .ok (.iconst (-1), 1) := by decide +kernel
theorem i_U_foremost_1 : decode (mb 44) 1 = .ok (.istore 5, 2) := by decide +kernel
theorem i_U_foremost_3 : decode (mb 44) 3 = .ok (.iconst 0, 1) := by decide +kernel
theorem i_U_foremost_4 : decode (mb 44) 4 = .ok (.istore 6, 2) := by decide +kernel
theorem i_U_foremost_6 : decode (mb 44) 6 = .ok (.iconst 0, 1) := by decide +kernel
theorem i_U_foremost_7 : decode (mb 44) 7 = .ok (.istore 7, 2) := by decide +kernel
theorem i_U_foremost_9 : decode (mb 44) 9 = .ok (.iload 7, 2) := by decide +kernel
theorem i_U_foremost_11 : decode (mb 44) 11 = .ok (.aload_n 0, 1) := by decide +kernel
theorem i_U_foremost_12 : decode (mb 44) 12 = .ok (.getfield 32, 3) := by decide +kernel
theorem i_U_foremost_15 : decode (mb 44) 15 = .ok (.if_icmp .ge 51, 3) := by decide +kernel
theorem i_U_foremost_18 : decode (mb 44) 18 = .ok (.iload 4, 2) := by decide +kernel
theorem i_U_foremost_20 : decode (mb 44) 20 = .ok (.iload 7, 2) := by decide +kernel
theorem i_U_foremost_22 : decode (mb 44) 22 = .ok (.invokestatic 19, 3) := by decide +kernel
theorem i_U_foremost_25 : decode (mb 44) 25 = .ok (.ifCond .eq 35, 3) := by decide +kernel
theorem i_U_foremost_28 : decode (mb 44) 28 = .ok (.aload_n 0, 1) := by decide +kernel
theorem i_U_foremost_29 : decode (mb 44) 29 = .ok (.iload_n 1, 1) := by decide +kernel
theorem i_U_foremost_30 : decode (mb 44) 30 = .ok (.iload_n 2, 1) := by decide +kernel
theorem i_U_foremost_31 : decode (mb 44) 31 = .ok (.iload_n 3, 1) := by decide +kernel
theorem i_U_foremost_32 : decode (mb 44) 32 = .ok (.iload 7, 2) := by decide +kernel
theorem i_U_foremost_34 : decode (mb 44) 34 = .ok (.invokestatic 36, 3) := by decide +kernel
theorem i_U_foremost_37 : decode (mb 44) 37 = .ok (.istore 8, 2) := by decide +kernel
theorem i_U_foremost_39 : decode (mb 44) 39 = .ok (.iload 5, 2) := by decide +kernel
theorem i_U_foremost_41 : decode (mb 44) 41 = .ok (.iconst (-1), 1) := by decide +kernel
theorem i_U_foremost_42 : decode (mb 44) 42 = .ok (.if_icmp .eq 10, 3) := by decide +kernel
theorem i_U_foremost_45 : decode (mb 44) 45 = .ok (.iload 8, 2) := by decide +kernel
theorem i_U_foremost_47 : decode (mb 44) 47 = .ok (.iload 6, 2) := by decide +kernel
theorem i_U_foremost_49 : decode (mb 44) 49 = .ok (.if_icmp .le 11, 3) := by decide +kernel
theorem i_U_foremost_52 : decode (mb 44) 52 = .ok (.iload 7, 2) := by decide +kernel
theorem i_U_foremost_54 : decode (mb 44) 54 = .ok (.istore 5, 2) := by decide +kernel
theorem i_U_foremost_56 : decode (mb 44) 56 = .ok (.iload 8, 2) := by decide +kernel
theorem i_U_foremost_58 : decode (mb 44) 58 = .ok (.istore 6, 2) := by decide +kernel
theorem i_U_foremost_60 : decode (mb 44) 60 = .ok (.iinc 7 1, 3) := by decide +kernel
theorem i_U_foremost_63 : decode (mb 44) 63 = .ok (.goto (-54), 3) := by decide +kernel
theorem i_U_foremost_66 : decode (mb 44) 66 = .ok (.iload 5, 2) := by decide +kernel
theorem i_U_foremost_68 : decode (mb 44) 68 = .ok (.ireturn, 1) := by decide +kernel
theorem o_U_score : (mn 45).cls = "NeedsALoser$Rules" := by decide +kernel
theorem l_U_score : ml 45 = 5 := by decide +kernel
theorem t_U_score : mr 45 = some (FieldType.int) := by decide +kernel
theorem i_U_score_0 : decode (mb 45) 0 = .ok (.iload_n 1, 1) := by decide +kernel
theorem i_U_score_1 : decode (mb 45) 1 = .ok (.tableswitch 61 3 6 #[31, 41, 61, 49], 31) := by decide +kernel
theorem i_U_score_32 : decode (mb 45) 32 = .ok (.aload_n 0, 1) := by decide +kernel
theorem i_U_score_33 : decode (mb 45) 33 = .ok (.getfield 39, 3) := by decide +kernel
theorem i_U_score_36 : decode (mb 45) 36 = .ok (.iload 4, 2) := by decide +kernel
theorem i_U_score_38 : decode (mb 45) 38 = .ok (.invokestatic 42, 3) := by decide +kernel
theorem i_U_score_41 : decode (mb 45) 41 = .ok (.ireturn, 1) := by decide +kernel
theorem i_U_score_42 : decode (mb 45) 42 = .ok (.aload_n 0, 1) := by decide +kernel
theorem i_U_score_43 : decode (mb 45) 43 = .ok (.iload_n 3, 1) := by decide +kernel
theorem i_U_score_44 : decode (mb 45) 44 = .ok (.iload 4, 2) := by decide +kernel
theorem i_U_score_46 : decode (mb 45) 46 = .ok (.invokevirtual 46, 3) := by decide +kernel
theorem i_U_score_49 : decode (mb 45) 49 = .ok (.ireturn, 1) := by decide +kernel
theorem i_U_score_50 : decode (mb 45) 50 = .ok (.iload 4, 2) := by decide +kernel
theorem i_U_score_52 : decode (mb 45) 52 = .ok (.iload_n 2, 1) := by decide +kernel
theorem i_U_score_53 : decode (mb 45) 53 = .ok (.aload_n 0, 1) := by decide +kernel
theorem i_U_score_54 : decode (mb 45) 54 = .ok (.getfield 32, 3) := by decide +kernel
theorem i_U_score_57 : decode (mb 45) 57 = .ok (.invokestatic 49, 3) := by decide +kernel
theorem i_U_score_60 : decode (mb 45) 60 = .ok (.ineg, 1) := by decide +kernel
theorem i_U_score_61 : decode (mb 45) 61 = .ok (.ireturn, 1) := by decide +kernel
theorem i_U_score_62 : decode (mb 45) 62 = .ok (.aload_n 0, 1) := by decide +kernel
theorem i_U_score_63 : decode (mb 45) 63 = .ok (.iload_n 3, 1) := by decide +kernel
theorem i_U_score_64 : decode (mb 45) 64 = .ok (.iload 4, 2) := by decide +kernel
theorem i_U_score_66 : decode (mb 45) 66 = .ok (.invokevirtual 46, 3) := by decide +kernel
theorem i_U_score_69 : decode (mb 45) 69 = .ok (.ineg, 1) := by decide +kernel
theorem i_U_score_70 : decode (mb 45) 70 = .ok (.ireturn, 1) := by decide +kernel
theorem o_U_stepsRound : (mn 46).cls = "NeedsALoser$Rules" := by decide +kernel
theorem l_U_stepsRound : ml 46 = 3 := by decide +kernel
theorem t_U_stepsRound : mr 46 = some (FieldType.int) := by decide +kernel
theorem i_U_stepsRound_0 : decode (mb 46) 0 = .ok (.iload_n 2, 1) := by decide +kernel
theorem i_U_stepsRound_1 : decode (mb 46) 1 = .ok (.ifCond .le 13, 3) := by decide +kernel
theorem i_U_stepsRound_4 : decode (mb 46) 4 = .ok (.iload_n 0, 1) := by decide +kernel
theorem i_U_stepsRound_5 : decode (mb 46) 5 = .ok (.iload_n 1, 1) := by decide +kernel
theorem i_U_stepsRound_6 : decode (mb 46) 6 = .ok (.isub, 1) := by decide +kernel
theorem i_U_stepsRound_7 : decode (mb 46) 7 = .ok (.iload_n 2, 1) := by decide +kernel
theorem i_U_stepsRound_8 : decode (mb 46) 8 = .ok (.invokestatic 53, 3) := by decide +kernel
theorem i_U_stepsRound_11 : decode (mb 46) 11 = .ok (.goto 4, 3) := by decide +kernel
theorem i_U_stepsRound_14 : decode (mb 46) 14 = .ok (.iconst 0, 1) := by decide +kernel
theorem i_U_stepsRound_15 : decode (mb 46) 15 = .ok (.ireturn, 1) := by decide +kernel
theorem o_JM_floorMod : (mn 47).cls = "java/lang/Math" := by decide +kernel
theorem l_JM_floorMod : ml 47 = 3 := by decide +kernel
theorem t_JM_floorMod : mr 47 = some (FieldType.int) := by decide +kernel
theorem i_JM_floorMod_0 : decode (mb 47) 0 = .ok (.iload_n 0, 1) := by decide +kernel
theorem i_JM_floorMod_1 : decode (mb 47) 1 = .ok (.iload_n 1, 1) := by decide +kernel
theorem i_JM_floorMod_2 : decode (mb 47) 2 = .ok (.irem, 1) := by decide +kernel
theorem i_JM_floorMod_3 : decode (mb 47) 3 = .ok (.istore_n 2, 1) := by decide +kernel
theorem i_JM_floorMod_4 : decode (mb 47) 4 = .ok (.iload_n 0, 1) := by decide +kernel
theorem i_JM_floorMod_5 : decode (mb 47) 5 = .ok (.iload_n 1, 1) := by decide +kernel
theorem i_JM_floorMod_6 : decode (mb 47) 6 = .ok (.ixor, 1) := by decide +kernel
theorem i_JM_floorMod_7 : decode (mb 47) 7 = .ok (.ifCond .ge 11, 3) := by decide +kernel
theorem i_JM_floorMod_10 : decode (mb 47) 10 = .ok (.iload_n 2, 1) := by decide +kernel
theorem i_JM_floorMod_11 : decode (mb 47) 11 = .ok (.ifCond .eq 7, 3) := by decide +kernel
theorem i_JM_floorMod_14 : decode (mb 47) 14 = .ok (.iload_n 2, 1) := by decide +kernel
theorem i_JM_floorMod_15 : decode (mb 47) 15 = .ok (.iload_n 1, 1) := by decide +kernel
theorem i_JM_floorMod_16 : decode (mb 47) 16 = .ok (.iadd, 1) := by decide +kernel
theorem i_JM_floorMod_17 : decode (mb 47) 17 = .ok (.ireturn, 1) := by decide +kernel
theorem i_JM_floorMod_18 : decode (mb 47) 18 = .ok (.iload_n 2, 1) := by decide +kernel
theorem i_JM_floorMod_19 : decode (mb 47) 19 = .ok (.ireturn, 1) := by decide +kernel
theorem o_T_valueBy : (mn 48).cls = "NeedsALoser$Town" := by decide +kernel
theorem l_T_valueBy : ml 48 = 3 := by decide +kernel
theorem t_T_valueBy : mr 48 = some (FieldType.int) := by decide +kernel
theorem i_T_valueBy_0 : decode (mb 48) 0 = .ok (.aload_n 0, 1) := by decide +kernel
theorem i_T_valueBy_1 : decode (mb 48) 1 = .ok (.iload_n 1, 1) := by decide +kernel
theorem i_T_valueBy_2 : decode (mb 48) 2 = .ok (.invokevirtual 95, 3) := by decide +kernel
theorem i_T_valueBy_5 : decode (mb 48) 5 = .ok (.aload_n 0, 1) := by decide +kernel
theorem i_T_valueBy_6 : decode (mb 48) 6 = .ok (.iload_n 1, 1) := by decide +kernel
theorem i_T_valueBy_7 : decode (mb 48) 7 = .ok (.iload_n 2, 1) := by decide +kernel
theorem i_T_valueBy_8 : decode (mb 48) 8 = .ok (.invokevirtual 98, 3) := by decide +kernel
theorem i_T_valueBy_11 : decode (mb 48) 11 = .ok (.isub, 1) := by decide +kernel
theorem i_T_valueBy_12 : decode (mb 48) 12 = .ok (.ireturn, 1) := by decide +kernel
theorem o_T_gainsOf : (mn 49).cls = "NeedsALoser$Town" := by decide +kernel
theorem l_T_gainsOf : ml 49 = 2 := by decide +kernel
theorem t_T_gainsOf : mr 49 = some (FieldType.int) := by decide +kernel
theorem i_T_gainsOf_0 : decode (mb 49) 0 = .ok (.aload_n 0, 1) := by decide +kernel
theorem i_T_gainsOf_1 : decode (mb 49) 1 = .ok (.getfield 52, 3) := by decide +kernel
theorem i_T_gainsOf_4 : decode (mb 49) 4 = .ok (.iload_n 1, 1) := by decide +kernel
theorem i_T_gainsOf_5 : decode (mb 49) 5 = .ok (.invokestatic 91, 3) := by decide +kernel
theorem i_T_gainsOf_8 : decode (mb 49) 8 = .ok (.aload_n 0, 1) := by decide +kernel
theorem i_T_gainsOf_9 : decode (mb 49) 9 = .ok (.getfield 55, 3) := by decide +kernel
theorem i_T_gainsOf_12 : decode (mb 49) 12 = .ok (.iload_n 1, 1) := by decide +kernel
theorem i_T_gainsOf_13 : decode (mb 49) 13 = .ok (.invokestatic 91, 3) := by decide +kernel
theorem i_T_gainsOf_16 : decode (mb 49) 16 = .ok (.iadd, 1) := by decide +kernel
theorem i_T_gainsOf_17 : decode (mb 49) 17 = .ok (.ireturn, 1) := by decide +kernel
theorem o_N_one : (mn 50).cls = "NeedsALoser" := by decide +kernel
theorem l_N_one : ml 50 = 1 := by decide +kernel
theorem t_N_one : mr 50 = some (FieldType.int) := by decide +kernel
theorem i_N_one_0 : decode (mb 50) 0 = .ok (.aload_n 0, 1) := by decide +kernel
theorem i_N_one_1 : decode (mb 50) 1 = .ok (.getfield 10, 3) := by decide +kernel
theorem i_N_one_4 : decode (mb 50) 4 = .ok (.getfield 124, 3) := by decide +kernel
theorem i_N_one_7 : decode (mb 50) 7 = .ok (.bipush 7, 2) := by decide +kernel
theorem i_N_one_9 : decode (mb 50) 9 = .ok (.if_icmp .lt 12, 3) := by decide +kernel
theorem i_N_one_12 : decode (mb 50) 12 = .ok (.aload_n 0, 1) := by decide +kernel
theorem i_N_one_13 : decode (mb 50) 13 = .ok (.bipush (-6), 2) := by decide +kernel
theorem i_N_one_15 : decode (mb 50) 15 = .ok (.invokevirtual 66, 3) := by decide +kernel
theorem i_N_one_18 : decode (mb 50) 18 = .ok (.goto 10, 3) := by decide +kernel
theorem i_N_one_21 : decode (mb 50) 21 = .ok (.aload_n 0, 1) := by decide +kernel
theorem i_N_one_22 : decode (mb 50) 22 = .ok (.getfield 10, 3) := by decide +kernel
theorem i_N_one_25 : decode (mb 50) 25 = .ok (.invokevirtual 127, 3) := by decide +kernel
theorem i_N_one_28 : decode (mb 50) 28 = .ok (.ireturn, 1) := by decide +kernel
theorem o_T_addPerson : (mn 51).cls = "NeedsALoser$Town" := by decide +kernel
theorem l_T_addPerson : ml 51 = 1 := by decide +kernel
theorem t_T_addPerson : mr 51 = some (FieldType.int) := by decide +kernel
theorem i_T_addPerson_0 : decode (mb 51) 0 = .ok (.aload_n 0, 1) := by decide +kernel
theorem i_T_addPerson_1 : decode (mb 51) 1 = .ok (.dup, 1) := by decide +kernel
theorem i_T_addPerson_2 : decode (mb 51) 2 = .ok (.getfield 9, 3) := by decide +kernel
theorem i_T_addPerson_5 : decode (mb 51) 5 = .ok (.iconst 1, 1) := by decide +kernel
theorem i_T_addPerson_6 : decode (mb 51) 6 = .ok (.iadd, 1) := by decide +kernel
theorem i_T_addPerson_7 : decode (mb 51) 7 = .ok (.putfield 9, 3) := by decide +kernel
theorem i_T_addPerson_10 : decode (mb 51) 10 = .ok (.aload_n 0, 1) := by decide +kernel
theorem i_T_addPerson_11 : decode (mb 51) 11 = .ok (.getfield 9, 3) := by decide +kernel
theorem i_T_addPerson_14 : decode (mb 51) 14 = .ok (.iconst 1, 1) := by decide +kernel
theorem i_T_addPerson_15 : decode (mb 51) 15 = .ok (.isub, 1) := by decide +kernel
theorem i_T_addPerson_16 : decode (mb 51) 16 = .ok (.ireturn, 1) := by decide +kernel
theorem o_N_bargain : (mn 52).cls = "NeedsALoser" := by decide +kernel
theorem l_N_bargain : ml 52 = 5 := by decide +kernel
theorem t_N_bargain : mr 52 = some (FieldType.int) := by decide +kernel
theorem i_N_bargain_0 : decode (mb 52) 0 = .ok (.aload_n 0, 1) := by decide +kernel
theorem i_N_bargain_1 : decode (mb 52) 1 = .ok (.getfield 10, 3) := by decide +kernel
theorem i_N_bargain_4 : decode (mb 52) 4 = .ok (.iload_n 1, 1) := by decide +kernel
theorem i_N_bargain_5 : decode (mb 52) 5 = .ok (.invokevirtual 131, 3) := by decide +kernel
theorem i_N_bargain_8 : decode (mb 52) 8 = .ok (.ifCond .eq 40, 3) := by decide +kernel
theorem i_N_bargain_11 : decode (mb 52) 11 = .ok (.aload_n 0, 1) := by decide +kernel
theorem i_N_bargain_12 : decode (mb 52) 12 = .ok (.getfield 10, 3) := by decide +kernel
theorem i_N_bargain_15 : decode (mb 52) 15 = .ok (.iload_n 2, 1) := by decide +kernel
theorem i_N_bargain_16 : decode (mb 52) 16 = .ok (.invokevirtual 131, 3) := by decide +kernel
theorem i_N_bargain_19 : decode (mb 52) 19 = .ok (.ifCond .eq 29, 3) := by decide +kernel
theorem i_N_bargain_22 : decode (mb 52) 22 = .ok (.iload_n 1, 1) := by decide +kernel
theorem i_N_bargain_23 : decode (mb 52) 23 = .ok (.iload_n 2, 1) := by decide +kernel
theorem i_N_bargain_24 : decode (mb 52) 24 = .ok (.if_icmp .eq 24, 3) := by decide +kernel
theorem i_N_bargain_27 : decode (mb 52) 27 = .ok (.iload_n 3, 1) := by decide +kernel
theorem i_N_bargain_28 : decode (mb 52) 28 = .ok (.iconst 0, 1) := by decide +kernel
theorem i_N_bargain_29 : decode (mb 52) 29 = .ok (.bipush 99, 2) := by decide +kernel
theorem i_N_bargain_31 : decode (mb 52) 31 = .ok (.invokestatic 62, 3) := by decide +kernel
theorem i_N_bargain_34 : decode (mb 52) 34 = .ok (.ifCond .eq 14, 3) := by decide +kernel
theorem i_N_bargain_37 : decode (mb 52) 37 = .ok (.iload 4, 2) := by decide +kernel
theorem i_N_bargain_39 : decode (mb 52) 39 = .ok (.iconst 0, 1) := by decide +kernel
theorem i_N_bargain_40 : decode (mb 52) 40 = .ok (.bipush 99, 2) := by decide +kernel
theorem i_N_bargain_42 : decode (mb 52) 42 = .ok (.invokestatic 62, 3) := by decide +kernel
theorem i_N_bargain_45 : decode (mb 52) 45 = .ok (.ifCond .ne 10, 3) := by decide +kernel
theorem i_N_bargain_48 : decode (mb 52) 48 = .ok (.aload_n 0, 1) := by decide +kernel
theorem i_N_bargain_49 : decode (mb 52) 49 = .ok (.bipush (-2), 2) := by decide +kernel
theorem i_N_bargain_51 : decode (mb 52) 51 = .ok (.invokevirtual 66, 3) := by decide +kernel
theorem i_N_bargain_54 : decode (mb 52) 54 = .ok (.ireturn, 1) := by decide +kernel
theorem i_N_bargain_55 : decode (mb 52) 55 = .ok (.aload_n 0, 1) := by decide +kernel
theorem i_N_bargain_56 : decode (mb 52) 56 = .ok (.getfield 10, 3) := by decide +kernel
theorem i_N_bargain_59 : decode (mb 52) 59 = .ok (.getfield 113, 3) := by decide +kernel
theorem i_N_bargain_62 : decode (mb 52) 62 = .ok (.bipush 7, 2) := by decide +kernel
theorem i_N_bargain_64 : decode (mb 52) 64 = .ok (.if_icmp .lt 12, 3) := by decide +kernel
theorem i_N_bargain_67 : decode (mb 52) 67 = .ok (.aload_n 0, 1) := by decide +kernel
theorem i_N_bargain_68 : decode (mb 52) 68 = .ok (.bipush (-6), 2) := by decide +kernel
theorem i_N_bargain_70 : decode (mb 52) 70 = .ok (.invokevirtual 66, 3) := by decide +kernel
theorem i_N_bargain_73 : decode (mb 52) 73 = .ok (.goto 15, 3) := by decide +kernel
theorem i_N_bargain_76 : decode (mb 52) 76 = .ok (.aload_n 0, 1) := by decide +kernel
theorem i_N_bargain_77 : decode (mb 52) 77 = .ok (.getfield 10, 3) := by decide +kernel
theorem i_N_bargain_80 : decode (mb 52) 80 = .ok (.iload_n 1, 1) := by decide +kernel
theorem i_N_bargain_81 : decode (mb 52) 81 = .ok (.iload_n 2, 1) := by decide +kernel
theorem i_N_bargain_82 : decode (mb 52) 82 = .ok (.iload_n 3, 1) := by decide +kernel
theorem i_N_bargain_83 : decode (mb 52) 83 = .ok (.iload 4, 2) := by decide +kernel
theorem i_N_bargain_85 : decode (mb 52) 85 = .ok (.invokevirtual 135, 3) := by decide +kernel
theorem i_N_bargain_88 : decode (mb 52) 88 = .ok (.ireturn, 1) := by decide +kernel
theorem o_T_hasPerson : (mn 53).cls = "NeedsALoser$Town" := by decide +kernel
theorem l_T_hasPerson : ml 53 = 2 := by decide +kernel
theorem t_T_hasPerson : mr 53 = some (FieldType.boolean) := by decide +kernel
theorem i_T_hasPerson_0 : decode (mb 53) 0 = .ok (.iload_n 1, 1) := by decide +kernel
theorem i_T_hasPerson_1 : decode (mb 53) 1 = .ok (.aload_n 0, 1) := by decide +kernel
theorem i_T_hasPerson_2 : decode (mb 53) 2 = .ok (.getfield 9, 3) := by decide +kernel
theorem i_T_hasPerson_5 : decode (mb 53) 5 = .ok (.invokestatic 68, 3) := by decide +kernel
theorem i_T_hasPerson_8 : decode (mb 53) 8 = .ok (.ireturn, 1) := by decide +kernel
theorem o_T_addBargain : (mn 54).cls = "NeedsALoser$Town" := by decide +kernel
theorem l_T_addBargain : ml 54 = 6 := by decide +kernel
theorem t_T_addBargain : mr 54 = some (FieldType.int) := by decide +kernel
theorem i_T_addBargain_0 : decode (mb 54) 0 = .ok (.aload_n 0, 1) := by decide +kernel
theorem i_T_addBargain_1 : decode (mb 54) 1 = .ok (.getfield 15, 3) := by decide +kernel
theorem i_T_addBargain_4 : decode (mb 54) 4 = .ok (.istore 5, 2) := by decide +kernel
theorem i_T_addBargain_6 : decode (mb 54) 6 = .ok (.aload_n 0, 1) := by decide +kernel
theorem i_T_addBargain_7 : decode (mb 54) 7 = .ok (.getfield 46, 3) := by decide +kernel
theorem i_T_addBargain_10 : decode (mb 54) 10 = .ok (.iload 5, 2) := by decide +kernel
theorem i_T_addBargain_12 : decode (mb 54) 12 = .ok (.iload_n 1, 1) := by decide +kernel
theorem i_T_addBargain_13 : decode (mb 54) 13 = .ok (.invokestatic 79, 3) := by decide +kernel
theorem i_T_addBargain_16 : decode (mb 54) 16 = .ok (.aload_n 0, 1) := by decide +kernel
theorem i_T_addBargain_17 : decode (mb 54) 17 = .ok (.getfield 49, 3) := by decide +kernel
theorem i_T_addBargain_20 : decode (mb 54) 20 = .ok (.iload 5, 2) := by decide +kernel
theorem i_T_addBargain_22 : decode (mb 54) 22 = .ok (.iload_n 2, 1) := by decide +kernel
theorem i_T_addBargain_23 : decode (mb 54) 23 = .ok (.invokestatic 79, 3) := by decide +kernel
theorem i_T_addBargain_26 : decode (mb 54) 26 = .ok (.aload_n 0, 1) := by decide +kernel
theorem i_T_addBargain_27 : decode (mb 54) 27 = .ok (.getfield 52, 3) := by decide +kernel
theorem i_T_addBargain_30 : decode (mb 54) 30 = .ok (.iload 5, 2) := by decide +kernel
theorem i_T_addBargain_32 : decode (mb 54) 32 = .ok (.iload_n 3, 1) := by decide +kernel
theorem i_T_addBargain_33 : decode (mb 54) 33 = .ok (.invokestatic 79, 3) := by decide +kernel
theorem i_T_addBargain_36 : decode (mb 54) 36 = .ok (.aload_n 0, 1) := by decide +kernel
theorem i_T_addBargain_37 : decode (mb 54) 37 = .ok (.getfield 55, 3) := by decide +kernel
theorem i_T_addBargain_40 : decode (mb 54) 40 = .ok (.iload 5, 2) := by decide +kernel
theorem i_T_addBargain_42 : decode (mb 54) 42 = .ok (.iload 4, 2) := by decide +kernel
theorem i_T_addBargain_44 : decode (mb 54) 44 = .ok (.invokestatic 79, 3) := by decide +kernel
theorem i_T_addBargain_47 : decode (mb 54) 47 = .ok (.aload_n 0, 1) := by decide +kernel
theorem i_T_addBargain_48 : decode (mb 54) 48 = .ok (.dup, 1) := by decide +kernel
theorem i_T_addBargain_49 : decode (mb 54) 49 = .ok (.getfield 15, 3) := by decide +kernel
theorem i_T_addBargain_52 : decode (mb 54) 52 = .ok (.iconst 1, 1) := by decide +kernel
theorem i_T_addBargain_53 : decode (mb 54) 53 = .ok (.iadd, 1) := by decide +kernel
theorem i_T_addBargain_54 : decode (mb 54) 54 = .ok (.putfield 15, 3) := by decide +kernel
theorem i_T_addBargain_57 : decode (mb 54) 57 = .ok (.iload 5, 2) := by decide +kernel
theorem i_T_addBargain_59 : decode (mb 54) 59 = .ok (.ireturn, 1) := by decide +kernel
theorem o_N_hurts : (mn 55).cls = "NeedsALoser" := by decide +kernel
theorem l_N_hurts : ml 55 = 4 := by decide +kernel
theorem t_N_hurts : mr 55 = some (FieldType.int) := by decide +kernel
theorem i_N_hurts_0 : decode (mb 55) 0 = .ok (.aload_n 0, 1) := by decide +kernel
theorem i_N_hurts_1 : decode (mb 55) 1 = .ok (.getfield 10, 3) := by decide +kernel
theorem i_N_hurts_4 : decode (mb 55) 4 = .ok (.iload_n 1, 1) := by decide +kernel
theorem i_N_hurts_5 : decode (mb 55) 5 = .ok (.iload_n 2, 1) := by decide +kernel
theorem i_N_hurts_6 : decode (mb 55) 6 = .ok (.invokevirtual 139, 3) := by decide +kernel
theorem i_N_hurts_9 : decode (mb 55) 9 = .ok (.ifCond .eq 14, 3) := by decide +kernel
theorem i_N_hurts_12 : decode (mb 55) 12 = .ok (.iload_n 3, 1) := by decide +kernel
theorem i_N_hurts_13 : decode (mb 55) 13 = .ok (.bipush (-99), 2) := by decide +kernel
theorem i_N_hurts_15 : decode (mb 55) 15 = .ok (.bipush 99, 2) := by decide +kernel
theorem i_N_hurts_17 : decode (mb 55) 17 = .ok (.invokestatic 62, 3) := by decide +kernel
theorem i_N_hurts_20 : decode (mb 55) 20 = .ok (.ifCond .ne 10, 3) := by decide +kernel
theorem i_N_hurts_23 : decode (mb 55) 23 = .ok (.aload_n 0, 1) := by decide +kernel
theorem i_N_hurts_24 : decode (mb 55) 24 = .ok (.bipush (-2), 2) := by decide +kernel
theorem i_N_hurts_26 : decode (mb 55) 26 = .ok (.invokevirtual 66, 3) := by decide +kernel
theorem i_N_hurts_29 : decode (mb 55) 29 = .ok (.ireturn, 1) := by decide +kernel
theorem i_N_hurts_30 : decode (mb 55) 30 = .ok (.aload_n 0, 1) := by decide +kernel
theorem i_N_hurts_31 : decode (mb 55) 31 = .ok (.getfield 10, 3) := by decide +kernel
theorem i_N_hurts_34 : decode (mb 55) 34 = .ok (.iload_n 1, 1) := by decide +kernel
theorem i_N_hurts_35 : decode (mb 55) 35 = .ok (.iload_n 2, 1) := by decide +kernel
theorem i_N_hurts_36 : decode (mb 55) 36 = .ok (.iload_n 3, 1) := by decide +kernel
theorem i_N_hurts_37 : decode (mb 55) 37 = .ok (.invokevirtual 142, 3) := by decide +kernel
theorem i_N_hurts_40 : decode (mb 55) 40 = .ok (.iconst 1, 1) := by decide +kernel
theorem i_N_hurts_41 : decode (mb 55) 41 = .ok (.ireturn, 1) := by decide +kernel
theorem o_T_hasPair : (mn 56).cls = "NeedsALoser$Town" := by decide +kernel
theorem l_T_hasPair : ml 56 = 3 := by decide +kernel
theorem t_T_hasPair : mr 56 = some (FieldType.boolean) := by decide +kernel
theorem i_T_hasPair_0 : decode (mb 56) 0 = .ok (.aload_n 0, 1) := by decide +kernel
theorem i_T_hasPair_1 : decode (mb 56) 1 = .ok (.iload_n 1, 1) := by decide +kernel
theorem i_T_hasPair_2 : decode (mb 56) 2 = .ok (.invokevirtual 72, 3) := by decide +kernel
theorem i_T_hasPair_5 : decode (mb 56) 5 = .ok (.ifCond .eq 15, 3) := by decide +kernel
theorem i_T_hasPair_8 : decode (mb 56) 8 = .ok (.aload_n 0, 1) := by decide +kernel
theorem i_T_hasPair_9 : decode (mb 56) 9 = .ok (.iload_n 2, 1) := by decide +kernel
theorem i_T_hasPair_10 : decode (mb 56) 10 = .ok (.invokevirtual 76, 3) := by decide +kernel
theorem i_T_hasPair_13 : decode (mb 56) 13 = .ok (.ifCond .eq 7, 3) := by decide +kernel
theorem i_T_hasPair_16 : decode (mb 56) 16 = .ok (.iconst 1, 1) := by decide +kernel
theorem i_T_hasPair_17 : decode (mb 56) 17 = .ok (.goto 4, 3) := by decide +kernel
theorem i_T_hasPair_20 : decode (mb 56) 20 = .ok (.iconst 0, 1) := by decide +kernel
theorem i_T_hasPair_21 : decode (mb 56) 21 = .ok (.ireturn, 1) := by decide +kernel
theorem o_T_hasBargain : (mn 57).cls = "NeedsALoser$Town" := by decide +kernel
theorem l_T_hasBargain : ml 57 = 2 := by decide +kernel
theorem t_T_hasBargain : mr 57 = some (FieldType.boolean) := by decide +kernel
theorem i_T_hasBargain_0 : decode (mb 57) 0 = .ok (.iload_n 1, 1) := by decide +kernel
theorem i_T_hasBargain_1 : decode (mb 57) 1 = .ok (.aload_n 0, 1) := by decide +kernel
theorem i_T_hasBargain_2 : decode (mb 57) 2 = .ok (.getfield 15, 3) := by decide +kernel
theorem i_T_hasBargain_5 : decode (mb 57) 5 = .ok (.invokestatic 68, 3) := by decide +kernel
theorem i_T_hasBargain_8 : decode (mb 57) 8 = .ok (.ireturn, 1) := by decide +kernel
theorem o_T_putLoss : (mn 58).cls = "NeedsALoser$Town" := by decide +kernel
theorem l_T_putLoss : ml 58 = 4 := by decide +kernel
theorem t_T_putLoss : mr 58 = none := by decide +kernel
theorem i_T_putLoss_0 : decode (mb 58) 0 = .ok (.aload_n 0, 1) := by decide +kernel
theorem i_T_putLoss_1 : decode (mb 58) 1 = .ok (.getfield 61, 3) := by decide +kernel
theorem i_T_putLoss_4 : decode (mb 58) 4 = .ok (.iload_n 1, 1) := by decide +kernel
theorem i_T_putLoss_5 : decode (mb 58) 5 = .ok (.bipush 7, 2) := by decide +kernel
theorem i_T_putLoss_7 : decode (mb 58) 7 = .ok (.imul, 1) := by decide +kernel
theorem i_T_putLoss_8 : decode (mb 58) 8 = .ok (.iload_n 2, 1) := by decide +kernel
theorem i_T_putLoss_9 : decode (mb 58) 9 = .ok (.iadd, 1) := by decide +kernel
theorem i_T_putLoss_10 : decode (mb 58) 10 = .ok (.iload_n 3, 1) := by decide +kernel
theorem i_T_putLoss_11 : decode (mb 58) 11 = .ok (.invokestatic 79, 3) := by decide +kernel
theorem i_T_putLoss_14 : decode (mb 58) 14 = .ok (.return_, 1) := by decide +kernel
theorem o_N_bars : (mn 59).cls = "NeedsALoser" := by decide +kernel
theorem l_N_bars : ml 59 = 4 := by decide +kernel
theorem t_N_bars : mr 59 = some (FieldType.int) := by decide +kernel
theorem i_N_bars_0 : decode (mb 59) 0 = .ok (.aload_n 0, 1) := by decide +kernel
theorem i_N_bars_1 : decode (mb 59) 1 = .ok (.getfield 10, 3) := by decide +kernel
theorem i_N_bars_4 : decode (mb 59) 4 = .ok (.iload_n 1, 1) := by decide +kernel
theorem i_N_bars_5 : decode (mb 59) 5 = .ok (.iload_n 2, 1) := by decide +kernel
theorem i_N_bars_6 : decode (mb 59) 6 = .ok (.invokevirtual 145, 3) := by decide +kernel
theorem i_N_bars_9 : decode (mb 59) 9 = .ok (.ifCond .ne 10, 3) := by decide +kernel
theorem i_N_bars_12 : decode (mb 59) 12 = .ok (.aload_n 0, 1) := by decide +kernel
theorem i_N_bars_13 : decode (mb 59) 13 = .ok (.bipush (-2), 2) := by decide +kernel
theorem i_N_bars_15 : decode (mb 59) 15 = .ok (.invokevirtual 66, 3) := by decide +kernel
theorem i_N_bars_18 : decode (mb 59) 18 = .ok (.ireturn, 1) := by decide +kernel
theorem i_N_bars_19 : decode (mb 59) 19 = .ok (.aload_n 0, 1) := by decide +kernel
theorem i_N_bars_20 : decode (mb 59) 20 = .ok (.getfield 10, 3) := by decide +kernel
theorem i_N_bars_23 : decode (mb 59) 23 = .ok (.iload_n 1, 1) := by decide +kernel
theorem i_N_bars_24 : decode (mb 59) 24 = .ok (.invokevirtual 148, 3) := by decide +kernel
theorem i_N_bars_27 : decode (mb 59) 27 = .ok (.iload_n 2, 1) := by decide +kernel
theorem i_N_bars_28 : decode (mb 59) 28 = .ok (.invokestatic 151, 3) := by decide +kernel
theorem i_N_bars_31 : decode (mb 59) 31 = .ok (.iload_n 3, 1) := by decide +kernel
theorem i_N_bars_32 : decode (mb 59) 32 = .ok (.if_icmp .ne 5, 3) := by decide +kernel
theorem i_N_bars_35 : decode (mb 59) 35 = .ok (.iconst 0, 1) := by decide +kernel
theorem i_N_bars_36 : decode (mb 59) 36 = .ok (.ireturn, 1) := by decide +kernel
theorem i_N_bars_37 : decode (mb 59) 37 = .ok (.aload_n 0, 1) := by decide +kernel
theorem i_N_bars_38 : decode (mb 59) 38 = .ok (.getfield 10, 3) := by decide +kernel
theorem i_N_bars_41 : decode (mb 59) 41 = .ok (.iload_n 1, 1) := by decide +kernel
theorem i_N_bars_42 : decode (mb 59) 42 = .ok (.iload_n 2, 1) := by decide +kernel
theorem i_N_bars_43 : decode (mb 59) 43 = .ok (.iload_n 3, 1) := by decide +kernel
theorem i_N_bars_44 : decode (mb 59) 44 = .ok (.invokevirtual 154, 3) := by decide +kernel
theorem i_N_bars_47 : decode (mb 59) 47 = .ok (.iconst 1, 1) := by decide +kernel
theorem i_N_bars_48 : decode (mb 59) 48 = .ok (.ireturn, 1) := by decide +kernel
theorem o_T_hasUnlike : (mn 60).cls = "NeedsALoser$Town" := by decide +kernel
theorem l_T_hasUnlike : ml 60 = 3 := by decide +kernel
theorem t_T_hasUnlike : mr 60 = some (FieldType.boolean) := by decide +kernel
theorem i_T_hasUnlike_0 : decode (mb 60) 0 = .ok (.aload_n 0, 1) := by decide +kernel
theorem i_T_hasUnlike_1 : decode (mb 60) 1 = .ok (.iload_n 1, 1) := by decide +kernel
theorem i_T_hasUnlike_2 : decode (mb 60) 2 = .ok (.invokevirtual 72, 3) := by decide +kernel
theorem i_T_hasUnlike_5 : decode (mb 60) 5 = .ok (.ifCond .eq 20, 3) := by decide +kernel
theorem i_T_hasUnlike_8 : decode (mb 60) 8 = .ok (.aload_n 0, 1) := by decide +kernel
theorem i_T_hasUnlike_9 : decode (mb 60) 9 = .ok (.iload_n 2, 1) := by decide +kernel
theorem i_T_hasUnlike_10 : decode (mb 60) 10 = .ok (.invokevirtual 72, 3) := by decide +kernel
theorem i_T_hasUnlike_13 : decode (mb 60) 13 = .ok (.ifCond .eq 12, 3) := by decide +kernel
theorem i_T_hasUnlike_16 : decode (mb 60) 16 = .ok (.iload_n 1, 1) := by decide +kernel
theorem i_T_hasUnlike_17 : decode (mb 60) 17 = .ok (.iload_n 2, 1) := by decide +kernel
theorem i_T_hasUnlike_18 : decode (mb 60) 18 = .ok (.if_icmp .eq 7, 3) := by decide +kernel
theorem i_T_hasUnlike_21 : decode (mb 60) 21 = .ok (.iconst 1, 1) := by decide +kernel
theorem i_T_hasUnlike_22 : decode (mb 60) 22 = .ok (.goto 4, 3) := by decide +kernel
theorem i_T_hasUnlike_25 : decode (mb 60) 25 = .ok (.iconst 0, 1) := by decide +kernel
theorem i_T_hasUnlike_26 : decode (mb 60) 26 = .ok (.ireturn, 1) := by decide +kernel
theorem o_T_barredBy : (mn 61).cls = "NeedsALoser$Town" := by decide +kernel
theorem l_T_barredBy : ml 61 = 2 := by decide +kernel
theorem t_T_barredBy : mr 61 = some (FieldType.int) := by decide +kernel
theorem i_T_barredBy_0 : decode (mb 61) 0 = .ok (.aload_n 0, 1) := by decide +kernel
theorem i_T_barredBy_1 : decode (mb 61) 1 = .ok (.getfield 58, 3) := by decide +kernel
theorem i_T_barredBy_4 : decode (mb 61) 4 = .ok (.iload_n 1, 1) := by decide +kernel
theorem i_T_barredBy_5 : decode (mb 61) 5 = .ok (.invokestatic 91, 3) := by decide +kernel
theorem i_T_barredBy_8 : decode (mb 61) 8 = .ok (.ireturn, 1) := by decide +kernel
theorem o_T_putBar : (mn 62).cls = "NeedsALoser$Town" := by decide +kernel
theorem l_T_putBar : ml 62 = 4 := by decide +kernel
theorem t_T_putBar : mr 62 = none := by decide +kernel
theorem i_T_putBar_0 : decode (mb 62) 0 = .ok (.aload_n 0, 1) := by decide +kernel
theorem i_T_putBar_1 : decode (mb 62) 1 = .ok (.getfield 58, 3) := by decide +kernel
theorem i_T_putBar_4 : decode (mb 62) 4 = .ok (.iload_n 1, 1) := by decide +kernel
theorem i_T_putBar_5 : decode (mb 62) 5 = .ok (.aload_n 0, 1) := by decide +kernel
theorem i_T_putBar_6 : decode (mb 62) 6 = .ok (.iload_n 1, 1) := by decide +kernel
theorem i_T_putBar_7 : decode (mb 62) 7 = .ok (.invokevirtual 83, 3) := by decide +kernel
theorem i_T_putBar_10 : decode (mb 62) 10 = .ok (.iload_n 2, 1) := by decide +kernel
theorem i_T_putBar_11 : decode (mb 62) 11 = .ok (.iload_n 3, 1) := by decide +kernel
theorem i_T_putBar_12 : decode (mb 62) 12 = .ok (.invokestatic 87, 3) := by decide +kernel
theorem i_T_putBar_15 : decode (mb 62) 15 = .ok (.invokestatic 79, 3) := by decide +kernel
theorem i_T_putBar_18 : decode (mb 62) 18 = .ok (.aload_n 0, 1) := by decide +kernel
theorem i_T_putBar_19 : decode (mb 62) 19 = .ok (.getfield 58, 3) := by decide +kernel
theorem i_T_putBar_22 : decode (mb 62) 22 = .ok (.iload_n 2, 1) := by decide +kernel
theorem i_T_putBar_23 : decode (mb 62) 23 = .ok (.aload_n 0, 1) := by decide +kernel
theorem i_T_putBar_24 : decode (mb 62) 24 = .ok (.iload_n 2, 1) := by decide +kernel
theorem i_T_putBar_25 : decode (mb 62) 25 = .ok (.invokevirtual 83, 3) := by decide +kernel
theorem i_T_putBar_28 : decode (mb 62) 28 = .ok (.iload_n 1, 1) := by decide +kernel
theorem i_T_putBar_29 : decode (mb 62) 29 = .ok (.iload_n 3, 1) := by decide +kernel
theorem i_T_putBar_30 : decode (mb 62) 30 = .ok (.invokestatic 87, 3) := by decide +kernel
theorem i_T_putBar_33 : decode (mb 62) 33 = .ok (.invokestatic 79, 3) := by decide +kernel
theorem i_T_putBar_36 : decode (mb 62) 36 = .ok (.return_, 1) := by decide +kernel
theorem o_T_withBit : (mn 63).cls = "NeedsALoser$Town" := by decide +kernel
theorem l_T_withBit : ml 63 = 3 := by decide +kernel
theorem t_T_withBit : mr 63 = some (FieldType.int) := by decide +kernel
theorem i_T_withBit_0 : decode (mb 63) 0 = .ok (.iload_n 2, 1) := by decide +kernel
theorem i_T_withBit_1 : decode (mb 63) 1 = .ok (.ifCond .eq 11, 3) := by decide +kernel
theorem i_T_withBit_4 : decode (mb 63) 4 = .ok (.iload_n 0, 1) := by decide +kernel
theorem i_T_withBit_5 : decode (mb 63) 5 = .ok (.iconst 1, 1) := by decide +kernel
theorem i_T_withBit_6 : decode (mb 63) 6 = .ok (.iload_n 1, 1) := by decide +kernel
theorem i_T_withBit_7 : decode (mb 63) 7 = .ok (.ishl, 1) := by decide +kernel
theorem i_T_withBit_8 : decode (mb 63) 8 = .ok (.ior, 1) := by decide +kernel
theorem i_T_withBit_9 : decode (mb 63) 9 = .ok (.goto 10, 3) := by decide +kernel
theorem i_T_withBit_12 : decode (mb 63) 12 = .ok (.iload_n 0, 1) := by decide +kernel
theorem i_T_withBit_13 : decode (mb 63) 13 = .ok (.iconst 1, 1) := by decide +kernel
theorem i_T_withBit_14 : decode (mb 63) 14 = .ok (.iload_n 1, 1) := by decide +kernel
theorem i_T_withBit_15 : decode (mb 63) 15 = .ok (.ishl, 1) := by decide +kernel
theorem i_T_withBit_16 : decode (mb 63) 16 = .ok (.iconst (-1), 1) := by decide +kernel
theorem i_T_withBit_17 : decode (mb 63) 17 = .ok (.ixor, 1) := by decide +kernel
theorem i_T_withBit_18 : decode (mb 63) 18 = .ok (.iand, 1) := by decide +kernel
theorem i_T_withBit_19 : decode (mb 63) 19 = .ok (.ireturn, 1) := by decide +kernel
theorem o_N_ask : (mn 64).cls = "NeedsALoser" := by decide +kernel
theorem l_N_ask : ml 64 = 4 := by decide +kernel
theorem t_N_ask : mr 64 = some (FieldType.int) := by decide +kernel
theorem i_N_ask_0 : decode (mb 64) 0 = .ok (.iload_n 1, 1) := by decide +kernel
theorem i_N_ask_1 : decode (mb 64) 1 = .ok (.iconst 4, 1) := by decide +kernel
theorem i_N_ask_2 : decode (mb 64) 2 = .ok (.invokestatic 58, 3) := by decide +kernel
theorem i_N_ask_5 : decode (mb 64) 5 = .ok (.ifCond .eq 18, 3) := by decide +kernel
theorem i_N_ask_8 : decode (mb 64) 8 = .ok (.iload_n 2, 1) := by decide +kernel
theorem i_N_ask_9 : decode (mb 64) 9 = .ok (.iload_n 1, 1) := by decide +kernel
theorem i_N_ask_10 : decode (mb 64) 10 = .ok (.invokestatic 158, 3) := by decide +kernel
theorem i_N_ask_13 : decode (mb 64) 13 = .ok (.iload_n 1, 1) := by decide +kernel
theorem i_N_ask_14 : decode (mb 64) 14 = .ok (.invokestatic 161, 3) := by decide +kernel
theorem i_N_ask_17 : decode (mb 64) 17 = .ok (.invokestatic 62, 3) := by decide +kernel
theorem i_N_ask_20 : decode (mb 64) 20 = .ok (.ifCond .ne 10, 3) := by decide +kernel
theorem i_N_ask_23 : decode (mb 64) 23 = .ok (.aload_n 0, 1) := by decide +kernel
theorem i_N_ask_24 : decode (mb 64) 24 = .ok (.bipush (-2), 2) := by decide +kernel
theorem i_N_ask_26 : decode (mb 64) 26 = .ok (.invokevirtual 66, 3) := by decide +kernel
theorem i_N_ask_29 : decode (mb 64) 29 = .ok (.ireturn, 1) := by decide +kernel
theorem i_N_ask_30 : decode (mb 64) 30 = .ok (.aload_n 0, 1) := by decide +kernel
theorem i_N_ask_31 : decode (mb 64) 31 = .ok (.getfield 10, 3) := by decide +kernel
theorem i_N_ask_34 : decode (mb 64) 34 = .ok (.iload_n 1, 1) := by decide +kernel
theorem i_N_ask_35 : decode (mb 64) 35 = .ok (.invokevirtual 164, 3) := by decide +kernel
theorem i_N_ask_38 : decode (mb 64) 38 = .ok (.istore_n 3, 1) := by decide +kernel
theorem i_N_ask_39 : decode (mb 64) 39 = .ok (.aload_n 0, 1) := by decide +kernel
theorem i_N_ask_40 : decode (mb 64) 40 = .ok (.getfield 10, 3) := by decide +kernel
theorem i_N_ask_43 : decode (mb 64) 43 = .ok (.iload_n 1, 1) := by decide +kernel
theorem i_N_ask_44 : decode (mb 64) 44 = .ok (.iload_n 2, 1) := by decide +kernel
theorem i_N_ask_45 : decode (mb 64) 45 = .ok (.invokevirtual 167, 3) := by decide +kernel
theorem i_N_ask_48 : decode (mb 64) 48 = .ok (.iload_n 3, 1) := by decide +kernel
theorem i_N_ask_49 : decode (mb 64) 49 = .ok (.ireturn, 1) := by decide +kernel
theorem o_T_leastOfLaw : (mn 65).cls = "NeedsALoser$Town" := by decide +kernel
theorem l_T_leastOfLaw : ml 65 = 1 := by decide +kernel
theorem t_T_leastOfLaw : mr 65 = some (FieldType.int) := by decide +kernel
theorem i_T_leastOfLaw_0 : decode (mb 65) 0 = .ok (.iload_n 0, 1) := by decide +kernel
theorem i_T_leastOfLaw_1 : decode (mb 65) 1 = .ok (.ifCond .ne 7, 3) := by decide +kernel
theorem i_T_leastOfLaw_4 : decode (mb 65) 4 = .ok (.iconst 1, 1) := by decide +kernel
theorem i_T_leastOfLaw_5 : decode (mb 65) 5 = .ok (.goto 4, 3) := by decide +kernel
theorem i_T_leastOfLaw_8 : decode (mb 65) 8 = .ok (.iconst 0, 1) := by decide +kernel
theorem i_T_leastOfLaw_9 : decode (mb 65) 9 = .ok (.ireturn, 1) := by decide +kernel
theorem o_T_mostOfLaw : (mn 66).cls = "NeedsALoser$Town" := by decide +kernel
theorem l_T_mostOfLaw : ml 66 = 1 := by decide +kernel
theorem t_T_mostOfLaw : mr 66 = some (FieldType.int) := by decide +kernel
theorem i_T_mostOfLaw_0 : decode (mb 66) 0 = .ok (.iload_n 0, 1) := by decide +kernel
theorem i_T_mostOfLaw_1 : decode (mb 66) 1 = .ok (.tableswitch 35 0 2 #[27, 30, 32], 27) := by decide +kernel
theorem i_T_mostOfLaw_28 : decode (mb 66) 28 = .ok (.bipush 99, 2) := by decide +kernel
theorem i_T_mostOfLaw_30 : decode (mb 66) 30 = .ok (.ireturn, 1) := by decide +kernel
theorem i_T_mostOfLaw_31 : decode (mb 66) 31 = .ok (.iconst 1, 1) := by decide +kernel
theorem i_T_mostOfLaw_32 : decode (mb 66) 32 = .ok (.ireturn, 1) := by decide +kernel
theorem i_T_mostOfLaw_33 : decode (mb 66) 33 = .ok (.bipush 10, 2) := by decide +kernel
theorem i_T_mostOfLaw_35 : decode (mb 66) 35 = .ok (.ireturn, 1) := by decide +kernel
theorem i_T_mostOfLaw_36 : decode (mb 66) 36 = .ok (.sipush 999, 3) := by decide +kernel
theorem i_T_mostOfLaw_39 : decode (mb 66) 39 = .ok (.ireturn, 1) := by decide +kernel
theorem o_T_law : (mn 67).cls = "NeedsALoser$Town" := by decide +kernel
theorem l_T_law : ml 67 = 2 := by decide +kernel
theorem t_T_law : mr 67 = some (FieldType.int) := by decide +kernel
theorem i_T_law_0 : decode (mb 67) 0 = .ok (.iload_n 1, 1) := by decide +kernel
theorem i_T_law_1 : decode (mb 67) 1 = .ok (.tableswitch 42 0 2 #[27, 32, 37], 27) := by decide +kernel
theorem i_T_law_28 : decode (mb 67) 28 = .ok (.aload_n 0, 1) := by decide +kernel
theorem i_T_law_29 : decode (mb 67) 29 = .ok (.getfield 18, 3) := by decide +kernel
theorem i_T_law_32 : decode (mb 67) 32 = .ok (.ireturn, 1) := by decide +kernel
theorem i_T_law_33 : decode (mb 67) 33 = .ok (.aload_n 0, 1) := by decide +kernel
theorem i_T_law_34 : decode (mb 67) 34 = .ok (.getfield 21, 3) := by decide +kernel
theorem i_T_law_37 : decode (mb 67) 37 = .ok (.ireturn, 1) := by decide +kernel
theorem i_T_law_38 : decode (mb 67) 38 = .ok (.aload_n 0, 1) := by decide +kernel
theorem i_T_law_39 : decode (mb 67) 39 = .ok (.getfield 24, 3) := by decide +kernel
theorem i_T_law_42 : decode (mb 67) 42 = .ok (.ireturn, 1) := by decide +kernel
theorem i_T_law_43 : decode (mb 67) 43 = .ok (.aload_n 0, 1) := by decide +kernel
theorem i_T_law_44 : decode (mb 67) 44 = .ok (.getfield 27, 3) := by decide +kernel
theorem i_T_law_47 : decode (mb 67) 47 = .ok (.ireturn, 1) := by decide +kernel
theorem o_T_putLaw : (mn 68).cls = "NeedsALoser$Town" := by decide +kernel
theorem l_T_putLaw : ml 68 = 3 := by decide +kernel
theorem t_T_putLaw : mr 68 = none := by decide +kernel
theorem i_T_putLaw_0 : decode (mb 68) 0 = .ok (.iload_n 1, 1) := by decide +kernel
theorem i_T_putLaw_1 : decode (mb 68) 1 = .ok (.tableswitch 51 0 2 #[27, 35, 43], 27) := by decide +kernel
theorem i_T_putLaw_28 : decode (mb 68) 28 = .ok (.aload_n 0, 1) := by decide +kernel
theorem i_T_putLaw_29 : decode (mb 68) 29 = .ok (.iload_n 2, 1) := by decide +kernel
theorem i_T_putLaw_30 : decode (mb 68) 30 = .ok (.putfield 18, 3) := by decide +kernel
theorem i_T_putLaw_33 : decode (mb 68) 33 = .ok (.goto 24, 3) := by decide +kernel
theorem i_T_putLaw_36 : decode (mb 68) 36 = .ok (.aload_n 0, 1) := by decide +kernel
theorem i_T_putLaw_37 : decode (mb 68) 37 = .ok (.iload_n 2, 1) := by decide +kernel
theorem i_T_putLaw_38 : decode (mb 68) 38 = .ok (.putfield 21, 3) := by decide +kernel
theorem i_T_putLaw_41 : decode (mb 68) 41 = .ok (.goto 16, 3) := by decide +kernel
theorem i_T_putLaw_44 : decode (mb 68) 44 = .ok (.aload_n 0, 1) := by decide +kernel
theorem i_T_putLaw_45 : decode (mb 68) 45 = .ok (.iload_n 2, 1) := by decide +kernel
theorem i_T_putLaw_46 : decode (mb 68) 46 = .ok (.putfield 24, 3) := by decide +kernel
theorem i_T_putLaw_49 : decode (mb 68) 49 = .ok (.goto 8, 3) := by decide +kernel
theorem i_T_putLaw_52 : decode (mb 68) 52 = .ok (.aload_n 0, 1) := by decide +kernel
theorem i_T_putLaw_53 : decode (mb 68) 53 = .ok (.iload_n 2, 1) := by decide +kernel
theorem i_T_putLaw_54 : decode (mb 68) 54 = .ok (.putfield 27, 3) := by decide +kernel
theorem i_T_putLaw_57 : decode (mb 68) 57 = .ok (.return_, 1) := by decide +kernel
theorem o_N_feed : (mn 69).cls = "NeedsALoser" := by decide +kernel
theorem l_N_feed : ml 69 = 2 := by decide +kernel
theorem t_N_feed : mr 69 = some (FieldType.int) := by decide +kernel
theorem i_N_feed_0 : decode (mb 69) 0 = .ok (.iload_n 1, 1) := by decide +kernel
theorem i_N_feed_1 : decode (mb 69) 1 = .ok (.iconst 0, 1) := by decide +kernel
theorem i_N_feed_2 : decode (mb 69) 2 = .ok (.sipush 255, 3) := by decide +kernel
theorem i_N_feed_5 : decode (mb 69) 5 = .ok (.invokestatic 62, 3) := by decide +kernel
theorem i_N_feed_8 : decode (mb 69) 8 = .ok (.ifCond .ne 10, 3) := by decide +kernel
theorem i_N_feed_11 : decode (mb 69) 11 = .ok (.aload_n 0, 1) := by decide +kernel
theorem i_N_feed_12 : decode (mb 69) 12 = .ok (.bipush (-2), 2) := by decide +kernel
theorem i_N_feed_14 : decode (mb 69) 14 = .ok (.invokevirtual 66, 3) := by decide +kernel
theorem i_N_feed_17 : decode (mb 69) 17 = .ok (.ireturn, 1) := by decide +kernel
theorem i_N_feed_18 : decode (mb 69) 18 = .ok (.aload_n 0, 1) := by decide +kernel
theorem i_N_feed_19 : decode (mb 69) 19 = .ok (.getfield 36, 3) := by decide +kernel
theorem i_N_feed_22 : decode (mb 69) 22 = .ok (.invokevirtual 171, 3) := by decide +kernel
theorem i_N_feed_25 : decode (mb 69) 25 = .ok (.ifCond .eq 12, 3) := by decide +kernel
theorem i_N_feed_28 : decode (mb 69) 28 = .ok (.aload_n 0, 1) := by decide +kernel
theorem i_N_feed_29 : decode (mb 69) 29 = .ok (.bipush (-6), 2) := by decide +kernel
theorem i_N_feed_31 : decode (mb 69) 31 = .ok (.invokevirtual 66, 3) := by decide +kernel
theorem i_N_feed_34 : decode (mb 69) 34 = .ok (.goto 11, 3) := by decide +kernel
theorem i_N_feed_37 : decode (mb 69) 37 = .ok (.aload_n 0, 1) := by decide +kernel
theorem i_N_feed_38 : decode (mb 69) 38 = .ok (.getfield 36, 3) := by decide +kernel
theorem i_N_feed_41 : decode (mb 69) 41 = .ok (.iload_n 1, 1) := by decide +kernel
theorem i_N_feed_42 : decode (mb 69) 42 = .ok (.invokevirtual 175, 3) := by decide +kernel
theorem i_N_feed_45 : decode (mb 69) 45 = .ok (.ireturn, 1) := by decide +kernel
theorem o_R_isFull : (mn 70).cls = "NeedsALoser$Reader" := by decide +kernel
theorem l_R_isFull : ml 70 = 1 := by decide +kernel
theorem t_R_isFull : mr 70 = some (FieldType.boolean) := by decide +kernel
theorem i_R_isFull_0 : decode (mb 70) 0 = .ok (.aload_n 0, 1) := by decide +kernel
theorem i_R_isFull_1 : decode (mb 70) 1 = .ok (.getfield 15, 3) := by decide +kernel
theorem i_R_isFull_4 : decode (mb 70) 4 = .ok (.sipush 250, 3) := by decide +kernel
theorem i_R_isFull_7 : decode (mb 70) 7 = .ok (.if_icmp .lt 7, 3) := by decide +kernel
theorem i_R_isFull_10 : decode (mb 70) 10 = .ok (.iconst 1, 1) := by decide +kernel
theorem i_R_isFull_11 : decode (mb 70) 11 = .ok (.goto 4, 3) := by decide +kernel
theorem i_R_isFull_14 : decode (mb 70) 14 = .ok (.iconst 0, 1) := by decide +kernel
theorem i_R_isFull_15 : decode (mb 70) 15 = .ok (.ireturn, 1) := by decide +kernel
theorem o_R_add : (mn 71).cls = "NeedsALoser$Reader" := by decide +kernel
theorem l_R_add : ml 71 = 2 := by decide +kernel
theorem t_R_add : mr 71 = some (FieldType.int) := by decide +kernel
theorem i_R_add_0 : decode (mb 71) 0 = .ok (.aload_n 0, 1) := by decide +kernel
theorem i_R_add_1 : decode (mb 71) 1 = .ok (.getfield 11, 3) := by decide +kernel
theorem i_R_add_4 : decode (mb 71) 4 = .ok (.aload_n 0, 1) := by decide +kernel
theorem i_R_add_5 : decode (mb 71) 5 = .ok (.getfield 15, 3) := by decide +kernel
theorem i_R_add_8 : decode (mb 71) 8 = .ok (.iload_n 1, 1) := by decide +kernel
theorem i_R_add_9 : decode (mb 71) 9 = .ok (.invokestatic 31, 3) := by decide +kernel
theorem i_R_add_12 : decode (mb 71) 12 = .ok (.aload_n 0, 1) := by decide +kernel
theorem i_R_add_13 : decode (mb 71) 13 = .ok (.dup, 1) := by decide +kernel
theorem i_R_add_14 : decode (mb 71) 14 = .ok (.getfield 15, 3) := by decide +kernel
theorem i_R_add_17 : decode (mb 71) 17 = .ok (.iconst 1, 1) := by decide +kernel
theorem i_R_add_18 : decode (mb 71) 18 = .ok (.iadd, 1) := by decide +kernel
theorem i_R_add_19 : decode (mb 71) 19 = .ok (.putfield 15, 3) := by decide +kernel
theorem i_R_add_22 : decode (mb 71) 22 = .ok (.aload_n 0, 1) := by decide +kernel
theorem i_R_add_23 : decode (mb 71) 23 = .ok (.getfield 15, 3) := by decide +kernel
theorem i_R_add_26 : decode (mb 71) 26 = .ok (.ireturn, 1) := by decide +kernel
theorem o_N_wipe : (mn 72).cls = "NeedsALoser" := by decide +kernel
theorem l_N_wipe : ml 72 = 1 := by decide +kernel
theorem t_N_wipe : mr 72 = some (FieldType.int) := by decide +kernel
theorem i_N_wipe_0 : decode (mb 72) 0 = .ok (.aload_n 0, 1) := by decide +kernel
theorem i_N_wipe_1 : decode (mb 72) 1 = .ok (.getfield 36, 3) := by decide +kernel
theorem i_N_wipe_4 : decode (mb 72) 4 = .ok (.invokevirtual 178, 3) := by decide +kernel
theorem i_N_wipe_7 : decode (mb 72) 7 = .ok (.ireturn, 1) := by decide +kernel
theorem o_R_clear : (mn 73).cls = "NeedsALoser$Reader" := by decide +kernel
theorem l_R_clear : ml 73 = 2 := by decide +kernel
theorem t_R_clear : mr 73 = some (FieldType.int) := by decide +kernel
theorem i_R_clear_0 : decode (mb 73) 0 = .ok (.aload_n 0, 1) := by decide +kernel
theorem i_R_clear_1 : decode (mb 73) 1 = .ok (.getfield 15, 3) := by decide +kernel
theorem i_R_clear_4 : decode (mb 73) 4 = .ok (.istore_n 1, 1) := by decide +kernel
theorem i_R_clear_5 : decode (mb 73) 5 = .ok (.aload_n 0, 1) := by decide +kernel
theorem i_R_clear_6 : decode (mb 73) 6 = .ok (.iconst 0, 1) := by decide +kernel
theorem i_R_clear_7 : decode (mb 73) 7 = .ok (.putfield 15, 3) := by decide +kernel
theorem i_R_clear_10 : decode (mb 73) 10 = .ok (.iload_n 1, 1) := by decide +kernel
theorem i_R_clear_11 : decode (mb 73) 11 = .ok (.ireturn, 1) := by decide +kernel
theorem o_N_town : (mn 74).cls = "NeedsALoser" := by decide +kernel
theorem l_N_town : ml 74 = 2 := by decide +kernel
theorem t_N_town : mr 74 = some (FieldType.int) := by decide +kernel
theorem i_N_town_0 : decode (mb 74) 0 = .ok (.aload_n 0, 1) := by decide +kernel
theorem i_N_town_1 : decode (mb 74) 1 = .ok (.getfield 19, 3) := by decide +kernel
theorem i_N_town_4 : decode (mb 74) 4 = .ok (.aload_n 0, 1) := by decide +kernel
theorem i_N_town_5 : decode (mb 74) 5 = .ok (.getfield 10, 3) := by decide +kernel
theorem i_N_town_8 : decode (mb 74) 8 = .ok (.invokevirtual 181, 3) := by decide +kernel
theorem i_N_town_11 : decode (mb 74) 11 = .ok (.aload_n 0, 1) := by decide +kernel
theorem i_N_town_12 : decode (mb 74) 12 = .ok (.getfield 36, 3) := by decide +kernel
theorem i_N_town_15 : decode (mb 74) 15 = .ok (.aload_n 0, 1) := by decide +kernel
theorem i_N_town_16 : decode (mb 74) 16 = .ok (.getfield 19, 3) := by decide +kernel
theorem i_N_town_19 : decode (mb 74) 19 = .ok (.invokevirtual 185, 3) := by decide +kernel
theorem i_N_town_22 : decode (mb 74) 22 = .ok (.istore_n 1, 1) := by decide +kernel
theorem i_N_town_23 : decode (mb 74) 23 = .ok (.aload_n 0, 1) := by decide +kernel
theorem i_N_town_24 : decode (mb 74) 24 = .ok (.getfield 36, 3) := by decide +kernel
theorem i_N_town_27 : decode (mb 74) 27 = .ok (.invokevirtual 178, 3) := by decide +kernel
theorem i_N_town_30 : decode (mb 74) 30 = .ok (.pop, 1) := by decide +kernel
theorem i_N_town_31 : decode (mb 74) 31 = .ok (.iload_n 1, 1) := by decide +kernel
theorem i_N_town_32 : decode (mb 74) 32 = .ok (.bipush (-20), 2) := by decide +kernel
theorem i_N_town_34 : decode (mb 74) 34 = .ok (.if_icmp .gt 13, 3) := by decide +kernel
theorem i_N_town_37 : decode (mb 74) 37 = .ok (.aload_n 0, 1) := by decide +kernel
theorem i_N_town_38 : decode (mb 74) 38 = .ok (.bipush (-2), 2) := by decide +kernel
theorem i_N_town_40 : decode (mb 74) 40 = .ok (.invokevirtual 66, 3) := by decide +kernel
theorem i_N_town_43 : decode (mb 74) 43 = .ok (.pop, 1) := by decide +kernel
theorem i_N_town_44 : decode (mb 74) 44 = .ok (.goto 14, 3) := by decide +kernel
theorem i_N_town_47 : decode (mb 74) 47 = .ok (.aload_n 0, 1) := by decide +kernel
theorem i_N_town_48 : decode (mb 74) 48 = .ok (.getfield 10, 3) := by decide +kernel
theorem i_N_town_51 : decode (mb 74) 51 = .ok (.aload_n 0, 1) := by decide +kernel
theorem i_N_town_52 : decode (mb 74) 52 = .ok (.getfield 19, 3) := by decide +kernel
theorem i_N_town_55 : decode (mb 74) 55 = .ok (.invokevirtual 181, 3) := by decide +kernel
theorem i_N_town_58 : decode (mb 74) 58 = .ok (.iload_n 1, 1) := by decide +kernel
theorem i_N_town_59 : decode (mb 74) 59 = .ok (.ireturn, 1) := by decide +kernel
theorem o_T_become : (mn 75).cls = "NeedsALoser$Town" := by decide +kernel
theorem l_T_become : ml 75 = 2 := by decide +kernel
theorem t_T_become : mr 75 = none := by decide +kernel
theorem i_T_become_0 : decode (mb 75) 0 = .ok (.aload_n 0, 1) := by decide +kernel
theorem i_T_become_1 : decode (mb 75) 1 = .ok (.aload_n 1, 1) := by decide +kernel
theorem i_T_become_2 : decode (mb 75) 2 = .ok (.getfield 9, 3) := by decide +kernel
theorem i_T_become_5 : decode (mb 75) 5 = .ok (.putfield 9, 3) := by decide +kernel
theorem i_T_become_8 : decode (mb 75) 8 = .ok (.aload_n 0, 1) := by decide +kernel
theorem i_T_become_9 : decode (mb 75) 9 = .ok (.aload_n 1, 1) := by decide +kernel
theorem i_T_become_10 : decode (mb 75) 10 = .ok (.getfield 15, 3) := by decide +kernel
theorem i_T_become_13 : decode (mb 75) 13 = .ok (.putfield 15, 3) := by decide +kernel
theorem i_T_become_16 : decode (mb 75) 16 = .ok (.aload_n 0, 1) := by decide +kernel
theorem i_T_become_17 : decode (mb 75) 17 = .ok (.aload_n 1, 1) := by decide +kernel
theorem i_T_become_18 : decode (mb 75) 18 = .ok (.getfield 18, 3) := by decide +kernel
theorem i_T_become_21 : decode (mb 75) 21 = .ok (.putfield 18, 3) := by decide +kernel
theorem i_T_become_24 : decode (mb 75) 24 = .ok (.aload_n 0, 1) := by decide +kernel
theorem i_T_become_25 : decode (mb 75) 25 = .ok (.aload_n 1, 1) := by decide +kernel
theorem i_T_become_26 : decode (mb 75) 26 = .ok (.getfield 21, 3) := by decide +kernel
theorem i_T_become_29 : decode (mb 75) 29 = .ok (.putfield 21, 3) := by decide +kernel
theorem i_T_become_32 : decode (mb 75) 32 = .ok (.aload_n 0, 1) := by decide +kernel
theorem i_T_become_33 : decode (mb 75) 33 = .ok (.aload_n 1, 1) := by decide +kernel
theorem i_T_become_34 : decode (mb 75) 34 = .ok (.getfield 24, 3) := by decide +kernel
theorem i_T_become_37 : decode (mb 75) 37 = .ok (.putfield 24, 3) := by decide +kernel
theorem i_T_become_40 : decode (mb 75) 40 = .ok (.aload_n 0, 1) := by decide +kernel
theorem i_T_become_41 : decode (mb 75) 41 = .ok (.aload_n 1, 1) := by decide +kernel
theorem i_T_become_42 : decode (mb 75) 42 = .ok (.getfield 27, 3) := by decide +kernel
theorem i_T_become_45 : decode (mb 75) 45 = .ok (.putfield 27, 3) := by decide +kernel
theorem i_T_become_48 : decode (mb 75) 48 = .ok (.aload_n 0, 1) := by decide +kernel
theorem i_T_become_49 : decode (mb 75) 49 = .ok (.aload_n 1, 1) := by decide +kernel
theorem i_T_become_50 : decode (mb 75) 50 = .ok (.getfield 30, 3) := by decide +kernel
theorem i_T_become_53 : decode (mb 75) 53 = .ok (.putfield 30, 3) := by decide +kernel
theorem i_T_become_56 : decode (mb 75) 56 = .ok (.aload_n 0, 1) := by decide +kernel
theorem i_T_become_57 : decode (mb 75) 57 = .ok (.aload_n 1, 1) := by decide +kernel
theorem i_T_become_58 : decode (mb 75) 58 = .ok (.getfield 33, 3) := by decide +kernel
theorem i_T_become_61 : decode (mb 75) 61 = .ok (.putfield 33, 3) := by decide +kernel
theorem i_T_become_64 : decode (mb 75) 64 = .ok (.aload_n 0, 1) := by decide +kernel
theorem i_T_become_65 : decode (mb 75) 65 = .ok (.aload_n 1, 1) := by decide +kernel
theorem i_T_become_66 : decode (mb 75) 66 = .ok (.getfield 36, 3) := by decide +kernel
theorem i_T_become_69 : decode (mb 75) 69 = .ok (.putfield 36, 3) := by decide +kernel
theorem i_T_become_72 : decode (mb 75) 72 = .ok (.aload_n 1, 1) := by decide +kernel
theorem i_T_become_73 : decode (mb 75) 73 = .ok (.getfield 39, 3) := by decide +kernel
theorem i_T_become_76 : decode (mb 75) 76 = .ok (.aload_n 0, 1) := by decide +kernel
theorem i_T_become_77 : decode (mb 75) 77 = .ok (.getfield 39, 3) := by decide +kernel
theorem i_T_become_80 : decode (mb 75) 80 = .ok (.invokestatic 64, 3) := by decide +kernel
theorem i_T_become_83 : decode (mb 75) 83 = .ok (.aload_n 1, 1) := by decide +kernel
theorem i_T_become_84 : decode (mb 75) 84 = .ok (.getfield 43, 3) := by decide +kernel
theorem i_T_become_87 : decode (mb 75) 87 = .ok (.aload_n 0, 1) := by decide +kernel
theorem i_T_become_88 : decode (mb 75) 88 = .ok (.getfield 43, 3) := by decide +kernel
theorem i_T_become_91 : decode (mb 75) 91 = .ok (.invokestatic 64, 3) := by decide +kernel
theorem i_T_become_94 : decode (mb 75) 94 = .ok (.aload_n 1, 1) := by decide +kernel
theorem i_T_become_95 : decode (mb 75) 95 = .ok (.getfield 46, 3) := by decide +kernel
theorem i_T_become_98 : decode (mb 75) 98 = .ok (.aload_n 0, 1) := by decide +kernel
theorem i_T_become_99 : decode (mb 75) 99 = .ok (.getfield 46, 3) := by decide +kernel
theorem i_T_become_102 : decode (mb 75) 102 = .ok (.invokestatic 64, 3) := by decide +kernel
theorem i_T_become_105 : decode (mb 75) 105 = .ok (.aload_n 1, 1) := by decide +kernel
theorem i_T_become_106 : decode (mb 75) 106 = .ok (.getfield 49, 3) := by decide +kernel
theorem i_T_become_109 : decode (mb 75) 109 = .ok (.aload_n 0, 1) := by decide +kernel
theorem i_T_become_110 : decode (mb 75) 110 = .ok (.getfield 49, 3) := by decide +kernel
theorem i_T_become_113 : decode (mb 75) 113 = .ok (.invokestatic 64, 3) := by decide +kernel
theorem i_T_become_116 : decode (mb 75) 116 = .ok (.aload_n 1, 1) := by decide +kernel
theorem i_T_become_117 : decode (mb 75) 117 = .ok (.getfield 52, 3) := by decide +kernel
theorem i_T_become_120 : decode (mb 75) 120 = .ok (.aload_n 0, 1) := by decide +kernel
theorem i_T_become_121 : decode (mb 75) 121 = .ok (.getfield 52, 3) := by decide +kernel
theorem i_T_become_124 : decode (mb 75) 124 = .ok (.invokestatic 64, 3) := by decide +kernel
theorem i_T_become_127 : decode (mb 75) 127 = .ok (.aload_n 1, 1) := by decide +kernel
theorem i_T_become_128 : decode (mb 75) 128 = .ok (.getfield 55, 3) := by decide +kernel
theorem i_T_become_131 : decode (mb 75) 131 = .ok (.aload_n 0, 1) := by decide +kernel
theorem i_T_become_132 : decode (mb 75) 132 = .ok (.getfield 55, 3) := by decide +kernel
theorem i_T_become_135 : decode (mb 75) 135 = .ok (.invokestatic 64, 3) := by decide +kernel
theorem i_T_become_138 : decode (mb 75) 138 = .ok (.aload_n 1, 1) := by decide +kernel
theorem i_T_become_139 : decode (mb 75) 139 = .ok (.getfield 58, 3) := by decide +kernel
theorem i_T_become_142 : decode (mb 75) 142 = .ok (.aload_n 0, 1) := by decide +kernel
theorem i_T_become_143 : decode (mb 75) 143 = .ok (.getfield 58, 3) := by decide +kernel
theorem i_T_become_146 : decode (mb 75) 146 = .ok (.invokestatic 64, 3) := by decide +kernel
theorem i_T_become_149 : decode (mb 75) 149 = .ok (.aload_n 1, 1) := by decide +kernel
theorem i_T_become_150 : decode (mb 75) 150 = .ok (.getfield 61, 3) := by decide +kernel
theorem i_T_become_153 : decode (mb 75) 153 = .ok (.aload_n 0, 1) := by decide +kernel
theorem i_T_become_154 : decode (mb 75) 154 = .ok (.getfield 61, 3) := by decide +kernel
theorem i_T_become_157 : decode (mb 75) 157 = .ok (.invokestatic 64, 3) := by decide +kernel
theorem i_T_become_160 : decode (mb 75) 160 = .ok (.return_, 1) := by decide +kernel
theorem o_N_copyAll : (mn 76).cls = "NeedsALoser" := by decide +kernel
theorem l_N_copyAll : ml 76 = 3 := by decide +kernel
theorem t_N_copyAll : mr 76 = none := by decide +kernel
theorem i_N_copyAll_0 : decode (mb 76) 0 = .ok (.iconst 0, 1) := by decide +kernel
theorem i_N_copyAll_1 : decode (mb 76) 1 = .ok (.istore_n 2, 1) := by decide +kernel
theorem i_N_copyAll_2 : decode (mb 76) 2 = .ok (.iload_n 2, 1) := by decide +kernel
theorem i_N_copyAll_3 : decode (mb 76) 3 = .ok (.aload_n 0, 1) := by decide +kernel
theorem i_N_copyAll_4 : decode (mb 76) 4 = .ok (.arraylength, 1) := by decide +kernel
theorem i_N_copyAll_5 : decode (mb 76) 5 = .ok (.if_icmp .ge 21, 3) := by decide +kernel
theorem i_N_copyAll_8 : decode (mb 76) 8 = .ok (.iload_n 2, 1) := by decide +kernel
theorem i_N_copyAll_9 : decode (mb 76) 9 = .ok (.aload_n 1, 1) := by decide +kernel
theorem i_N_copyAll_10 : decode (mb 76) 10 = .ok (.arraylength, 1) := by decide +kernel
theorem i_N_copyAll_11 : decode (mb 76) 11 = .ok (.if_icmp .ge 15, 3) := by decide +kernel
theorem i_N_copyAll_14 : decode (mb 76) 14 = .ok (.aload_n 1, 1) := by decide +kernel
theorem i_N_copyAll_15 : decode (mb 76) 15 = .ok (.iload_n 2, 1) := by decide +kernel
theorem i_N_copyAll_16 : decode (mb 76) 16 = .ok (.aload_n 0, 1) := by decide +kernel
theorem i_N_copyAll_17 : decode (mb 76) 17 = .ok (.iload_n 2, 1) := by decide +kernel
theorem i_N_copyAll_18 : decode (mb 76) 18 = .ok (.iaload, 1) := by decide +kernel
theorem i_N_copyAll_19 : decode (mb 76) 19 = .ok (.iastore, 1) := by decide +kernel
theorem i_N_copyAll_20 : decode (mb 76) 20 = .ok (.iinc 2 1, 3) := by decide +kernel
theorem i_N_copyAll_23 : decode (mb 76) 23 = .ok (.goto (-21), 3) := by decide +kernel
theorem i_N_copyAll_26 : decode (mb 76) 26 = .ok (.return_, 1) := by decide +kernel
theorem o_R_read : (mn 77).cls = "NeedsALoser$Reader" := by decide +kernel
theorem l_R_read : ml 77 = 4 := by decide +kernel
theorem t_R_read : mr 77 = some (FieldType.int) := by decide +kernel
theorem i_R_read_0 : decode (mb 77) 0 = .ok (.aload_n 0, 1) := by decide +kernel
theorem i_R_read_1 : decode (mb 77) 1 = .ok (.iconst 0, 1) := by decide +kernel
theorem i_R_read_2 : decode (mb 77) 2 = .ok (.putfield 19, 3) := by decide +kernel
theorem i_R_read_5 : decode (mb 77) 5 = .ok (.aload_n 0, 1) := by decide +kernel
theorem i_R_read_6 : decode (mb 77) 6 = .ok (.iconst (-1), 1) := by decide +kernel
theorem i_R_read_7 : decode (mb 77) 7 = .ok (.putfield 28, 3) := by decide +kernel
theorem i_R_read_10 : decode (mb 77) 10 = .ok (.aload_n 0, 1) := by decide +kernel
theorem i_R_read_11 : decode (mb 77) 11 = .ok (.invokevirtual 35, 3) := by decide +kernel
theorem i_R_read_14 : decode (mb 77) 14 = .ok (.iconst 0, 1) := by decide +kernel
theorem i_R_read_15 : decode (mb 77) 15 = .ok (.istore_n 2, 1) := by decide +kernel
theorem i_R_read_16 : decode (mb 77) 16 = .ok (.iconst 1, 1) := by decide +kernel
theorem i_R_read_17 : decode (mb 77) 17 = .ok (.istore_n 3, 1) := by decide +kernel
theorem i_R_read_18 : decode (mb 77) 18 = .ok (.iload_n 3, 1) := by decide +kernel
theorem i_R_read_19 : decode (mb 77) 19 = .ok (.ifCond .eq 51, 3) := by decide +kernel
theorem i_R_read_22 : decode (mb 77) 22 = .ok (.iload_n 2, 1) := by decide +kernel
theorem i_R_read_23 : decode (mb 77) 23 = .ok (.sipush 250, 3) := by decide +kernel
theorem i_R_read_26 : decode (mb 77) 26 = .ok (.if_icmp .gt 44, 3) := by decide +kernel
theorem i_R_read_29 : decode (mb 77) 29 = .ok (.aload_n 0, 1) := by decide +kernel
theorem i_R_read_30 : decode (mb 77) 30 = .ok (.aload_n 1, 1) := by decide +kernel
theorem i_R_read_31 : decode (mb 77) 31 = .ok (.invokevirtual 38, 3) := by decide +kernel
theorem i_R_read_34 : decode (mb 77) 34 = .ok (.iinc 2 1, 3) := by decide +kernel
theorem i_R_read_37 : decode (mb 77) 37 = .ok (.aload_n 0, 1) := by decide +kernel
theorem i_R_read_38 : decode (mb 77) 38 = .ok (.getfield 28, 3) := by decide +kernel
theorem i_R_read_41 : decode (mb 77) 41 = .ok (.iconst (-1), 1) := by decide +kernel
theorem i_R_read_42 : decode (mb 77) 42 = .ok (.if_icmp .ne 15, 3) := by decide +kernel
theorem i_R_read_45 : decode (mb 77) 45 = .ok (.aload_n 0, 1) := by decide +kernel
theorem i_R_read_46 : decode (mb 77) 46 = .ok (.getfield 22, 3) := by decide +kernel
theorem i_R_read_49 : decode (mb 77) 49 = .ok (.iconst 3, 1) := by decide +kernel
theorem i_R_read_50 : decode (mb 77) 50 = .ok (.if_icmp .ne 7, 3) := by decide +kernel
theorem i_R_read_53 : decode (mb 77) 53 = .ok (.iconst 1, 1) := by decide +kernel
theorem i_R_read_54 : decode (mb 77) 54 = .ok (.goto 4, 3) := by decide +kernel
theorem i_R_read_57 : decode (mb 77) 57 = .ok (.iconst 0, 1) := by decide +kernel
theorem i_R_read_58 : decode (mb 77) 58 = .ok (.istore_n 3, 1) := by decide +kernel
theorem i_R_read_59 : decode (mb 77) 59 = .ok (.iload_n 3, 1) := by decide +kernel
theorem i_R_read_60 : decode (mb 77) 60 = .ok (.ifCond .eq (-42), 3) := by decide +kernel
theorem i_R_read_63 : decode (mb 77) 63 = .ok (.aload_n 0, 1) := by decide +kernel
theorem i_R_read_64 : decode (mb 77) 64 = .ok (.invokevirtual 35, 3) := by decide +kernel
theorem i_R_read_67 : decode (mb 77) 67 = .ok (.goto (-49), 3) := by decide +kernel
theorem i_R_read_70 : decode (mb 77) 70 = .ok (.aload_n 0, 1) := by decide +kernel
theorem i_R_read_71 : decode (mb 77) 71 = .ok (.getfield 22, 3) := by decide +kernel
theorem i_R_read_74 : decode (mb 77) 74 = .ok (.ifCond .eq 7, 3) := by decide +kernel
theorem i_R_read_77 : decode (mb 77) 77 = .ok (.aload_n 0, 1) := by decide +kernel
theorem i_R_read_78 : decode (mb 77) 78 = .ok (.invokevirtual 42, 3) := by decide +kernel
theorem i_R_read_81 : decode (mb 77) 81 = .ok (.aload_n 0, 1) := by decide +kernel
theorem i_R_read_82 : decode (mb 77) 82 = .ok (.getfield 28, 3) := by decide +kernel
theorem i_R_read_85 : decode (mb 77) 85 = .ok (.iconst (-1), 1) := by decide +kernel
theorem i_R_read_86 : decode (mb 77) 86 = .ok (.if_icmp .ne 7, 3) := by decide +kernel
theorem i_R_read_89 : decode (mb 77) 89 = .ok (.iload_n 2, 1) := by decide +kernel
theorem i_R_read_90 : decode (mb 77) 90 = .ok (.goto 10, 3) := by decide +kernel
theorem i_R_read_93 : decode (mb 77) 93 = .ok (.bipush (-20), 2) := by decide +kernel
theorem i_R_read_95 : decode (mb 77) 95 = .ok (.aload_n 0, 1) := by decide +kernel
theorem i_R_read_96 : decode (mb 77) 96 = .ok (.getfield 28, 3) := by decide +kernel
theorem i_R_read_99 : decode (mb 77) 99 = .ok (.isub, 1) := by decide +kernel
theorem i_R_read_100 : decode (mb 77) 100 = .ok (.ireturn, 1) := by decide +kernel
theorem o_R_step : (mn 78).cls = "NeedsALoser$Reader" := by decide +kernel
theorem l_R_step : ml 78 = 1 := by decide +kernel
theorem t_R_step : mr 78 = none := by decide +kernel
theorem i_R_step_0 : decode (mb 78) 0 = .ok (.aload_n 0, 1) := by decide +kernel
theorem i_R_step_1 : decode (mb 78) 1 = .ok (.getfield 19, 3) := by decide +kernel
theorem i_R_step_4 : decode (mb 78) 4 = .ok (.aload_n 0, 1) := by decide +kernel
theorem i_R_step_5 : decode (mb 78) 5 = .ok (.getfield 15, 3) := by decide +kernel
theorem i_R_step_8 : decode (mb 78) 8 = .ok (.if_icmp .ge 32, 3) := by decide +kernel
theorem i_R_step_11 : decode (mb 78) 11 = .ok (.aload_n 0, 1) := by decide +kernel
theorem i_R_step_12 : decode (mb 78) 12 = .ok (.getfield 11, 3) := by decide +kernel
theorem i_R_step_15 : decode (mb 78) 15 = .ok (.aload_n 0, 1) := by decide +kernel
theorem i_R_step_16 : decode (mb 78) 16 = .ok (.getfield 19, 3) := by decide +kernel
theorem i_R_step_19 : decode (mb 78) 19 = .ok (.invokestatic 129, 3) := by decide +kernel
theorem i_R_step_22 : decode (mb 78) 22 = .ok (.bipush 32, 2) := by decide +kernel
theorem i_R_step_24 : decode (mb 78) 24 = .ok (.if_icmp .ne 16, 3) := by decide +kernel
theorem i_R_step_27 : decode (mb 78) 27 = .ok (.aload_n 0, 1) := by decide +kernel
theorem i_R_step_28 : decode (mb 78) 28 = .ok (.dup, 1) := by decide +kernel
theorem i_R_step_29 : decode (mb 78) 29 = .ok (.getfield 19, 3) := by decide +kernel
theorem i_R_step_32 : decode (mb 78) 32 = .ok (.iconst 1, 1) := by decide +kernel
theorem i_R_step_33 : decode (mb 78) 33 = .ok (.iadd, 1) := by decide +kernel
theorem i_R_step_34 : decode (mb 78) 34 = .ok (.putfield 19, 3) := by decide +kernel
theorem i_R_step_37 : decode (mb 78) 37 = .ok (.goto (-37), 3) := by decide +kernel
theorem i_R_step_40 : decode (mb 78) 40 = .ok (.aload_n 0, 1) := by decide +kernel
theorem i_R_step_41 : decode (mb 78) 41 = .ok (.aload_n 0, 1) := by decide +kernel
theorem i_R_step_42 : decode (mb 78) 42 = .ok (.getfield 19, 3) := by decide +kernel
theorem i_R_step_45 : decode (mb 78) 45 = .ok (.putfield 25, 3) := by decide +kernel
theorem i_R_step_48 : decode (mb 78) 48 = .ok (.aload_n 0, 1) := by decide +kernel
theorem i_R_step_49 : decode (mb 78) 49 = .ok (.aload_n 0, 1) := by decide +kernel
theorem i_R_step_50 : decode (mb 78) 50 = .ok (.aload_n 0, 1) := by decide +kernel
theorem i_R_step_51 : decode (mb 78) 51 = .ok (.getfield 19, 3) := by decide +kernel
theorem i_R_step_54 : decode (mb 78) 54 = .ok (.invokevirtual 142, 3) := by decide +kernel
theorem i_R_step_57 : decode (mb 78) 57 = .ok (.putfield 22, 3) := by decide +kernel
theorem i_R_step_60 : decode (mb 78) 60 = .ok (.aload_n 0, 1) := by decide +kernel
theorem i_R_step_61 : decode (mb 78) 61 = .ok (.getfield 22, 3) := by decide +kernel
theorem i_R_step_64 : decode (mb 78) 64 = .ok (.ifCond .ne 4, 3) := by decide +kernel
theorem i_R_step_67 : decode (mb 78) 67 = .ok (.return_, 1) := by decide +kernel
theorem i_R_step_68 : decode (mb 78) 68 = .ok (.aload_n 0, 1) := by decide +kernel
theorem i_R_step_69 : decode (mb 78) 69 = .ok (.dup, 1) := by decide +kernel
theorem i_R_step_70 : decode (mb 78) 70 = .ok (.getfield 19, 3) := by decide +kernel
theorem i_R_step_73 : decode (mb 78) 73 = .ok (.iconst 1, 1) := by decide +kernel
theorem i_R_step_74 : decode (mb 78) 74 = .ok (.iadd, 1) := by decide +kernel
theorem i_R_step_75 : decode (mb 78) 75 = .ok (.putfield 19, 3) := by decide +kernel
theorem i_R_step_78 : decode (mb 78) 78 = .ok (.aload_n 0, 1) := by decide +kernel
theorem i_R_step_79 : decode (mb 78) 79 = .ok (.getfield 22, 3) := by decide +kernel
theorem i_R_step_82 : decode (mb 78) 82 = .ok (.iconst 1, 1) := by decide +kernel
theorem i_R_step_83 : decode (mb 78) 83 = .ok (.if_icmp .eq 11, 3) := by decide +kernel
theorem i_R_step_86 : decode (mb 78) 86 = .ok (.aload_n 0, 1) := by decide +kernel
theorem i_R_step_87 : decode (mb 78) 87 = .ok (.getfield 22, 3) := by decide +kernel
theorem i_R_step_90 : decode (mb 78) 90 = .ok (.iconst 2, 1) := by decide +kernel
theorem i_R_step_91 : decode (mb 78) 91 = .ok (.if_icmp .ne 42, 3) := by decide +kernel
theorem i_R_step_94 : decode (mb 78) 94 = .ok (.aload_n 0, 1) := by decide +kernel
theorem i_R_step_95 : decode (mb 78) 95 = .ok (.getfield 19, 3) := by decide +kernel
theorem i_R_step_98 : decode (mb 78) 98 = .ok (.aload_n 0, 1) := by decide +kernel
theorem i_R_step_99 : decode (mb 78) 99 = .ok (.getfield 15, 3) := by decide +kernel
theorem i_R_step_102 : decode (mb 78) 102 = .ok (.if_icmp .ge 31, 3) := by decide +kernel
theorem i_R_step_105 : decode (mb 78) 105 = .ok (.aload_n 0, 1) := by decide +kernel
theorem i_R_step_106 : decode (mb 78) 106 = .ok (.aload_n 0, 1) := by decide +kernel
theorem i_R_step_107 : decode (mb 78) 107 = .ok (.getfield 19, 3) := by decide +kernel
theorem i_R_step_110 : decode (mb 78) 110 = .ok (.invokevirtual 142, 3) := by decide +kernel
theorem i_R_step_113 : decode (mb 78) 113 = .ok (.aload_n 0, 1) := by decide +kernel
theorem i_R_step_114 : decode (mb 78) 114 = .ok (.getfield 22, 3) := by decide +kernel
theorem i_R_step_117 : decode (mb 78) 117 = .ok (.if_icmp .ne 16, 3) := by decide +kernel
theorem i_R_step_120 : decode (mb 78) 120 = .ok (.aload_n 0, 1) := by decide +kernel
theorem i_R_step_121 : decode (mb 78) 121 = .ok (.dup, 1) := by decide +kernel
theorem i_R_step_122 : decode (mb 78) 122 = .ok (.getfield 19, 3) := by decide +kernel
theorem i_R_step_125 : decode (mb 78) 125 = .ok (.iconst 1, 1) := by decide +kernel
theorem i_R_step_126 : decode (mb 78) 126 = .ok (.iadd, 1) := by decide +kernel
theorem i_R_step_127 : decode (mb 78) 127 = .ok (.putfield 19, 3) := by decide +kernel
theorem i_R_step_130 : decode (mb 78) 130 = .ok (.goto (-52), 3) := by decide +kernel
theorem i_R_step_133 : decode (mb 78) 133 = .ok (.return_, 1) := by decide +kernel
theorem o_R_tokenOf : (mn 79).cls = "NeedsALoser$Reader" := by decide +kernel
theorem l_R_tokenOf : ml 79 = 3 := by decide +kernel
theorem t_R_tokenOf : mr 79 = some (FieldType.int) := by decide +kernel
theorem i_R_tokenOf_0 : decode (mb 79) 0 = .ok (.iload_n 1, 1) := by decide +kernel
theorem i_R_tokenOf_1 : decode (mb 79) 1 = .ok (.aload_n 0, 1) := by decide +kernel
theorem i_R_tokenOf_2 : decode (mb 79) 2 = .ok (.getfield 15, 3) := by decide +kernel
theorem i_R_tokenOf_5 : decode (mb 79) 5 = .ok (.if_icmp .lt 5, 3) := by decide +kernel
theorem i_R_tokenOf_8 : decode (mb 79) 8 = .ok (.iconst 0, 1) := by decide +kernel
theorem i_R_tokenOf_9 : decode (mb 79) 9 = .ok (.ireturn, 1) := by decide +kernel
theorem i_R_tokenOf_10 : decode (mb 79) 10 = .ok (.aload_n 0, 1) := by decide +kernel
theorem i_R_tokenOf_11 : decode (mb 79) 11 = .ok (.getfield 11, 3) := by decide +kernel
theorem i_R_tokenOf_14 : decode (mb 79) 14 = .ok (.iload_n 1, 1) := by decide +kernel
theorem i_R_tokenOf_15 : decode (mb 79) 15 = .ok (.invokestatic 129, 3) := by decide +kernel
theorem i_R_tokenOf_18 : decode (mb 79) 18 = .ok (.istore_n 2, 1) := by decide +kernel
theorem i_R_tokenOf_19 : decode (mb 79) 19 = .ok (.iload_n 2, 1) := by decide +kernel
theorem i_R_tokenOf_20 : decode (mb 79) 20 = .ok (.bipush 97, 2) := by decide +kernel
theorem i_R_tokenOf_22 : decode (mb 79) 22 = .ok (.bipush 122, 2) := by decide +kernel
theorem i_R_tokenOf_24 : decode (mb 79) 24 = .ok (.invokestatic 125, 3) := by decide +kernel
theorem i_R_tokenOf_27 : decode (mb 79) 27 = .ok (.ifCond .eq 5, 3) := by decide +kernel
theorem i_R_tokenOf_30 : decode (mb 79) 30 = .ok (.iconst 1, 1) := by decide +kernel
theorem i_R_tokenOf_31 : decode (mb 79) 31 = .ok (.ireturn, 1) := by decide +kernel
theorem i_R_tokenOf_32 : decode (mb 79) 32 = .ok (.iload_n 2, 1) := by decide +kernel
theorem i_R_tokenOf_33 : decode (mb 79) 33 = .ok (.bipush 48, 2) := by decide +kernel
theorem i_R_tokenOf_35 : decode (mb 79) 35 = .ok (.bipush 57, 2) := by decide +kernel
theorem i_R_tokenOf_37 : decode (mb 79) 37 = .ok (.invokestatic 125, 3) := by decide +kernel
theorem i_R_tokenOf_40 : decode (mb 79) 40 = .ok (.ifCond .eq 5, 3) := by decide +kernel
theorem i_R_tokenOf_43 : decode (mb 79) 43 = .ok (.iconst 2, 1) := by decide +kernel
theorem i_R_tokenOf_44 : decode (mb 79) 44 = .ok (.ireturn, 1) := by decide +kernel
theorem i_R_tokenOf_45 : decode (mb 79) 45 = .ok (.iload_n 2, 1) := by decide +kernel
theorem i_R_tokenOf_46 : decode (mb 79) 46 = .ok (.bipush 59, 2) := by decide +kernel
theorem i_R_tokenOf_48 : decode (mb 79) 48 = .ok (.if_icmp .ne 7, 3) := by decide +kernel
theorem i_R_tokenOf_51 : decode (mb 79) 51 = .ok (.iconst 3, 1) := by decide +kernel
theorem i_R_tokenOf_52 : decode (mb 79) 52 = .ok (.goto 4, 3) := by decide +kernel
theorem i_R_tokenOf_55 : decode (mb 79) 55 = .ok (.iconst 4, 1) := by decide +kernel
theorem i_R_tokenOf_56 : decode (mb 79) 56 = .ok (.ireturn, 1) := by decide +kernel
theorem o_R_readStatement : (mn 80).cls = "NeedsALoser$Reader" := by decide +kernel
theorem l_R_readStatement : ml 80 = 2 := by decide +kernel
theorem t_R_readStatement : mr 80 = none := by decide +kernel
theorem i_R_readStatement_0 : decode (mb 80) 0 = .ok (.aload_n 0, 1) := by decide +kernel
theorem i_R_readStatement_1 : decode (mb 80) 1 = .ok (.ldc 45, 2) := by decide +kernel
theorem i_R_readStatement_3 : decode (mb 80) 3 = .ok (.invokevirtual 47, 3) := by decide +kernel
theorem i_R_readStatement_6 : decode (mb 80) 6 = .ok (.ifCond .eq 11, 3) := by decide +kernel
theorem i_R_readStatement_9 : decode (mb 80) 9 = .ok (.aload_n 0, 1) := by decide +kernel
theorem i_R_readStatement_10 : decode (mb 80) 10 = .ok (.aload_n 1, 1) := by decide +kernel
theorem i_R_readStatement_11 : decode (mb 80) 11 = .ok (.invokevirtual 51, 3) := by decide +kernel
theorem i_R_readStatement_14 : decode (mb 80) 14 = .ok (.goto 130, 3) := by decide +kernel
theorem i_R_readStatement_17 : decode (mb 80) 17 = .ok (.aload_n 0, 1) := by decide +kernel
theorem i_R_readStatement_18 : decode (mb 80) 18 = .ok (.ldc 54, 2) := by decide +kernel
theorem i_R_readStatement_20 : decode (mb 80) 20 = .ok (.invokevirtual 47, 3) := by decide +kernel
theorem i_R_readStatement_23 : decode (mb 80) 23 = .ok (.ifCond .eq 11, 3) := by decide +kernel
theorem i_R_readStatement_26 : decode (mb 80) 26 = .ok (.aload_n 0, 1) := by decide +kernel
theorem i_R_readStatement_27 : decode (mb 80) 27 = .ok (.aload_n 1, 1) := by decide +kernel
theorem i_R_readStatement_28 : decode (mb 80) 28 = .ok (.invokevirtual 56, 3) := by decide +kernel
theorem i_R_readStatement_31 : decode (mb 80) 31 = .ok (.goto 113, 3) := by decide +kernel
theorem i_R_readStatement_34 : decode (mb 80) 34 = .ok (.aload_n 0, 1) := by decide +kernel
theorem i_R_readStatement_35 : decode (mb 80) 35 = .ok (.ldc 59, 2) := by decide +kernel
theorem i_R_readStatement_37 : decode (mb 80) 37 = .ok (.invokevirtual 47, 3) := by decide +kernel
theorem i_R_readStatement_40 : decode (mb 80) 40 = .ok (.ifCond .eq 11, 3) := by decide +kernel
theorem i_R_readStatement_43 : decode (mb 80) 43 = .ok (.aload_n 0, 1) := by decide +kernel
theorem i_R_readStatement_44 : decode (mb 80) 44 = .ok (.aload_n 1, 1) := by decide +kernel
theorem i_R_readStatement_45 : decode (mb 80) 45 = .ok (.invokevirtual 61, 3) := by decide +kernel
theorem i_R_readStatement_48 : decode (mb 80) 48 = .ok (.goto 96, 3) := by decide +kernel
theorem i_R_readStatement_51 : decode (mb 80) 51 = .ok (.aload_n 0, 1) := by decide +kernel
theorem i_R_readStatement_52 : decode (mb 80) 52 = .ok (.ldc 64, 2) := by decide +kernel
theorem i_R_readStatement_54 : decode (mb 80) 54 = .ok (.invokevirtual 47, 3) := by decide +kernel
theorem i_R_readStatement_57 : decode (mb 80) 57 = .ok (.ifCond .eq 11, 3) := by decide +kernel
theorem i_R_readStatement_60 : decode (mb 80) 60 = .ok (.aload_n 0, 1) := by decide +kernel
theorem i_R_readStatement_61 : decode (mb 80) 61 = .ok (.aload_n 1, 1) := by decide +kernel
theorem i_R_readStatement_62 : decode (mb 80) 62 = .ok (.invokevirtual 66, 3) := by decide +kernel
theorem i_R_readStatement_65 : decode (mb 80) 65 = .ok (.goto 79, 3) := by decide +kernel
theorem i_R_readStatement_68 : decode (mb 80) 68 = .ok (.aload_n 0, 1) := by decide +kernel
theorem i_R_readStatement_69 : decode (mb 80) 69 = .ok (.ldc 69, 2) := by decide +kernel
theorem i_R_readStatement_71 : decode (mb 80) 71 = .ok (.invokevirtual 47, 3) := by decide +kernel
theorem i_R_readStatement_74 : decode (mb 80) 74 = .ok (.ifCond .eq 12, 3) := by decide +kernel
theorem i_R_readStatement_77 : decode (mb 80) 77 = .ok (.aload_n 0, 1) := by decide +kernel
theorem i_R_readStatement_78 : decode (mb 80) 78 = .ok (.aload_n 1, 1) := by decide +kernel
theorem i_R_readStatement_79 : decode (mb 80) 79 = .ok (.iconst 0, 1) := by decide +kernel
theorem i_R_readStatement_80 : decode (mb 80) 80 = .ok (.invokevirtual 73, 3) := by decide +kernel
theorem i_R_readStatement_83 : decode (mb 80) 83 = .ok (.goto 61, 3) := by decide +kernel
theorem i_R_readStatement_86 : decode (mb 80) 86 = .ok (.aload_n 0, 1) := by decide +kernel
theorem i_R_readStatement_87 : decode (mb 80) 87 = .ok (.ldc 77, 2) := by decide +kernel
theorem i_R_readStatement_89 : decode (mb 80) 89 = .ok (.invokevirtual 47, 3) := by decide +kernel
theorem i_R_readStatement_92 : decode (mb 80) 92 = .ok (.ifCond .eq 12, 3) := by decide +kernel
theorem i_R_readStatement_95 : decode (mb 80) 95 = .ok (.aload_n 0, 1) := by decide +kernel
theorem i_R_readStatement_96 : decode (mb 80) 96 = .ok (.aload_n 1, 1) := by decide +kernel
theorem i_R_readStatement_97 : decode (mb 80) 97 = .ok (.iconst 1, 1) := by decide +kernel
theorem i_R_readStatement_98 : decode (mb 80) 98 = .ok (.invokevirtual 73, 3) := by decide +kernel
theorem i_R_readStatement_101 : decode (mb 80) 101 = .ok (.goto 43, 3) := by decide +kernel
theorem i_R_readStatement_104 : decode (mb 80) 104 = .ok (.aload_n 0, 1) := by decide +kernel
theorem i_R_readStatement_105 : decode (mb 80) 105 = .ok (.ldc 79, 2) := by decide +kernel
theorem i_R_readStatement_107 : decode (mb 80) 107 = .ok (.invokevirtual 47, 3) := by decide +kernel
theorem i_R_readStatement_110 : decode (mb 80) 110 = .ok (.ifCond .eq 12, 3) := by decide +kernel
theorem i_R_readStatement_113 : decode (mb 80) 113 = .ok (.aload_n 0, 1) := by decide +kernel
theorem i_R_readStatement_114 : decode (mb 80) 114 = .ok (.aload_n 1, 1) := by decide +kernel
theorem i_R_readStatement_115 : decode (mb 80) 115 = .ok (.iconst 2, 1) := by decide +kernel
theorem i_R_readStatement_116 : decode (mb 80) 116 = .ok (.invokevirtual 73, 3) := by decide +kernel
theorem i_R_readStatement_119 : decode (mb 80) 119 = .ok (.goto 25, 3) := by decide +kernel
theorem i_R_readStatement_122 : decode (mb 80) 122 = .ok (.aload_n 0, 1) := by decide +kernel
theorem i_R_readStatement_123 : decode (mb 80) 123 = .ok (.ldc 81, 2) := by decide +kernel
theorem i_R_readStatement_125 : decode (mb 80) 125 = .ok (.invokevirtual 47, 3) := by decide +kernel
theorem i_R_readStatement_128 : decode (mb 80) 128 = .ok (.ifCond .eq 12, 3) := by decide +kernel
theorem i_R_readStatement_131 : decode (mb 80) 131 = .ok (.aload_n 0, 1) := by decide +kernel
theorem i_R_readStatement_132 : decode (mb 80) 132 = .ok (.aload_n 1, 1) := by decide +kernel
theorem i_R_readStatement_133 : decode (mb 80) 133 = .ok (.iconst 3, 1) := by decide +kernel
theorem i_R_readStatement_134 : decode (mb 80) 134 = .ok (.invokevirtual 73, 3) := by decide +kernel
theorem i_R_readStatement_137 : decode (mb 80) 137 = .ok (.goto 7, 3) := by decide +kernel
theorem i_R_readStatement_140 : decode (mb 80) 140 = .ok (.aload_n 0, 1) := by decide +kernel
theorem i_R_readStatement_141 : decode (mb 80) 141 = .ok (.invokevirtual 42, 3) := by decide +kernel
theorem i_R_readStatement_144 : decode (mb 80) 144 = .ok (.return_, 1) := by decide +kernel
theorem o_R_isWord : (mn 81).cls = "NeedsALoser$Reader" := by decide +kernel
theorem l_R_isWord : ml 81 = 3 := by decide +kernel
theorem t_R_isWord : mr 81 = some (FieldType.boolean) := by decide +kernel
theorem i_R_isWord_0 : decode (mb 81) 0 = .ok (.aload_n 0, 1) := by decide +kernel
theorem i_R_isWord_1 : decode (mb 81) 1 = .ok (.getfield 22, 3) := by decide +kernel
theorem i_R_isWord_4 : decode (mb 81) 4 = .ok (.iconst 1, 1) := by decide +kernel
theorem i_R_isWord_5 : decode (mb 81) 5 = .ok (.if_icmp .ne 19, 3) := by decide +kernel
theorem i_R_isWord_8 : decode (mb 81) 8 = .ok (.aload_n 0, 1) := by decide +kernel
theorem i_R_isWord_9 : decode (mb 81) 9 = .ok (.getfield 19, 3) := by decide +kernel
theorem i_R_isWord_12 : decode (mb 81) 12 = .ok (.aload_n 0, 1) := by decide +kernel
theorem i_R_isWord_13 : decode (mb 81) 13 = .ok (.getfield 25, 3) := by decide +kernel
theorem i_R_isWord_16 : decode (mb 81) 16 = .ok (.isub, 1) := by decide +kernel
theorem i_R_isWord_17 : decode (mb 81) 17 = .ok (.aload_n 1, 1) := by decide +kernel
theorem i_R_isWord_18 : decode (mb 81) 18 = .ok (.invokevirtual 133, 3) := by decide +kernel
theorem i_R_isWord_21 : decode (mb 81) 21 = .ok (.if_icmp .eq 5, 3) := by decide +kernel
theorem i_R_isWord_24 : decode (mb 81) 24 = .ok (.iconst 0, 1) := by decide +kernel
theorem i_R_isWord_25 : decode (mb 81) 25 = .ok (.ireturn, 1) := by decide +kernel
theorem i_R_isWord_26 : decode (mb 81) 26 = .ok (.iconst 0, 1) := by decide +kernel
theorem i_R_isWord_27 : decode (mb 81) 27 = .ok (.istore_n 2, 1) := by decide +kernel
theorem i_R_isWord_28 : decode (mb 81) 28 = .ok (.iload_n 2, 1) := by decide +kernel
theorem i_R_isWord_29 : decode (mb 81) 29 = .ok (.aload_n 1, 1) := by decide +kernel
theorem i_R_isWord_30 : decode (mb 81) 30 = .ok (.invokevirtual 133, 3) := by decide +kernel
theorem i_R_isWord_33 : decode (mb 81) 33 = .ok (.if_icmp .ge 32, 3) := by decide +kernel
theorem i_R_isWord_36 : decode (mb 81) 36 = .ok (.aload_n 0, 1) := by decide +kernel
theorem i_R_isWord_37 : decode (mb 81) 37 = .ok (.getfield 11, 3) := by decide +kernel
theorem i_R_isWord_40 : decode (mb 81) 40 = .ok (.aload_n 0, 1) := by decide +kernel
theorem i_R_isWord_41 : decode (mb 81) 41 = .ok (.getfield 25, 3) := by decide +kernel
theorem i_R_isWord_44 : decode (mb 81) 44 = .ok (.iload_n 2, 1) := by decide +kernel
theorem i_R_isWord_45 : decode (mb 81) 45 = .ok (.iadd, 1) := by decide +kernel
theorem i_R_isWord_46 : decode (mb 81) 46 = .ok (.invokestatic 129, 3) := by decide +kernel
theorem i_R_isWord_49 : decode (mb 81) 49 = .ok (.aload_n 1, 1) := by decide +kernel
theorem i_R_isWord_50 : decode (mb 81) 50 = .ok (.iload_n 2, 1) := by decide +kernel
theorem i_R_isWord_51 : decode (mb 81) 51 = .ok (.invokevirtual 138, 3) := by decide +kernel
theorem i_R_isWord_54 : decode (mb 81) 54 = .ok (.if_icmp .eq 5, 3) := by decide +kernel
theorem i_R_isWord_57 : decode (mb 81) 57 = .ok (.iconst 0, 1) := by decide +kernel
theorem i_R_isWord_58 : decode (mb 81) 58 = .ok (.ireturn, 1) := by decide +kernel
theorem i_R_isWord_59 : decode (mb 81) 59 = .ok (.iinc 2 1, 3) := by decide +kernel
theorem i_R_isWord_62 : decode (mb 81) 62 = .ok (.goto (-34), 3) := by decide +kernel
theorem i_R_isWord_65 : decode (mb 81) 65 = .ok (.iconst 1, 1) := by decide +kernel
theorem i_R_isWord_66 : decode (mb 81) 66 = .ok (.ireturn, 1) := by decide +kernel
theorem o_JS_length : (mn 82).cls = "java/lang/String" := by decide +kernel
theorem l_JS_length : ml 82 = 1 := by decide +kernel
theorem t_JS_length : mr 82 = some (FieldType.int) := by decide +kernel
theorem i_JS_length_0 : decode (mb 82) 0 = .ok (.aload_n 0, 1) := by decide +kernel
theorem i_JS_length_1 : decode (mb 82) 1 = .ok (.getfield 9, 3) := by decide +kernel
theorem i_JS_length_4 : decode (mb 82) 4 = .ok (.arraylength, 1) := by decide +kernel
theorem i_JS_length_5 : decode (mb 82) 5 = .ok (.aload_n 0, 1) := by decide +kernel
theorem i_JS_length_6 : decode (mb 82) 6 = .ok (.invokevirtual 335, 3) := by decide +kernel
theorem i_JS_length_9 : decode (mb 82) 9 = .ok (.ishr, 1) := by decide +kernel
theorem i_JS_length_10 : decode (mb 82) 10 = .ok (.ireturn, 1) := by decide +kernel
theorem o_JS_coder : (mn 83).cls = "java/lang/String" := by decide +kernel
theorem l_JS_coder : ml 83 = 1 := by decide +kernel
theorem t_JS_coder : mr 83 = some (FieldType.byte) := by decide +kernel
theorem i_JS_coder_0 : decode (mb 83) 0 = .ok (.getstatic 38, 3) := by decide +kernel
theorem i_JS_coder_3 : decode (mb 83) 3 = .ok (.ifCond .eq 10, 3) := by decide +kernel
theorem i_JS_coder_6 : decode (mb 83) 6 = .ok (.aload_n 0, 1) := by decide +kernel
theorem i_JS_coder_7 : decode (mb 83) 7 = .ok (.getfield 15, 3) := by decide +kernel
theorem i_JS_coder_10 : decode (mb 83) 10 = .ok (.goto 4, 3) := by decide +kernel
theorem i_JS_coder_13 : decode (mb 83) 13 = .ok (.iconst 1, 1) := by decide +kernel
theorem i_JS_coder_14 : decode (mb 83) 14 = .ok (.ireturn, 1) := by decide +kernel
theorem o_JS_charAt : (mn 84).cls = "java/lang/String" := by decide +kernel
theorem l_JS_charAt : ml 84 = 2 := by decide +kernel
theorem t_JS_charAt : mr 84 = some (FieldType.char) := by decide +kernel
theorem i_JS_charAt_0 : decode (mb 84) 0 = .ok (.aload_n 0, 1) := by decide +kernel
theorem i_JS_charAt_1 : decode (mb 84) 1 = .ok (.invokevirtual 492, 3) := by decide +kernel
theorem i_JS_charAt_4 : decode (mb 84) 4 = .ok (.ifCond .eq 12, 3) := by decide +kernel
theorem i_JS_charAt_7 : decode (mb 84) 7 = .ok (.aload_n 0, 1) := by decide +kernel
theorem i_JS_charAt_8 : decode (mb 84) 8 = .ok (.getfield 9, 3) := by decide +kernel
theorem i_JS_charAt_11 : decode (mb 84) 11 = .ok (.iload_n 1, 1) := by decide +kernel
theorem i_JS_charAt_12 : decode (mb 84) 12 = .ok (.invokestatic 495, 3) := by decide +kernel
theorem i_JS_charAt_15 : decode (mb 84) 15 = .ok (.ireturn, 1) := by decide +kernel
theorem i_JS_charAt_16 : decode (mb 84) 16 = .ok (.aload_n 0, 1) := by decide +kernel
theorem i_JS_charAt_17 : decode (mb 84) 17 = .ok (.getfield 9, 3) := by decide +kernel
theorem i_JS_charAt_20 : decode (mb 84) 20 = .ok (.iload_n 1, 1) := by decide +kernel
theorem i_JS_charAt_21 : decode (mb 84) 21 = .ok (.invokestatic 498, 3) := by decide +kernel
theorem i_JS_charAt_24 : decode (mb 84) 24 = .ok (.ireturn, 1) := by decide +kernel
theorem o_JS_isLatin1 : (mn 85).cls = "java/lang/String" := by decide +kernel
theorem l_JS_isLatin1 : ml 85 = 1 := by decide +kernel
theorem t_JS_isLatin1 : mr 85 = some (FieldType.boolean) := by decide +kernel
theorem i_JS_isLatin1_0 : decode (mb 85) 0 = .ok (.getstatic 38, 3) := by decide +kernel
theorem i_JS_isLatin1_3 : decode (mb 85) 3 = .ok (.ifCond .eq 14, 3) := by decide +kernel
theorem i_JS_isLatin1_6 : decode (mb 85) 6 = .ok (.aload_n 0, 1) := by decide +kernel
theorem i_JS_isLatin1_7 : decode (mb 85) 7 = .ok (.getfield 15, 3) := by decide +kernel
theorem i_JS_isLatin1_10 : decode (mb 85) 10 = .ok (.ifCond .ne 7, 3) := by decide +kernel
theorem i_JS_isLatin1_13 : decode (mb 85) 13 = .ok (.iconst 1, 1) := by decide +kernel
theorem i_JS_isLatin1_14 : decode (mb 85) 14 = .ok (.goto 4, 3) := by decide +kernel
theorem i_JS_isLatin1_17 : decode (mb 85) 17 = .ok (.iconst 0, 1) := by decide +kernel
theorem i_JS_isLatin1_18 : decode (mb 85) 18 = .ok (.ireturn, 1) := by decide +kernel
theorem o_JL_charAt : (mn 86).cls = "java/lang/StringLatin1" := by decide +kernel
theorem l_JL_charAt : ml 86 = 2 := by decide +kernel
theorem t_JL_charAt : mr 86 = some (FieldType.char) := by decide +kernel
theorem i_JL_charAt_0 : decode (mb 86) 0 = .ok (.iload_n 1, 1) := by decide +kernel
theorem i_JL_charAt_1 : decode (mb 86) 1 = .ok (.aload_n 0, 1) := by decide +kernel
theorem i_JL_charAt_2 : decode (mb 86) 2 = .ok (.arraylength, 1) := by decide +kernel
theorem i_JL_charAt_3 : decode (mb 86) 3 = .ok (.invokestatic 9, 3) := by decide +kernel
theorem i_JL_charAt_6 : decode (mb 86) 6 = .ok (.aload_n 0, 1) := by decide +kernel
theorem i_JL_charAt_7 : decode (mb 86) 7 = .ok (.iload_n 1, 1) := by decide +kernel
theorem i_JL_charAt_8 : decode (mb 86) 8 = .ok (.baload, 1) := by decide +kernel
theorem i_JL_charAt_9 : decode (mb 86) 9 = .ok (.sipush 255, 3) := by decide +kernel
theorem i_JL_charAt_12 : decode (mb 86) 12 = .ok (.iand, 1) := by decide +kernel
theorem i_JL_charAt_13 : decode (mb 86) 13 = .ok (.i2c, 1) := by decide +kernel
theorem i_JL_charAt_14 : decode (mb 86) 14 = .ok (.ireturn, 1) := by decide +kernel
theorem o_JS_checkIndex : (mn 87).cls = "java/lang/String" := by decide +kernel
theorem l_JS_checkIndex : ml 87 = 2 := by decide +kernel
theorem t_JS_checkIndex : mr 87 = none := by decide +kernel
theorem i_JS_checkIndex_0 : decode (mb 87) 0 = .ok (.iload_n 0, 1) := by decide +kernel
theorem i_JS_checkIndex_1 : decode (mb 87) 1 = .ok (.iload_n 1, 1) := by decide +kernel
theorem i_JS_checkIndex_2 : decode (mb 87) 2 = .ok (.getstatic 1053, 3) := by decide +kernel
theorem i_JS_checkIndex_5 : decode (mb 87) 5 = .ok (.invokestatic 1059, 3) := by decide +kernel
theorem i_JS_checkIndex_8 : decode (mb 87) 8 = .ok (.pop, 1) := by decide +kernel
theorem i_JS_checkIndex_9 : decode (mb 87) 9 = .ok (.return_, 1) := by decide +kernel
theorem o_JP_checkIndex : (mn 88).cls = "jdk/internal/util/Preconditions" := by decide +kernel
theorem l_JP_checkIndex : ml 88 = 3 := by decide +kernel
theorem t_JP_checkIndex : mr 88 = some (FieldType.int) := by decide +kernel
theorem i_JP_checkIndex_0 : decode (mb 88) 0 = .ok (.iload_n 0, 1) := by decide +kernel
theorem i_JP_checkIndex_1 : decode (mb 88) 1 = .ok (.ifCond .lt 8, 3) := by decide +kernel
theorem i_JP_checkIndex_4 : decode (mb 88) 4 = .ok (.iload_n 0, 1) := by decide +kernel
theorem i_JP_checkIndex_5 : decode (mb 88) 5 = .ok (.iload_n 1, 1) := by decide +kernel
theorem i_JP_checkIndex_6 : decode (mb 88) 6 = .ok (.if_icmp .lt 10, 3) := by decide +kernel
theorem i_JP_checkIndex_9 : decode (mb 88) 9 = .ok (.aload_n 2, 1) := by decide +kernel
theorem i_JP_checkIndex_10 : decode (mb 88) 10 = .ok (.iload_n 0, 1) := by decide +kernel
theorem i_JP_checkIndex_11 : decode (mb 88) 11 = .ok (.iload_n 1, 1) := by decide +kernel
theorem i_JP_checkIndex_12 : decode (mb 88) 12 = .ok (.invokestatic 95, 3) := by decide +kernel
theorem i_JP_checkIndex_15 : decode (mb 88) 15 = .ok (.athrow, 1) := by decide +kernel
theorem i_JP_checkIndex_16 : decode (mb 88) 16 = .ok (.iload_n 0, 1) := by decide +kernel
theorem i_JP_checkIndex_17 : decode (mb 88) 17 = .ok (.ireturn, 1) := by decide +kernel
theorem o_R_readOne : (mn 93).cls = "NeedsALoser$Reader" := by decide +kernel
theorem l_R_readOne : ml 93 = 2 := by decide +kernel
theorem t_R_readOne : mr 93 = none := by decide +kernel
theorem i_R_readOne_0 : decode (mb 93) 0 = .ok (.aload_n 1, 1) := by decide +kernel
theorem i_R_readOne_1 : decode (mb 93) 1 = .ok (.getfield 83, 3) := by decide +kernel
theorem i_R_readOne_4 : decode (mb 93) 4 = .ok (.bipush 7, 2) := by decide +kernel
theorem i_R_readOne_6 : decode (mb 93) 6 = .ok (.if_icmp .lt 10, 3) := by decide +kernel
theorem i_R_readOne_9 : decode (mb 93) 9 = .ok (.aload_n 0, 1) := by decide +kernel
theorem i_R_readOne_10 : decode (mb 93) 10 = .ok (.invokevirtual 42, 3) := by decide +kernel
theorem i_R_readOne_13 : decode (mb 93) 13 = .ok (.goto 12, 3) := by decide +kernel
theorem i_R_readOne_16 : decode (mb 93) 16 = .ok (.aload_n 1, 1) := by decide +kernel
theorem i_R_readOne_17 : decode (mb 93) 17 = .ok (.invokevirtual 86, 3) := by decide +kernel
theorem i_R_readOne_20 : decode (mb 93) 20 = .ok (.pop, 1) := by decide +kernel
theorem i_R_readOne_21 : decode (mb 93) 21 = .ok (.aload_n 0, 1) := by decide +kernel
theorem i_R_readOne_22 : decode (mb 93) 22 = .ok (.invokevirtual 35, 3) := by decide +kernel
theorem i_R_readOne_25 : decode (mb 93) 25 = .ok (.return_, 1) := by decide +kernel
theorem o_R_fail : (mn 94).cls = "NeedsALoser$Reader" := by decide +kernel
theorem l_R_fail : ml 94 = 1 := by decide +kernel
theorem t_R_fail : mr 94 = none := by decide +kernel
theorem i_R_fail_0 : decode (mb 94) 0 = .ok (.aload_n 0, 1) := by decide +kernel
theorem i_R_fail_1 : decode (mb 94) 1 = .ok (.getfield 28, 3) := by decide +kernel
theorem i_R_fail_4 : decode (mb 94) 4 = .ok (.iconst (-1), 1) := by decide +kernel
theorem i_R_fail_5 : decode (mb 94) 5 = .ok (.if_icmp .ne 11, 3) := by decide +kernel
theorem i_R_fail_8 : decode (mb 94) 8 = .ok (.aload_n 0, 1) := by decide +kernel
theorem i_R_fail_9 : decode (mb 94) 9 = .ok (.aload_n 0, 1) := by decide +kernel
theorem i_R_fail_10 : decode (mb 94) 10 = .ok (.getfield 25, 3) := by decide +kernel
theorem i_R_fail_13 : decode (mb 94) 13 = .ok (.putfield 28, 3) := by decide +kernel
theorem i_R_fail_16 : decode (mb 94) 16 = .ok (.return_, 1) := by decide +kernel
theorem o_R_readDeal : (mn 95).cls = "NeedsALoser$Reader" := by decide +kernel
theorem l_R_readDeal : ml 95 = 10 := by decide +kernel
theorem t_R_readDeal : mr 95 = none := by decide +kernel
theorem i_R_readDeal_0 : decode (mb 95) 0 = .ok (.aload_n 1, 1) := by decide +kernel
theorem i_R_readDeal_1 : decode (mb 95) 1 = .ok (.getfield 90, 3) := by decide +kernel
theorem i_R_readDeal_4 : decode (mb 95) 4 = .ok (.bipush 7, 2) := by decide +kernel
theorem i_R_readDeal_6 : decode (mb 95) 6 = .ok (.if_icmp .lt 8, 3) := by decide +kernel
theorem i_R_readDeal_9 : decode (mb 95) 9 = .ok (.aload_n 0, 1) := by decide +kernel
theorem i_R_readDeal_10 : decode (mb 95) 10 = .ok (.invokevirtual 42, 3) := by decide +kernel
theorem i_R_readDeal_13 : decode (mb 95) 13 = .ok (.return_, 1) := by decide +kernel
theorem i_R_readDeal_14 : decode (mb 95) 14 = .ok (.aload_n 0, 1) := by decide +kernel
theorem i_R_readDeal_15 : decode (mb 95) 15 = .ok (.invokevirtual 35, 3) := by decide +kernel
theorem i_R_readDeal_18 : decode (mb 95) 18 = .ok (.aload_n 0, 1) := by decide +kernel
theorem i_R_readDeal_19 : decode (mb 95) 19 = .ok (.iconst 0, 1) := by decide +kernel
theorem i_R_readDeal_20 : decode (mb 95) 20 = .ok (.aload_n 1, 1) := by decide +kernel
theorem i_R_readDeal_21 : decode (mb 95) 21 = .ok (.getfield 83, 3) := by decide +kernel
theorem i_R_readDeal_24 : decode (mb 95) 24 = .ok (.iconst 1, 1) := by decide +kernel
theorem i_R_readDeal_25 : decode (mb 95) 25 = .ok (.isub, 1) := by decide +kernel
theorem i_R_readDeal_26 : decode (mb 95) 26 = .ok (.iconst (-1), 1) := by decide +kernel
theorem i_R_readDeal_27 : decode (mb 95) 27 = .ok (.invokevirtual 93, 3) := by decide +kernel
theorem i_R_readDeal_30 : decode (mb 95) 30 = .ok (.istore_n 2, 1) := by decide +kernel
theorem i_R_readDeal_31 : decode (mb 95) 31 = .ok (.aload_n 0, 1) := by decide +kernel
theorem i_R_readDeal_32 : decode (mb 95) 32 = .ok (.iconst 0, 1) := by decide +kernel
theorem i_R_readDeal_33 : decode (mb 95) 33 = .ok (.aload_n 1, 1) := by decide +kernel
theorem i_R_readDeal_34 : decode (mb 95) 34 = .ok (.getfield 83, 3) := by decide +kernel
theorem i_R_readDeal_37 : decode (mb 95) 37 = .ok (.iconst 1, 1) := by decide +kernel
theorem i_R_readDeal_38 : decode (mb 95) 38 = .ok (.isub, 1) := by decide +kernel
theorem i_R_readDeal_39 : decode (mb 95) 39 = .ok (.iload_n 2, 1) := by decide +kernel
theorem i_R_readDeal_40 : decode (mb 95) 40 = .ok (.invokevirtual 93, 3) := by decide +kernel
theorem i_R_readDeal_43 : decode (mb 95) 43 = .ok (.istore_n 3, 1) := by decide +kernel
theorem i_R_readDeal_44 : decode (mb 95) 44 = .ok (.aload_n 0, 1) := by decide +kernel
theorem i_R_readDeal_45 : decode (mb 95) 45 = .ok (.iconst 0, 1) := by decide +kernel
theorem i_R_readDeal_46 : decode (mb 95) 46 = .ok (.bipush 99, 2) := by decide +kernel
theorem i_R_readDeal_48 : decode (mb 95) 48 = .ok (.iconst (-1), 1) := by decide +kernel
theorem i_R_readDeal_49 : decode (mb 95) 49 = .ok (.invokevirtual 93, 3) := by decide +kernel
theorem i_R_readDeal_52 : decode (mb 95) 52 = .ok (.istore 4, 2) := by decide +kernel
theorem i_R_readDeal_54 : decode (mb 95) 54 = .ok (.aload_n 0, 1) := by decide +kernel
theorem i_R_readDeal_55 : decode (mb 95) 55 = .ok (.iconst 0, 1) := by decide +kernel
theorem i_R_readDeal_56 : decode (mb 95) 56 = .ok (.bipush 99, 2) := by decide +kernel
theorem i_R_readDeal_58 : decode (mb 95) 58 = .ok (.iconst (-1), 1) := by decide +kernel
theorem i_R_readDeal_59 : decode (mb 95) 59 = .ok (.invokevirtual 93, 3) := by decide +kernel
theorem i_R_readDeal_62 : decode (mb 95) 62 = .ok (.istore 5, 2) := by decide +kernel
theorem i_R_readDeal_64 : decode (mb 95) 64 = .ok (.aload_n 0, 1) := by decide +kernel
theorem i_R_readDeal_65 : decode (mb 95) 65 = .ok (.getfield 28, 3) := by decide +kernel
theorem i_R_readDeal_68 : decode (mb 95) 68 = .ok (.iconst (-1), 1) := by decide +kernel
theorem i_R_readDeal_69 : decode (mb 95) 69 = .ok (.if_icmp .eq 4, 3) := by decide +kernel
theorem i_R_readDeal_72 : decode (mb 95) 72 = .ok (.return_, 1) := by decide +kernel
theorem i_R_readDeal_73 : decode (mb 95) 73 = .ok (.aload_n 1, 1) := by decide +kernel
theorem i_R_readDeal_74 : decode (mb 95) 74 = .ok (.iload_n 2, 1) := by decide +kernel
theorem i_R_readDeal_75 : decode (mb 95) 75 = .ok (.iload_n 3, 1) := by decide +kernel
theorem i_R_readDeal_76 : decode (mb 95) 76 = .ok (.iload 4, 2) := by decide +kernel
theorem i_R_readDeal_78 : decode (mb 95) 78 = .ok (.iload 5, 2) := by decide +kernel
theorem i_R_readDeal_80 : decode (mb 95) 80 = .ok (.invokevirtual 97, 3) := by decide +kernel
theorem i_R_readDeal_83 : decode (mb 95) 83 = .ok (.istore 6, 2) := by decide +kernel
theorem i_R_readDeal_85 : decode (mb 95) 85 = .ok (.iconst 0, 1) := by decide +kernel
theorem i_R_readDeal_86 : decode (mb 95) 86 = .ok (.istore 7, 2) := by decide +kernel
theorem i_R_readDeal_88 : decode (mb 95) 88 = .ok (.iload 7, 2) := by decide +kernel
theorem i_R_readDeal_90 : decode (mb 95) 90 = .ok (.sipush 250, 3) := by decide +kernel
theorem i_R_readDeal_93 : decode (mb 95) 93 = .ok (.if_icmp .ge 72, 3) := by decide +kernel
theorem i_R_readDeal_96 : decode (mb 95) 96 = .ok (.aload_n 0, 1) := by decide +kernel
theorem i_R_readDeal_97 : decode (mb 95) 97 = .ok (.getfield 28, 3) := by decide +kernel
theorem i_R_readDeal_100 : decode (mb 95) 100 = .ok (.iconst (-1), 1) := by decide +kernel
theorem i_R_readDeal_101 : decode (mb 95) 101 = .ok (.if_icmp .ne 64, 3) := by decide +kernel
theorem i_R_readDeal_104 : decode (mb 95) 104 = .ok (.aload_n 0, 1) := by decide +kernel
theorem i_R_readDeal_105 : decode (mb 95) 105 = .ok (.ldc 101, 2) := by decide +kernel
theorem i_R_readDeal_107 : decode (mb 95) 107 = .ok (.invokevirtual 47, 3) := by decide +kernel
theorem i_R_readDeal_110 : decode (mb 95) 110 = .ok (.ifCond .eq 55, 3) := by decide +kernel
theorem i_R_readDeal_113 : decode (mb 95) 113 = .ok (.aload_n 0, 1) := by decide +kernel
theorem i_R_readDeal_114 : decode (mb 95) 114 = .ok (.invokevirtual 35, 3) := by decide +kernel
theorem i_R_readDeal_117 : decode (mb 95) 117 = .ok (.aload_n 0, 1) := by decide +kernel
theorem i_R_readDeal_118 : decode (mb 95) 118 = .ok (.iconst 0, 1) := by decide +kernel
theorem i_R_readDeal_119 : decode (mb 95) 119 = .ok (.aload_n 1, 1) := by decide +kernel
theorem i_R_readDeal_120 : decode (mb 95) 120 = .ok (.getfield 83, 3) := by decide +kernel
theorem i_R_readDeal_123 : decode (mb 95) 123 = .ok (.iconst 1, 1) := by decide +kernel
theorem i_R_readDeal_124 : decode (mb 95) 124 = .ok (.isub, 1) := by decide +kernel
theorem i_R_readDeal_125 : decode (mb 95) 125 = .ok (.iconst (-1), 1) := by decide +kernel
theorem i_R_readDeal_126 : decode (mb 95) 126 = .ok (.invokevirtual 93, 3) := by decide +kernel
theorem i_R_readDeal_129 : decode (mb 95) 129 = .ok (.istore 8, 2) := by decide +kernel
theorem i_R_readDeal_131 : decode (mb 95) 131 = .ok (.aload_n 0, 1) := by decide +kernel
theorem i_R_readDeal_132 : decode (mb 95) 132 = .ok (.iconst 0, 1) := by decide +kernel
theorem i_R_readDeal_133 : decode (mb 95) 133 = .ok (.bipush 99, 2) := by decide +kernel
theorem i_R_readDeal_135 : decode (mb 95) 135 = .ok (.iconst (-1), 1) := by decide +kernel
theorem i_R_readDeal_136 : decode (mb 95) 136 = .ok (.invokevirtual 93, 3) := by decide +kernel
theorem i_R_readDeal_139 : decode (mb 95) 139 = .ok (.istore 9, 2) := by decide +kernel
theorem i_R_readDeal_141 : decode (mb 95) 141 = .ok (.aload_n 0, 1) := by decide +kernel
theorem i_R_readDeal_142 : decode (mb 95) 142 = .ok (.getfield 28, 3) := by decide +kernel
theorem i_R_readDeal_145 : decode (mb 95) 145 = .ok (.iconst (-1), 1) := by decide +kernel
theorem i_R_readDeal_146 : decode (mb 95) 146 = .ok (.if_icmp .ne 13, 3) := by decide +kernel
theorem i_R_readDeal_149 : decode (mb 95) 149 = .ok (.aload_n 1, 1) := by decide +kernel
theorem i_R_readDeal_150 : decode (mb 95) 150 = .ok (.iload 6, 2) := by decide +kernel
theorem i_R_readDeal_152 : decode (mb 95) 152 = .ok (.iload 8, 2) := by decide +kernel
theorem i_R_readDeal_154 : decode (mb 95) 154 = .ok (.iload 9, 2) := by decide +kernel
theorem i_R_readDeal_156 : decode (mb 95) 156 = .ok (.invokevirtual 103, 3) := by decide +kernel
theorem i_R_readDeal_159 : decode (mb 95) 159 = .ok (.iinc 7 1, 3) := by decide +kernel
theorem i_R_readDeal_162 : decode (mb 95) 162 = .ok (.goto (-74), 3) := by decide +kernel
theorem i_R_readDeal_165 : decode (mb 95) 165 = .ok (.return_, 1) := by decide +kernel
theorem o_R_readNumber : (mn 96).cls = "NeedsALoser$Reader" := by decide +kernel
theorem l_R_readNumber : ml 96 = 5 := by decide +kernel
theorem t_R_readNumber : mr 96 = some (FieldType.int) := by decide +kernel
theorem i_R_readNumber_0 : decode (mb 96) 0 = .ok (.aload_n 0, 1) := by decide +kernel
theorem i_R_readNumber_1 : decode (mb 96) 1 = .ok (.getfield 22, 3) := by decide +kernel
theorem i_R_readNumber_4 : decode (mb 96) 4 = .ok (.iconst 2, 1) := by decide +kernel
theorem i_R_readNumber_5 : decode (mb 96) 5 = .ok (.if_icmp .ne 10, 3) := by decide +kernel
theorem i_R_readNumber_8 : decode (mb 96) 8 = .ok (.aload_n 0, 1) := by decide +kernel
theorem i_R_readNumber_9 : decode (mb 96) 9 = .ok (.invokevirtual 122, 3) := by decide +kernel
theorem i_R_readNumber_12 : decode (mb 96) 12 = .ok (.goto 4, 3) := by decide +kernel
theorem i_R_readNumber_15 : decode (mb 96) 15 = .ok (.iconst (-1), 1) := by decide +kernel
theorem i_R_readNumber_16 : decode (mb 96) 16 = .ok (.istore 4, 2) := by decide +kernel
theorem i_R_readNumber_18 : decode (mb 96) 18 = .ok (.iload 4, 2) := by decide +kernel
theorem i_R_readNumber_20 : decode (mb 96) 20 = .ok (.iload_n 1, 1) := by decide +kernel
theorem i_R_readNumber_21 : decode (mb 96) 21 = .ok (.iload_n 2, 1) := by decide +kernel
theorem i_R_readNumber_22 : decode (mb 96) 22 = .ok (.invokestatic 125, 3) := by decide +kernel
theorem i_R_readNumber_25 : decode (mb 96) 25 = .ok (.ifCond .eq 9, 3) := by decide +kernel
theorem i_R_readNumber_28 : decode (mb 96) 28 = .ok (.iload 4, 2) := by decide +kernel
theorem i_R_readNumber_30 : decode (mb 96) 30 = .ok (.iload_n 3, 1) := by decide +kernel
theorem i_R_readNumber_31 : decode (mb 96) 31 = .ok (.if_icmp .ne 9, 3) := by decide +kernel
theorem i_R_readNumber_34 : decode (mb 96) 34 = .ok (.aload_n 0, 1) := by decide +kernel
theorem i_R_readNumber_35 : decode (mb 96) 35 = .ok (.invokevirtual 42, 3) := by decide +kernel
theorem i_R_readNumber_38 : decode (mb 96) 38 = .ok (.iconst (-1), 1) := by decide +kernel
theorem i_R_readNumber_39 : decode (mb 96) 39 = .ok (.ireturn, 1) := by decide +kernel
theorem i_R_readNumber_40 : decode (mb 96) 40 = .ok (.aload_n 0, 1) := by decide +kernel
theorem i_R_readNumber_41 : decode (mb 96) 41 = .ok (.invokevirtual 35, 3) := by decide +kernel
theorem i_R_readNumber_44 : decode (mb 96) 44 = .ok (.iload 4, 2) := by decide +kernel
theorem i_R_readNumber_46 : decode (mb 96) 46 = .ok (.ireturn, 1) := by decide +kernel
theorem o_R_numberHere : (mn 97).cls = "NeedsALoser$Reader" := by decide +kernel
theorem l_R_numberHere : ml 97 = 3 := by decide +kernel
theorem t_R_numberHere : mr 97 = some (FieldType.int) := by decide +kernel
theorem i_R_numberHere_0 : decode (mb 97) 0 = .ok (.aload_n 0, 1) := by decide +kernel
theorem i_R_numberHere_1 : decode (mb 97) 1 = .ok (.getfield 19, 3) := by decide +kernel
theorem i_R_numberHere_4 : decode (mb 97) 4 = .ok (.aload_n 0, 1) := by decide +kernel
theorem i_R_numberHere_5 : decode (mb 97) 5 = .ok (.getfield 25, 3) := by decide +kernel
theorem i_R_numberHere_8 : decode (mb 97) 8 = .ok (.isub, 1) := by decide +kernel
theorem i_R_numberHere_9 : decode (mb 97) 9 = .ok (.iconst 3, 1) := by decide +kernel
theorem i_R_numberHere_10 : decode (mb 97) 10 = .ok (.if_icmp .le 5, 3) := by decide +kernel
theorem i_R_numberHere_13 : decode (mb 97) 13 = .ok (.iconst (-1), 1) := by decide +kernel
theorem i_R_numberHere_14 : decode (mb 97) 14 = .ok (.ireturn, 1) := by decide +kernel
theorem i_R_numberHere_15 : decode (mb 97) 15 = .ok (.iconst 0, 1) := by decide +kernel
theorem i_R_numberHere_16 : decode (mb 97) 16 = .ok (.istore_n 1, 1) := by decide +kernel
theorem i_R_numberHere_17 : decode (mb 97) 17 = .ok (.aload_n 0, 1) := by decide +kernel
theorem i_R_numberHere_18 : decode (mb 97) 18 = .ok (.getfield 25, 3) := by decide +kernel
theorem i_R_numberHere_21 : decode (mb 97) 21 = .ok (.istore_n 2, 1) := by decide +kernel
theorem i_R_numberHere_22 : decode (mb 97) 22 = .ok (.iload_n 2, 1) := by decide +kernel
theorem i_R_numberHere_23 : decode (mb 97) 23 = .ok (.aload_n 0, 1) := by decide +kernel
theorem i_R_numberHere_24 : decode (mb 97) 24 = .ok (.getfield 19, 3) := by decide +kernel
theorem i_R_numberHere_27 : decode (mb 97) 27 = .ok (.if_icmp .ge 26, 3) := by decide +kernel
theorem i_R_numberHere_30 : decode (mb 97) 30 = .ok (.iload_n 1, 1) := by decide +kernel
theorem i_R_numberHere_31 : decode (mb 97) 31 = .ok (.bipush 10, 2) := by decide +kernel
theorem i_R_numberHere_33 : decode (mb 97) 33 = .ok (.imul, 1) := by decide +kernel
theorem i_R_numberHere_34 : decode (mb 97) 34 = .ok (.aload_n 0, 1) := by decide +kernel
theorem i_R_numberHere_35 : decode (mb 97) 35 = .ok (.getfield 11, 3) := by decide +kernel
theorem i_R_numberHere_38 : decode (mb 97) 38 = .ok (.iload_n 2, 1) := by decide +kernel
theorem i_R_numberHere_39 : decode (mb 97) 39 = .ok (.invokestatic 129, 3) := by decide +kernel
theorem i_R_numberHere_42 : decode (mb 97) 42 = .ok (.bipush 48, 2) := by decide +kernel
theorem i_R_numberHere_44 : decode (mb 97) 44 = .ok (.isub, 1) := by decide +kernel
theorem i_R_numberHere_45 : decode (mb 97) 45 = .ok (.iadd, 1) := by decide +kernel
theorem i_R_numberHere_46 : decode (mb 97) 46 = .ok (.istore_n 1, 1) := by decide +kernel
theorem i_R_numberHere_47 : decode (mb 97) 47 = .ok (.iinc 2 1, 3) := by decide +kernel
theorem i_R_numberHere_50 : decode (mb 97) 50 = .ok (.goto (-28), 3) := by decide +kernel
theorem i_R_numberHere_53 : decode (mb 97) 53 = .ok (.iload_n 1, 1) := by decide +kernel
theorem i_R_numberHere_54 : decode (mb 97) 54 = .ok (.ireturn, 1) := by decide +kernel
theorem o_R_readGains : (mn 98).cls = "NeedsALoser$Reader" := by decide +kernel
theorem l_R_readGains : ml 98 = 5 := by decide +kernel
theorem t_R_readGains : mr 98 = none := by decide +kernel
theorem i_R_readGains_0 : decode (mb 98) 0 = .ok (.aload_n 0, 1) := by decide +kernel
theorem i_R_readGains_1 : decode (mb 98) 1 = .ok (.invokevirtual 35, 3) := by decide +kernel
theorem i_R_readGains_4 : decode (mb 98) 4 = .ok (.aload_n 0, 1) := by decide +kernel
theorem i_R_readGains_5 : decode (mb 98) 5 = .ok (.iconst 0, 1) := by decide +kernel
theorem i_R_readGains_6 : decode (mb 98) 6 = .ok (.aload_n 1, 1) := by decide +kernel
theorem i_R_readGains_7 : decode (mb 98) 7 = .ok (.getfield 90, 3) := by decide +kernel
theorem i_R_readGains_10 : decode (mb 98) 10 = .ok (.iconst 1, 1) := by decide +kernel
theorem i_R_readGains_11 : decode (mb 98) 11 = .ok (.isub, 1) := by decide +kernel
theorem i_R_readGains_12 : decode (mb 98) 12 = .ok (.iconst (-1), 1) := by decide +kernel
theorem i_R_readGains_13 : decode (mb 98) 13 = .ok (.invokevirtual 93, 3) := by decide +kernel
theorem i_R_readGains_16 : decode (mb 98) 16 = .ok (.istore_n 2, 1) := by decide +kernel
theorem i_R_readGains_17 : decode (mb 98) 17 = .ok (.aload_n 0, 1) := by decide +kernel
theorem i_R_readGains_18 : decode (mb 98) 18 = .ok (.iconst 0, 1) := by decide +kernel
theorem i_R_readGains_19 : decode (mb 98) 19 = .ok (.aload_n 1, 1) := by decide +kernel
theorem i_R_readGains_20 : decode (mb 98) 20 = .ok (.getfield 83, 3) := by decide +kernel
theorem i_R_readGains_23 : decode (mb 98) 23 = .ok (.iconst 1, 1) := by decide +kernel
theorem i_R_readGains_24 : decode (mb 98) 24 = .ok (.isub, 1) := by decide +kernel
theorem i_R_readGains_25 : decode (mb 98) 25 = .ok (.iconst (-1), 1) := by decide +kernel
theorem i_R_readGains_26 : decode (mb 98) 26 = .ok (.invokevirtual 93, 3) := by decide +kernel
theorem i_R_readGains_29 : decode (mb 98) 29 = .ok (.istore_n 3, 1) := by decide +kernel
theorem i_R_readGains_30 : decode (mb 98) 30 = .ok (.aload_n 0, 1) := by decide +kernel
theorem i_R_readGains_31 : decode (mb 98) 31 = .ok (.iconst 0, 1) := by decide +kernel
theorem i_R_readGains_32 : decode (mb 98) 32 = .ok (.bipush 99, 2) := by decide +kernel
theorem i_R_readGains_34 : decode (mb 98) 34 = .ok (.iconst (-1), 1) := by decide +kernel
theorem i_R_readGains_35 : decode (mb 98) 35 = .ok (.invokevirtual 93, 3) := by decide +kernel
theorem i_R_readGains_38 : decode (mb 98) 38 = .ok (.istore 4, 2) := by decide +kernel
theorem i_R_readGains_40 : decode (mb 98) 40 = .ok (.aload_n 0, 1) := by decide +kernel
theorem i_R_readGains_41 : decode (mb 98) 41 = .ok (.getfield 28, 3) := by decide +kernel
theorem i_R_readGains_44 : decode (mb 98) 44 = .ok (.iconst (-1), 1) := by decide +kernel
theorem i_R_readGains_45 : decode (mb 98) 45 = .ok (.if_icmp .ne 12, 3) := by decide +kernel
theorem i_R_readGains_48 : decode (mb 98) 48 = .ok (.aload_n 1, 1) := by decide +kernel
theorem i_R_readGains_49 : decode (mb 98) 49 = .ok (.iload_n 2, 1) := by decide +kernel
theorem i_R_readGains_50 : decode (mb 98) 50 = .ok (.iload_n 3, 1) := by decide +kernel
theorem i_R_readGains_51 : decode (mb 98) 51 = .ok (.iload 4, 2) := by decide +kernel
theorem i_R_readGains_53 : decode (mb 98) 53 = .ok (.ineg, 1) := by decide +kernel
theorem i_R_readGains_54 : decode (mb 98) 54 = .ok (.invokevirtual 103, 3) := by decide +kernel
theorem i_R_readGains_57 : decode (mb 98) 57 = .ok (.return_, 1) := by decide +kernel
theorem o_R_readBars : (mn 99).cls = "NeedsALoser$Reader" := by decide +kernel
theorem l_R_readBars : ml 99 = 4 := by decide +kernel
theorem t_R_readBars : mr 99 = none := by decide +kernel
theorem i_R_readBars_0 : decode (mb 99) 0 = .ok (.aload_n 0, 1) := by decide +kernel
theorem i_R_readBars_1 : decode (mb 99) 1 = .ok (.invokevirtual 35, 3) := by decide +kernel
theorem i_R_readBars_4 : decode (mb 99) 4 = .ok (.aload_n 0, 1) := by decide +kernel
theorem i_R_readBars_5 : decode (mb 99) 5 = .ok (.iconst 0, 1) := by decide +kernel
theorem i_R_readBars_6 : decode (mb 99) 6 = .ok (.aload_n 1, 1) := by decide +kernel
theorem i_R_readBars_7 : decode (mb 99) 7 = .ok (.getfield 90, 3) := by decide +kernel
theorem i_R_readBars_10 : decode (mb 99) 10 = .ok (.iconst 1, 1) := by decide +kernel
theorem i_R_readBars_11 : decode (mb 99) 11 = .ok (.isub, 1) := by decide +kernel
theorem i_R_readBars_12 : decode (mb 99) 12 = .ok (.iconst (-1), 1) := by decide +kernel
theorem i_R_readBars_13 : decode (mb 99) 13 = .ok (.invokevirtual 93, 3) := by decide +kernel
theorem i_R_readBars_16 : decode (mb 99) 16 = .ok (.istore_n 2, 1) := by decide +kernel
theorem i_R_readBars_17 : decode (mb 99) 17 = .ok (.aload_n 0, 1) := by decide +kernel
theorem i_R_readBars_18 : decode (mb 99) 18 = .ok (.iconst 0, 1) := by decide +kernel
theorem i_R_readBars_19 : decode (mb 99) 19 = .ok (.aload_n 1, 1) := by decide +kernel
theorem i_R_readBars_20 : decode (mb 99) 20 = .ok (.getfield 90, 3) := by decide +kernel
theorem i_R_readBars_23 : decode (mb 99) 23 = .ok (.iconst 1, 1) := by decide +kernel
theorem i_R_readBars_24 : decode (mb 99) 24 = .ok (.isub, 1) := by decide +kernel
theorem i_R_readBars_25 : decode (mb 99) 25 = .ok (.iload_n 2, 1) := by decide +kernel
theorem i_R_readBars_26 : decode (mb 99) 26 = .ok (.invokevirtual 93, 3) := by decide +kernel
theorem i_R_readBars_29 : decode (mb 99) 29 = .ok (.istore_n 3, 1) := by decide +kernel
theorem i_R_readBars_30 : decode (mb 99) 30 = .ok (.aload_n 0, 1) := by decide +kernel
theorem i_R_readBars_31 : decode (mb 99) 31 = .ok (.getfield 28, 3) := by decide +kernel
theorem i_R_readBars_34 : decode (mb 99) 34 = .ok (.iconst (-1), 1) := by decide +kernel
theorem i_R_readBars_35 : decode (mb 99) 35 = .ok (.if_icmp .ne 10, 3) := by decide +kernel
theorem i_R_readBars_38 : decode (mb 99) 38 = .ok (.aload_n 1, 1) := by decide +kernel
theorem i_R_readBars_39 : decode (mb 99) 39 = .ok (.iload_n 2, 1) := by decide +kernel
theorem i_R_readBars_40 : decode (mb 99) 40 = .ok (.iload_n 3, 1) := by decide +kernel
theorem i_R_readBars_41 : decode (mb 99) 41 = .ok (.iconst 1, 1) := by decide +kernel
theorem i_R_readBars_42 : decode (mb 99) 42 = .ok (.invokevirtual 107, 3) := by decide +kernel
theorem i_R_readBars_45 : decode (mb 99) 45 = .ok (.return_, 1) := by decide +kernel
theorem o_R_readLaw : (mn 100).cls = "NeedsALoser$Reader" := by decide +kernel
theorem l_R_readLaw : ml 100 = 4 := by decide +kernel
theorem t_R_readLaw : mr 100 = none := by decide +kernel
theorem i_R_readLaw_0 : decode (mb 100) 0 = .ok (.aload_n 0, 1) := by decide +kernel
theorem i_R_readLaw_1 : decode (mb 100) 1 = .ok (.invokevirtual 35, 3) := by decide +kernel
theorem i_R_readLaw_4 : decode (mb 100) 4 = .ok (.aload_n 0, 1) := by decide +kernel
theorem i_R_readLaw_5 : decode (mb 100) 5 = .ok (.iload_n 2, 1) := by decide +kernel
theorem i_R_readLaw_6 : decode (mb 100) 6 = .ok (.invokestatic 111, 3) := by decide +kernel
theorem i_R_readLaw_9 : decode (mb 100) 9 = .ok (.iload_n 2, 1) := by decide +kernel
theorem i_R_readLaw_10 : decode (mb 100) 10 = .ok (.invokestatic 115, 3) := by decide +kernel
theorem i_R_readLaw_13 : decode (mb 100) 13 = .ok (.iconst (-1), 1) := by decide +kernel
theorem i_R_readLaw_14 : decode (mb 100) 14 = .ok (.invokevirtual 93, 3) := by decide +kernel
theorem i_R_readLaw_17 : decode (mb 100) 17 = .ok (.istore_n 3, 1) := by decide +kernel
theorem i_R_readLaw_18 : decode (mb 100) 18 = .ok (.aload_n 0, 1) := by decide +kernel
theorem i_R_readLaw_19 : decode (mb 100) 19 = .ok (.getfield 28, 3) := by decide +kernel
theorem i_R_readLaw_22 : decode (mb 100) 22 = .ok (.iconst (-1), 1) := by decide +kernel
theorem i_R_readLaw_23 : decode (mb 100) 23 = .ok (.if_icmp .ne 9, 3) := by decide +kernel
theorem i_R_readLaw_26 : decode (mb 100) 26 = .ok (.aload_n 1, 1) := by decide +kernel
theorem i_R_readLaw_27 : decode (mb 100) 27 = .ok (.iload_n 2, 1) := by decide +kernel
theorem i_R_readLaw_28 : decode (mb 100) 28 = .ok (.iload_n 3, 1) := by decide +kernel
theorem i_R_readLaw_29 : decode (mb 100) 29 = .ok (.invokevirtual 118, 3) := by decide +kernel
theorem i_R_readLaw_32 : decode (mb 100) 32 = .ok (.return_, 1) := by decide +kernel
theorem o_N_bargainOf : (mn 101).cls = "NeedsALoser" := by decide +kernel
theorem l_N_bargainOf : ml 101 = 3 := by decide +kernel
theorem t_N_bargainOf : mr 101 = some (FieldType.int) := by decide +kernel
theorem i_N_bargainOf_0 : decode (mb 101) 0 = .ok (.aload_n 0, 1) := by decide +kernel
theorem i_N_bargainOf_1 : decode (mb 101) 1 = .ok (.getfield 10, 3) := by decide +kernel
theorem i_N_bargainOf_4 : decode (mb 101) 4 = .ok (.iload_n 1, 1) := by decide +kernel
theorem i_N_bargainOf_5 : decode (mb 101) 5 = .ok (.invokevirtual 189, 3) := by decide +kernel
theorem i_N_bargainOf_8 : decode (mb 101) 8 = .ok (.ifCond .ne 10, 3) := by decide +kernel
theorem i_N_bargainOf_11 : decode (mb 101) 11 = .ok (.aload_n 0, 1) := by decide +kernel
theorem i_N_bargainOf_12 : decode (mb 101) 12 = .ok (.bipush (-2), 2) := by decide +kernel
theorem i_N_bargainOf_14 : decode (mb 101) 14 = .ok (.invokevirtual 66, 3) := by decide +kernel
theorem i_N_bargainOf_17 : decode (mb 101) 17 = .ok (.ireturn, 1) := by decide +kernel
theorem i_N_bargainOf_18 : decode (mb 101) 18 = .ok (.iload_n 2, 1) := by decide +kernel
theorem i_N_bargainOf_19 : decode (mb 101) 19 = .ok (.tableswitch 90 0 4 #[33, 45, 57, 69, 81], 33) := by decide +kernel
theorem i_N_bargainOf_52 : decode (mb 101) 52 = .ok (.aload_n 0, 1) := by decide +kernel
theorem i_N_bargainOf_53 : decode (mb 101) 53 = .ok (.getfield 10, 3) := by decide +kernel
theorem i_N_bargainOf_56 : decode (mb 101) 56 = .ok (.getfield 192, 3) := by decide +kernel
theorem i_N_bargainOf_59 : decode (mb 101) 59 = .ok (.iload_n 1, 1) := by decide +kernel
theorem i_N_bargainOf_60 : decode (mb 101) 60 = .ok (.invokestatic 195, 3) := by decide +kernel
theorem i_N_bargainOf_63 : decode (mb 101) 63 = .ok (.ireturn, 1) := by decide +kernel
theorem i_N_bargainOf_64 : decode (mb 101) 64 = .ok (.aload_n 0, 1) := by decide +kernel
theorem i_N_bargainOf_65 : decode (mb 101) 65 = .ok (.getfield 10, 3) := by decide +kernel
theorem i_N_bargainOf_68 : decode (mb 101) 68 = .ok (.getfield 199, 3) := by decide +kernel
theorem i_N_bargainOf_71 : decode (mb 101) 71 = .ok (.iload_n 1, 1) := by decide +kernel
theorem i_N_bargainOf_72 : decode (mb 101) 72 = .ok (.invokestatic 195, 3) := by decide +kernel
theorem i_N_bargainOf_75 : decode (mb 101) 75 = .ok (.ireturn, 1) := by decide +kernel
theorem i_N_bargainOf_76 : decode (mb 101) 76 = .ok (.aload_n 0, 1) := by decide +kernel
theorem i_N_bargainOf_77 : decode (mb 101) 77 = .ok (.getfield 10, 3) := by decide +kernel
theorem i_N_bargainOf_80 : decode (mb 101) 80 = .ok (.getfield 202, 3) := by decide +kernel
theorem i_N_bargainOf_83 : decode (mb 101) 83 = .ok (.iload_n 1, 1) := by decide +kernel
theorem i_N_bargainOf_84 : decode (mb 101) 84 = .ok (.invokestatic 195, 3) := by decide +kernel
theorem i_N_bargainOf_87 : decode (mb 101) 87 = .ok (.ireturn, 1) := by decide +kernel
theorem i_N_bargainOf_88 : decode (mb 101) 88 = .ok (.aload_n 0, 1) := by decide +kernel
theorem i_N_bargainOf_89 : decode (mb 101) 89 = .ok (.getfield 10, 3) := by decide +kernel
theorem i_N_bargainOf_92 : decode (mb 101) 92 = .ok (.getfield 205, 3) := by decide +kernel
theorem i_N_bargainOf_95 : decode (mb 101) 95 = .ok (.iload_n 1, 1) := by decide +kernel
theorem i_N_bargainOf_96 : decode (mb 101) 96 = .ok (.invokestatic 195, 3) := by decide +kernel
theorem i_N_bargainOf_99 : decode (mb 101) 99 = .ok (.ireturn, 1) := by decide +kernel
theorem i_N_bargainOf_100 : decode (mb 101) 100 = .ok (.aload_n 0, 1) := by decide +kernel
theorem i_N_bargainOf_101 : decode (mb 101) 101 = .ok (.getfield 10, 3) := by decide +kernel
theorem i_N_bargainOf_104 : decode (mb 101) 104 = .ok (.iload_n 1, 1) := by decide +kernel
theorem i_N_bargainOf_105 : decode (mb 101) 105 = .ok (.invokevirtual 148, 3) := by decide +kernel
theorem i_N_bargainOf_108 : decode (mb 101) 108 = .ok (.ireturn, 1) := by decide +kernel
theorem i_N_bargainOf_109 : decode (mb 101) 109 = .ok (.aload_n 0, 1) := by decide +kernel
theorem i_N_bargainOf_110 : decode (mb 101) 110 = .ok (.bipush (-2), 2) := by decide +kernel
theorem i_N_bargainOf_112 : decode (mb 101) 112 = .ok (.invokevirtual 66, 3) := by decide +kernel
theorem i_N_bargainOf_115 : decode (mb 101) 115 = .ok (.ireturn, 1) := by decide +kernel
theorem o_N_lossOf : (mn 102).cls = "NeedsALoser" := by decide +kernel
theorem l_N_lossOf : ml 102 = 3 := by decide +kernel
theorem t_N_lossOf : mr 102 = some (FieldType.int) := by decide +kernel
theorem i_N_lossOf_0 : decode (mb 102) 0 = .ok (.aload_n 0, 1) := by decide +kernel
theorem i_N_lossOf_1 : decode (mb 102) 1 = .ok (.getfield 10, 3) := by decide +kernel
theorem i_N_lossOf_4 : decode (mb 102) 4 = .ok (.iload_n 1, 1) := by decide +kernel
theorem i_N_lossOf_5 : decode (mb 102) 5 = .ok (.iload_n 2, 1) := by decide +kernel
theorem i_N_lossOf_6 : decode (mb 102) 6 = .ok (.invokevirtual 139, 3) := by decide +kernel
theorem i_N_lossOf_9 : decode (mb 102) 9 = .ok (.ifCond .eq 15, 3) := by decide +kernel
theorem i_N_lossOf_12 : decode (mb 102) 12 = .ok (.aload_n 0, 1) := by decide +kernel
theorem i_N_lossOf_13 : decode (mb 102) 13 = .ok (.getfield 10, 3) := by decide +kernel
theorem i_N_lossOf_16 : decode (mb 102) 16 = .ok (.iload_n 1, 1) := by decide +kernel
theorem i_N_lossOf_17 : decode (mb 102) 17 = .ok (.iload_n 2, 1) := by decide +kernel
theorem i_N_lossOf_18 : decode (mb 102) 18 = .ok (.invokevirtual 208, 3) := by decide +kernel
theorem i_N_lossOf_21 : decode (mb 102) 21 = .ok (.goto 9, 3) := by decide +kernel
theorem i_N_lossOf_24 : decode (mb 102) 24 = .ok (.aload_n 0, 1) := by decide +kernel
theorem i_N_lossOf_25 : decode (mb 102) 25 = .ok (.bipush (-2), 2) := by decide +kernel
theorem i_N_lossOf_27 : decode (mb 102) 27 = .ok (.invokevirtual 212, 3) := by decide +kernel
theorem i_N_lossOf_30 : decode (mb 102) 30 = .ok (.ireturn, 1) := by decide +kernel
theorem o_N_refuseBelow : (mn 103).cls = "NeedsALoser" := by decide +kernel
theorem l_N_refuseBelow : ml 103 = 2 := by decide +kernel
theorem t_N_refuseBelow : mr 103 = some (FieldType.int) := by decide +kernel
theorem i_N_refuseBelow_0 : decode (mb 103) 0 = .ok (.ldc_w 343, 3) := by decide +kernel
theorem i_N_refuseBelow_3 : decode (mb 103) 3 = .ok (.aload_n 0, 1) := by decide +kernel
theorem i_N_refuseBelow_4 : decode (mb 103) 4 = .ok (.iload_n 1, 1) := by decide +kernel
theorem i_N_refuseBelow_5 : decode (mb 103) 5 = .ok (.invokevirtual 66, 3) := by decide +kernel
theorem i_N_refuseBelow_8 : decode (mb 103) 8 = .ok (.iadd, 1) := by decide +kernel
theorem i_N_refuseBelow_9 : decode (mb 103) 9 = .ok (.ireturn, 1) := by decide +kernel
theorem o_N_standing : (mn 104).cls = "NeedsALoser" := by decide +kernel
theorem l_N_standing : ml 104 = 2 := by decide +kernel
theorem t_N_standing : mr 104 = some (FieldType.int) := by decide +kernel
theorem i_N_standing_0 : decode (mb 104) 0 = .ok (.aload_n 0, 1) := by decide +kernel
theorem i_N_standing_1 : decode (mb 104) 1 = .ok (.getfield 10, 3) := by decide +kernel
theorem i_N_standing_4 : decode (mb 104) 4 = .ok (.iload_n 1, 1) := by decide +kernel
theorem i_N_standing_5 : decode (mb 104) 5 = .ok (.invokevirtual 131, 3) := by decide +kernel
theorem i_N_standing_8 : decode (mb 104) 8 = .ok (.ifCond .eq 17, 3) := by decide +kernel
theorem i_N_standing_11 : decode (mb 104) 11 = .ok (.aload_n 0, 1) := by decide +kernel
theorem i_N_standing_12 : decode (mb 104) 12 = .ok (.getfield 10, 3) := by decide +kernel
theorem i_N_standing_15 : decode (mb 104) 15 = .ok (.getfield 215, 3) := by decide +kernel
theorem i_N_standing_18 : decode (mb 104) 18 = .ok (.iload_n 1, 1) := by decide +kernel
theorem i_N_standing_19 : decode (mb 104) 19 = .ok (.invokestatic 195, 3) := by decide +kernel
theorem i_N_standing_22 : decode (mb 104) 22 = .ok (.goto 9, 3) := by decide +kernel
theorem i_N_standing_25 : decode (mb 104) 25 = .ok (.aload_n 0, 1) := by decide +kernel
theorem i_N_standing_26 : decode (mb 104) 26 = .ok (.bipush (-2), 2) := by decide +kernel
theorem i_N_standing_28 : decode (mb 104) 28 = .ok (.invokevirtual 212, 3) := by decide +kernel
theorem i_N_standing_31 : decode (mb 104) 31 = .ok (.ireturn, 1) := by decide +kernel
theorem o_N_good : (mn 105).cls = "NeedsALoser" := by decide +kernel
theorem l_N_good : ml 105 = 2 := by decide +kernel
theorem t_N_good : mr 105 = some (FieldType.int) := by decide +kernel
theorem i_N_good_0 : decode (mb 105) 0 = .ok (.aload_n 0, 1) := by decide +kernel
theorem i_N_good_1 : decode (mb 105) 1 = .ok (.getfield 10, 3) := by decide +kernel
theorem i_N_good_4 : decode (mb 105) 4 = .ok (.iload_n 1, 1) := by decide +kernel
theorem i_N_good_5 : decode (mb 105) 5 = .ok (.invokevirtual 189, 3) := by decide +kernel
theorem i_N_good_8 : decode (mb 105) 8 = .ok (.ifCond .eq 14, 3) := by decide +kernel
theorem i_N_good_11 : decode (mb 105) 11 = .ok (.aload_n 0, 1) := by decide +kernel
theorem i_N_good_12 : decode (mb 105) 12 = .ok (.getfield 10, 3) := by decide +kernel
theorem i_N_good_15 : decode (mb 105) 15 = .ok (.iload_n 1, 1) := by decide +kernel
theorem i_N_good_16 : decode (mb 105) 16 = .ok (.invokevirtual 218, 3) := by decide +kernel
theorem i_N_good_19 : decode (mb 105) 19 = .ok (.goto 9, 3) := by decide +kernel
theorem i_N_good_22 : decode (mb 105) 22 = .ok (.aload_n 0, 1) := by decide +kernel
theorem i_N_good_23 : decode (mb 105) 23 = .ok (.bipush (-2), 2) := by decide +kernel
theorem i_N_good_25 : decode (mb 105) 25 = .ok (.invokevirtual 66, 3) := by decide +kernel
theorem i_N_good_28 : decode (mb 105) 28 = .ok (.ireturn, 1) := by decide +kernel
theorem o_N_value : (mn 106).cls = "NeedsALoser" := by decide +kernel
theorem l_N_value : ml 106 = 3 := by decide +kernel
theorem t_N_value : mr 106 = some (FieldType.int) := by decide +kernel
theorem i_N_value_0 : decode (mb 106) 0 = .ok (.aload_n 0, 1) := by decide +kernel
theorem i_N_value_1 : decode (mb 106) 1 = .ok (.getfield 10, 3) := by decide +kernel
theorem i_N_value_4 : decode (mb 106) 4 = .ok (.iload_n 1, 1) := by decide +kernel
theorem i_N_value_5 : decode (mb 106) 5 = .ok (.iload_n 2, 1) := by decide +kernel
theorem i_N_value_6 : decode (mb 106) 6 = .ok (.invokevirtual 139, 3) := by decide +kernel
theorem i_N_value_9 : decode (mb 106) 9 = .ok (.ifCond .ne 10, 3) := by decide +kernel
theorem i_N_value_12 : decode (mb 106) 12 = .ok (.aload_n 0, 1) := by decide +kernel
theorem i_N_value_13 : decode (mb 106) 13 = .ok (.bipush (-2), 2) := by decide +kernel
theorem i_N_value_15 : decode (mb 106) 15 = .ok (.invokevirtual 212, 3) := by decide +kernel
theorem i_N_value_18 : decode (mb 106) 18 = .ok (.ireturn, 1) := by decide +kernel
theorem i_N_value_19 : decode (mb 106) 19 = .ok (.aload_n 0, 1) := by decide +kernel
theorem i_N_value_20 : decode (mb 106) 20 = .ok (.getfield 10, 3) := by decide +kernel
theorem i_N_value_23 : decode (mb 106) 23 = .ok (.iload_n 1, 1) := by decide +kernel
theorem i_N_value_24 : decode (mb 106) 24 = .ok (.iload_n 2, 1) := by decide +kernel
theorem i_N_value_25 : decode (mb 106) 25 = .ok (.invokevirtual 221, 3) := by decide +kernel
theorem i_N_value_28 : decode (mb 106) 28 = .ok (.ifCond .eq 15, 3) := by decide +kernel
theorem i_N_value_31 : decode (mb 106) 31 = .ok (.aload_n 0, 1) := by decide +kernel
theorem i_N_value_32 : decode (mb 106) 32 = .ok (.getfield 10, 3) := by decide +kernel
theorem i_N_value_35 : decode (mb 106) 35 = .ok (.iload_n 1, 1) := by decide +kernel
theorem i_N_value_36 : decode (mb 106) 36 = .ok (.iload_n 2, 1) := by decide +kernel
theorem i_N_value_37 : decode (mb 106) 37 = .ok (.invokevirtual 224, 3) := by decide +kernel
theorem i_N_value_40 : decode (mb 106) 40 = .ok (.goto 9, 3) := by decide +kernel
theorem i_N_value_43 : decode (mb 106) 43 = .ok (.aload_n 0, 1) := by decide +kernel
theorem i_N_value_44 : decode (mb 106) 44 = .ok (.bipush (-5), 2) := by decide +kernel
theorem i_N_value_46 : decode (mb 106) 46 = .ok (.invokevirtual 212, 3) := by decide +kernel
theorem i_N_value_49 : decode (mb 106) 49 = .ok (.ireturn, 1) := by decide +kernel
theorem o_N_name : (mn 107).cls = "NeedsALoser" := by decide +kernel
theorem l_N_name : ml 107 = 5 := by decide +kernel
theorem t_N_name : mr 107 = some (FieldType.int) := by decide +kernel
theorem i_N_name_0 : decode (mb 107) 0 = .ok (.iload_n 1, 1) := by decide +kernel
theorem i_N_name_1 : decode (mb 107) 1 = .ok (.bipush 8, 2) := by decide +kernel
theorem i_N_name_3 : decode (mb 107) 3 = .ok (.invokestatic 58, 3) := by decide +kernel
theorem i_N_name_6 : decode (mb 107) 6 = .ok (.ifCond .eq 30, 3) := by decide +kernel
theorem i_N_name_9 : decode (mb 107) 9 = .ok (.aload_n 0, 1) := by decide +kernel
theorem i_N_name_10 : decode (mb 107) 10 = .ok (.getfield 10, 3) := by decide +kernel
theorem i_N_name_13 : decode (mb 107) 13 = .ok (.iload_n 2, 1) := by decide +kernel
theorem i_N_name_14 : decode (mb 107) 14 = .ok (.invokevirtual 189, 3) := by decide +kernel
theorem i_N_name_17 : decode (mb 107) 17 = .ok (.ifCond .eq 19, 3) := by decide +kernel
theorem i_N_name_20 : decode (mb 107) 20 = .ok (.iload_n 3, 1) := by decide +kernel
theorem i_N_name_21 : decode (mb 107) 21 = .ok (.iconst 1, 1) := by decide +kernel
theorem i_N_name_22 : decode (mb 107) 22 = .ok (.aload_n 0, 1) := by decide +kernel
theorem i_N_name_23 : decode (mb 107) 23 = .ok (.getfield 10, 3) := by decide +kernel
theorem i_N_name_26 : decode (mb 107) 26 = .ok (.getfield 124, 3) := by decide +kernel
theorem i_N_name_29 : decode (mb 107) 29 = .ok (.ishl, 1) := by decide +kernel
theorem i_N_name_30 : decode (mb 107) 30 = .ok (.invokestatic 58, 3) := by decide +kernel
theorem i_N_name_33 : decode (mb 107) 33 = .ok (.ifCond .ne 10, 3) := by decide +kernel
theorem i_N_name_36 : decode (mb 107) 36 = .ok (.aload_n 0, 1) := by decide +kernel
theorem i_N_name_37 : decode (mb 107) 37 = .ok (.bipush (-2), 2) := by decide +kernel
theorem i_N_name_39 : decode (mb 107) 39 = .ok (.invokevirtual 66, 3) := by decide +kernel
theorem i_N_name_42 : decode (mb 107) 42 = .ok (.ireturn, 1) := by decide +kernel
theorem i_N_name_43 : decode (mb 107) 43 = .ok (.aload_n 0, 1) := by decide +kernel
theorem i_N_name_44 : decode (mb 107) 44 = .ok (.getfield 29, 3) := by decide +kernel
theorem i_N_name_47 : decode (mb 107) 47 = .ok (.iload_n 1, 1) := by decide +kernel
theorem i_N_name_48 : decode (mb 107) 48 = .ok (.invokevirtual 104, 3) := by decide +kernel
theorem i_N_name_51 : decode (mb 107) 51 = .ok (.istore 4, 2) := by decide +kernel
theorem i_N_name_53 : decode (mb 107) 53 = .ok (.iload 4, 2) := by decide +kernel
theorem i_N_name_55 : decode (mb 107) 55 = .ok (.ifCond .ne 13, 3) := by decide +kernel
theorem i_N_name_58 : decode (mb 107) 58 = .ok (.aload_n 0, 1) := by decide +kernel
theorem i_N_name_59 : decode (mb 107) 59 = .ok (.iload_n 1, 1) := by decide +kernel
theorem i_N_name_60 : decode (mb 107) 60 = .ok (.iload_n 2, 1) := by decide +kernel
theorem i_N_name_61 : decode (mb 107) 61 = .ok (.iload_n 3, 1) := by decide +kernel
theorem i_N_name_62 : decode (mb 107) 62 = .ok (.invokevirtual 120, 3) := by decide +kernel
theorem i_N_name_65 : decode (mb 107) 65 = .ok (.goto 9, 3) := by decide +kernel
theorem i_N_name_68 : decode (mb 107) 68 = .ok (.aload_n 0, 1) := by decide +kernel
theorem i_N_name_69 : decode (mb 107) 69 = .ok (.iload 4, 2) := by decide +kernel
theorem i_N_name_71 : decode (mb 107) 71 = .ok (.invokevirtual 66, 3) := by decide +kernel
theorem i_N_name_74 : decode (mb 107) 74 = .ok (.ireturn, 1) := by decide +kernel
theorem o_N_judge : (mn 108).cls = "NeedsALoser" := by decide +kernel
theorem l_N_judge : ml 108 = 3 := by decide +kernel
theorem t_N_judge : mr 108 = some (FieldType.int) := by decide +kernel
theorem i_N_judge_0 : decode (mb 108) 0 = .ok (.aload_n 0, 1) := by decide +kernel
theorem i_N_judge_1 : decode (mb 108) 1 = .ok (.iload_n 1, 1) := by decide +kernel
theorem i_N_judge_2 : decode (mb 108) 2 = .ok (.invokevirtual 227, 3) := by decide +kernel
theorem i_N_judge_5 : decode (mb 108) 5 = .ok (.istore_n 2, 1) := by decide +kernel
theorem i_N_judge_6 : decode (mb 108) 6 = .ok (.iload_n 2, 1) := by decide +kernel
theorem i_N_judge_7 : decode (mb 108) 7 = .ok (.ifCond .ne 22, 3) := by decide +kernel
theorem i_N_judge_10 : decode (mb 108) 10 = .ok (.aload_n 0, 1) := by decide +kernel
theorem i_N_judge_11 : decode (mb 108) 11 = .ok (.getfield 43, 3) := by decide +kernel
theorem i_N_judge_14 : decode (mb 108) 14 = .ok (.aload_n 0, 1) := by decide +kernel
theorem i_N_judge_15 : decode (mb 108) 15 = .ok (.getfield 10, 3) := by decide +kernel
theorem i_N_judge_18 : decode (mb 108) 18 = .ok (.aload_n 0, 1) := by decide +kernel
theorem i_N_judge_19 : decode (mb 108) 19 = .ok (.getfield 29, 3) := by decide +kernel
theorem i_N_judge_22 : decode (mb 108) 22 = .ok (.iload_n 1, 1) := by decide +kernel
theorem i_N_judge_23 : decode (mb 108) 23 = .ok (.invokevirtual 230, 3) := by decide +kernel
theorem i_N_judge_26 : decode (mb 108) 26 = .ok (.goto 8, 3) := by decide +kernel
theorem i_N_judge_29 : decode (mb 108) 29 = .ok (.aload_n 0, 1) := by decide +kernel
theorem i_N_judge_30 : decode (mb 108) 30 = .ok (.iload_n 2, 1) := by decide +kernel
theorem i_N_judge_31 : decode (mb 108) 31 = .ok (.invokevirtual 66, 3) := by decide +kernel
theorem i_N_judge_34 : decode (mb 108) 34 = .ok (.ireturn, 1) := by decide +kernel
theorem o_N_toldRefusal : (mn 109).cls = "NeedsALoser" := by decide +kernel
theorem l_N_toldRefusal : ml 109 = 3 := by decide +kernel
theorem t_N_toldRefusal : mr 109 = some (FieldType.int) := by decide +kernel
theorem i_N_toldRefusal_0 : decode (mb 109) 0 = .ok (.aload_n 0, 1) := by decide +kernel
theorem i_N_toldRefusal_1 : decode (mb 109) 1 = .ok (.getfield 29, 3) := by decide +kernel
theorem i_N_toldRefusal_4 : decode (mb 109) 4 = .ok (.iload_n 1, 1) := by decide +kernel
theorem i_N_toldRefusal_5 : decode (mb 109) 5 = .ok (.invokevirtual 74, 3) := by decide +kernel
theorem i_N_toldRefusal_8 : decode (mb 109) 8 = .ok (.istore_n 2, 1) := by decide +kernel
theorem i_N_toldRefusal_9 : decode (mb 109) 9 = .ok (.iload_n 2, 1) := by decide +kernel
theorem i_N_toldRefusal_10 : decode (mb 109) 10 = .ok (.ifCond .ne 26, 3) := by decide +kernel
theorem i_N_toldRefusal_13 : decode (mb 109) 13 = .ok (.aload_n 0, 1) := by decide +kernel
theorem i_N_toldRefusal_14 : decode (mb 109) 14 = .ok (.getfield 29, 3) := by decide +kernel
theorem i_N_toldRefusal_17 : decode (mb 109) 17 = .ok (.iload_n 1, 1) := by decide +kernel
theorem i_N_toldRefusal_18 : decode (mb 109) 18 = .ok (.invokevirtual 77, 3) := by decide +kernel
theorem i_N_toldRefusal_21 : decode (mb 109) 21 = .ok (.aload_n 0, 1) := by decide +kernel
theorem i_N_toldRefusal_22 : decode (mb 109) 22 = .ok (.getfield 10, 3) := by decide +kernel
theorem i_N_toldRefusal_25 : decode (mb 109) 25 = .ok (.getfield 113, 3) := by decide +kernel
theorem i_N_toldRefusal_28 : decode (mb 109) 28 = .ok (.if_icmp .ge 8, 3) := by decide +kernel
theorem i_N_toldRefusal_31 : decode (mb 109) 31 = .ok (.bipush (-2), 2) := by decide +kernel
theorem i_N_toldRefusal_33 : decode (mb 109) 33 = .ok (.goto 4, 3) := by decide +kernel
theorem i_N_toldRefusal_36 : decode (mb 109) 36 = .ok (.iload_n 2, 1) := by decide +kernel
theorem i_N_toldRefusal_37 : decode (mb 109) 37 = .ok (.ireturn, 1) := by decide +kernel
theorem o_W_fillTold : (mn 110).cls = "NeedsALoser$Week" := by decide +kernel
theorem l_W_fillTold : ml 110 = 7 := by decide +kernel
theorem t_W_fillTold : mr 110 = some (FieldType.int) := by decide +kernel
theorem i_W_fillTold_0 : decode (mb 110) 0 = .ok (.aload_n 0, 1) := by decide +kernel
theorem i_W_fillTold_1 : decode (mb 110) 1 = .ok (.invokevirtual 22, 3) := by decide +kernel
theorem i_W_fillTold_4 : decode (mb 110) 4 = .ok (.iconst 0, 1) := by decide +kernel
theorem i_W_fillTold_5 : decode (mb 110) 5 = .ok (.istore 4, 2) := by decide +kernel
theorem i_W_fillTold_7 : decode (mb 110) 7 = .ok (.iload 4, 2) := by decide +kernel
theorem i_W_fillTold_9 : decode (mb 110) 9 = .ok (.aload_n 1, 1) := by decide +kernel
theorem i_W_fillTold_10 : decode (mb 110) 10 = .ok (.getfield 25, 3) := by decide +kernel
theorem i_W_fillTold_13 : decode (mb 110) 13 = .ok (.if_icmp .ge 77, 3) := by decide +kernel
theorem i_W_fillTold_16 : decode (mb 110) 16 = .ok (.aload_n 2, 1) := by decide +kernel
theorem i_W_fillTold_17 : decode (mb 110) 17 = .ok (.iload_n 3, 1) := by decide +kernel
theorem i_W_fillTold_18 : decode (mb 110) 18 = .ok (.iload 4, 2) := by decide +kernel
theorem i_W_fillTold_20 : decode (mb 110) 20 = .ok (.invokevirtual 30, 3) := by decide +kernel
theorem i_W_fillTold_23 : decode (mb 110) 23 = .ok (.lstore 5, 2) := by decide +kernel
theorem i_W_fillTold_25 : decode (mb 110) 25 = .ok (.lload 5, 2) := by decide +kernel
theorem i_W_fillTold_27 : decode (mb 110) 27 = .ok (.lconst 0, 1) := by decide +kernel
theorem i_W_fillTold_28 : decode (mb 110) 28 = .ok (.lcmp, 1) := by decide +kernel
theorem i_W_fillTold_29 : decode (mb 110) 29 = .ok (.ifCond .lt 55, 3) := by decide +kernel
theorem i_W_fillTold_32 : decode (mb 110) 32 = .ok (.lload 5, 2) := by decide +kernel
theorem i_W_fillTold_34 : decode (mb 110) 34 = .ok (.aload_n 1, 1) := by decide +kernel
theorem i_W_fillTold_35 : decode (mb 110) 35 = .ok (.getfield 36, 3) := by decide +kernel
theorem i_W_fillTold_38 : decode (mb 110) 38 = .ok (.i2l, 1) := by decide +kernel
theorem i_W_fillTold_39 : decode (mb 110) 39 = .ok (.lcmp, 1) := by decide +kernel
theorem i_W_fillTold_40 : decode (mb 110) 40 = .ok (.ifCond .ge 44, 3) := by decide +kernel
theorem i_W_fillTold_43 : decode (mb 110) 43 = .ok (.aload_n 0, 1) := by decide +kernel
theorem i_W_fillTold_44 : decode (mb 110) 44 = .ok (.aload_n 1, 1) := by decide +kernel
theorem i_W_fillTold_45 : decode (mb 110) 45 = .ok (.iload 4, 2) := by decide +kernel
theorem i_W_fillTold_47 : decode (mb 110) 47 = .ok (.invokevirtual 39, 3) := by decide +kernel
theorem i_W_fillTold_50 : decode (mb 110) 50 = .ok (.ifCond .ne 22, 3) := by decide +kernel
theorem i_W_fillTold_53 : decode (mb 110) 53 = .ok (.aload_n 1, 1) := by decide +kernel
theorem i_W_fillTold_54 : decode (mb 110) 54 = .ok (.iload 4, 2) := by decide +kernel
theorem i_W_fillTold_56 : decode (mb 110) 56 = .ok (.aload_n 0, 1) := by decide +kernel
theorem i_W_fillTold_57 : decode (mb 110) 57 = .ok (.getfield 19, 3) := by decide +kernel
theorem i_W_fillTold_60 : decode (mb 110) 60 = .ok (.invokevirtual 43, 3) := by decide +kernel
theorem i_W_fillTold_63 : decode (mb 110) 63 = .ok (.lload 5, 2) := by decide +kernel
theorem i_W_fillTold_65 : decode (mb 110) 65 = .ok (.l2i, 1) := by decide +kernel
theorem i_W_fillTold_66 : decode (mb 110) 66 = .ok (.invokestatic 47, 3) := by decide +kernel
theorem i_W_fillTold_69 : decode (mb 110) 69 = .ok (.ifCond .ne 6, 3) := by decide +kernel
theorem i_W_fillTold_72 : decode (mb 110) 72 = .ok (.iload 4, 2) := by decide +kernel
theorem i_W_fillTold_74 : decode (mb 110) 74 = .ok (.ireturn, 1) := by decide +kernel
theorem i_W_fillTold_75 : decode (mb 110) 75 = .ok (.aload_n 0, 1) := by decide +kernel
theorem i_W_fillTold_76 : decode (mb 110) 76 = .ok (.iload 4, 2) := by decide +kernel
theorem i_W_fillTold_78 : decode (mb 110) 78 = .ok (.lload 5, 2) := by decide +kernel
theorem i_W_fillTold_80 : decode (mb 110) 80 = .ok (.l2i, 1) := by decide +kernel
theorem i_W_fillTold_81 : decode (mb 110) 81 = .ok (.invokevirtual 51, 3) := by decide +kernel
theorem i_W_fillTold_84 : decode (mb 110) 84 = .ok (.iinc 4 1, 3) := by decide +kernel
theorem i_W_fillTold_87 : decode (mb 110) 87 = .ok (.goto (-80), 3) := by decide +kernel
theorem i_W_fillTold_90 : decode (mb 110) 90 = .ok (.iconst (-1), 1) := by decide +kernel
theorem i_W_fillTold_91 : decode (mb 110) 91 = .ok (.ireturn, 1) := by decide +kernel
theorem o_W_begin : (mn 111).cls = "NeedsALoser$Week" := by decide +kernel
theorem l_W_begin : ml 111 = 1 := by decide +kernel
theorem t_W_begin : mr 111 = none := by decide +kernel
theorem i_W_begin_0 : decode (mb 111) 0 = .ok (.aload_n 0, 1) := by decide +kernel
theorem i_W_begin_1 : decode (mb 111) 1 = .ok (.iconst 0, 1) := by decide +kernel
theorem i_W_begin_2 : decode (mb 111) 2 = .ok (.putfield 15, 3) := by decide +kernel
theorem i_W_begin_5 : decode (mb 111) 5 = .ok (.aload_n 0, 1) := by decide +kernel
theorem i_W_begin_6 : decode (mb 111) 6 = .ok (.iconst 0, 1) := by decide +kernel
theorem i_W_begin_7 : decode (mb 111) 7 = .ok (.putfield 19, 3) := by decide +kernel
theorem i_W_begin_10 : decode (mb 111) 10 = .ok (.return_, 1) := by decide +kernel
theorem o_W_isBarred : (mn 112).cls = "NeedsALoser$Week" := by decide +kernel
theorem l_W_isBarred : ml 112 = 3 := by decide +kernel
theorem t_W_isBarred : mr 112 = some (FieldType.boolean) := by decide +kernel
theorem i_W_isBarred_0 : decode (mb 112) 0 = .ok (.aload_n 1, 1) := by decide +kernel
theorem i_W_isBarred_1 : decode (mb 112) 1 = .ok (.iload_n 2, 1) := by decide +kernel
theorem i_W_isBarred_2 : decode (mb 112) 2 = .ok (.invokevirtual 87, 3) := by decide +kernel
theorem i_W_isBarred_5 : decode (mb 112) 5 = .ok (.aload_n 0, 1) := by decide +kernel
theorem i_W_isBarred_6 : decode (mb 112) 6 = .ok (.getfield 15, 3) := by decide +kernel
theorem i_W_isBarred_9 : decode (mb 112) 9 = .ok (.iand, 1) := by decide +kernel
theorem i_W_isBarred_10 : decode (mb 112) 10 = .ok (.ifCond .eq 7, 3) := by decide +kernel
theorem i_W_isBarred_13 : decode (mb 112) 13 = .ok (.iconst 1, 1) := by decide +kernel
theorem i_W_isBarred_14 : decode (mb 112) 14 = .ok (.goto 4, 3) := by decide +kernel
theorem i_W_isBarred_17 : decode (mb 112) 17 = .ok (.iconst 0, 1) := by decide +kernel
theorem i_W_isBarred_18 : decode (mb 112) 18 = .ok (.ireturn, 1) := by decide +kernel
theorem o_W_take : (mn 113).cls = "NeedsALoser$Week" := by decide +kernel
theorem l_W_take : ml 113 = 3 := by decide +kernel
theorem t_W_take : mr 113 = none := by decide +kernel
theorem i_W_take_0 : decode (mb 113) 0 = .ok (.iload_n 2, 1) := by decide +kernel
theorem i_W_take_1 : decode (mb 113) 1 = .ok (.iconst (-1), 1) := by decide +kernel
theorem i_W_take_2 : decode (mb 113) 2 = .ok (.if_icmp .eq 36, 3) := by decide +kernel
theorem i_W_take_5 : decode (mb 113) 5 = .ok (.aload_n 0, 1) := by decide +kernel
theorem i_W_take_6 : decode (mb 113) 6 = .ok (.getfield 9, 3) := by decide +kernel
theorem i_W_take_9 : decode (mb 113) 9 = .ok (.iload_n 1, 1) := by decide +kernel
theorem i_W_take_10 : decode (mb 113) 10 = .ok (.iload_n 2, 1) := by decide +kernel
theorem i_W_take_11 : decode (mb 113) 11 = .ok (.invokestatic 90, 3) := by decide +kernel
theorem i_W_take_14 : decode (mb 113) 14 = .ok (.aload_n 0, 1) := by decide +kernel
theorem i_W_take_15 : decode (mb 113) 15 = .ok (.dup, 1) := by decide +kernel
theorem i_W_take_16 : decode (mb 113) 16 = .ok (.getfield 15, 3) := by decide +kernel
theorem i_W_take_19 : decode (mb 113) 19 = .ok (.iconst 1, 1) := by decide +kernel
theorem i_W_take_20 : decode (mb 113) 20 = .ok (.iload_n 1, 1) := by decide +kernel
theorem i_W_take_21 : decode (mb 113) 21 = .ok (.ishl, 1) := by decide +kernel
theorem i_W_take_22 : decode (mb 113) 22 = .ok (.ior, 1) := by decide +kernel
theorem i_W_take_23 : decode (mb 113) 23 = .ok (.putfield 15, 3) := by decide +kernel
theorem i_W_take_26 : decode (mb 113) 26 = .ok (.aload_n 0, 1) := by decide +kernel
theorem i_W_take_27 : decode (mb 113) 27 = .ok (.dup, 1) := by decide +kernel
theorem i_W_take_28 : decode (mb 113) 28 = .ok (.getfield 19, 3) := by decide +kernel
theorem i_W_take_31 : decode (mb 113) 31 = .ok (.iconst 1, 1) := by decide +kernel
theorem i_W_take_32 : decode (mb 113) 32 = .ok (.iload_n 2, 1) := by decide +kernel
theorem i_W_take_33 : decode (mb 113) 33 = .ok (.ishl, 1) := by decide +kernel
theorem i_W_take_34 : decode (mb 113) 34 = .ok (.ior, 1) := by decide +kernel
theorem i_W_take_35 : decode (mb 113) 35 = .ok (.putfield 19, 3) := by decide +kernel
theorem i_W_take_38 : decode (mb 113) 38 = .ok (.return_, 1) := by decide +kernel
theorem o_N_told : (mn 114).cls = "NeedsALoser" := by decide +kernel
theorem l_N_told : ml 114 = 4 := by decide +kernel
theorem t_N_told : mr 114 = some (FieldType.int) := by decide +kernel
theorem i_N_told_0 : decode (mb 114) 0 = .ok (.iload_n 2, 1) := by decide +kernel
theorem i_N_told_1 : decode (mb 114) 1 = .ok (.iconst 3, 1) := by decide +kernel
theorem i_N_told_2 : decode (mb 114) 2 = .ok (.invokestatic 58, 3) := by decide +kernel
theorem i_N_told_5 : decode (mb 114) 5 = .ok (.ifCond .eq 11, 3) := by decide +kernel
theorem i_N_told_8 : decode (mb 114) 8 = .ok (.aload_n 0, 1) := by decide +kernel
theorem i_N_told_9 : decode (mb 114) 9 = .ok (.iload_n 1, 1) := by decide +kernel
theorem i_N_told_10 : decode (mb 114) 10 = .ok (.invokevirtual 227, 3) := by decide +kernel
theorem i_N_told_13 : decode (mb 114) 13 = .ok (.goto 5, 3) := by decide +kernel
theorem i_N_told_16 : decode (mb 114) 16 = .ok (.bipush (-2), 2) := by decide +kernel
theorem i_N_told_18 : decode (mb 114) 18 = .ok (.istore_n 3, 1) := by decide +kernel
theorem i_N_told_19 : decode (mb 114) 19 = .ok (.iload_n 3, 1) := by decide +kernel
theorem i_N_told_20 : decode (mb 114) 20 = .ok (.ifCond .ne 26, 3) := by decide +kernel
theorem i_N_told_23 : decode (mb 114) 23 = .ok (.aload_n 0, 1) := by decide +kernel
theorem i_N_told_24 : decode (mb 114) 24 = .ok (.getfield 43, 3) := by decide +kernel
theorem i_N_told_27 : decode (mb 114) 27 = .ok (.aload_n 0, 1) := by decide +kernel
theorem i_N_told_28 : decode (mb 114) 28 = .ok (.getfield 10, 3) := by decide +kernel
theorem i_N_told_31 : decode (mb 114) 31 = .ok (.aload_n 0, 1) := by decide +kernel
theorem i_N_told_32 : decode (mb 114) 32 = .ok (.getfield 29, 3) := by decide +kernel
theorem i_N_told_35 : decode (mb 114) 35 = .ok (.iload_n 1, 1) := by decide +kernel
theorem i_N_told_36 : decode (mb 114) 36 = .ok (.invokevirtual 230, 3) := by decide +kernel
theorem i_N_told_39 : decode (mb 114) 39 = .ok (.iconst (-1), 1) := by decide +kernel
theorem i_N_told_40 : decode (mb 114) 40 = .ok (.if_icmp .eq 6, 3) := by decide +kernel
theorem i_N_told_43 : decode (mb 114) 43 = .ok (.bipush (-5), 2) := by decide +kernel
theorem i_N_told_45 : decode (mb 114) 45 = .ok (.istore_n 3, 1) := by decide +kernel
theorem i_N_told_46 : decode (mb 114) 46 = .ok (.iload_n 3, 1) := by decide +kernel
theorem i_N_told_47 : decode (mb 114) 47 = .ok (.ifCond .ne 18, 3) := by decide +kernel
theorem i_N_told_50 : decode (mb 114) 50 = .ok (.aload_n 0, 1) := by decide +kernel
theorem i_N_told_51 : decode (mb 114) 51 = .ok (.getfield 43, 3) := by decide +kernel
theorem i_N_told_54 : decode (mb 114) 54 = .ok (.aload_n 0, 1) := by decide +kernel
theorem i_N_told_55 : decode (mb 114) 55 = .ok (.getfield 10, 3) := by decide +kernel
theorem i_N_told_58 : decode (mb 114) 58 = .ok (.iload_n 2, 1) := by decide +kernel
theorem i_N_told_59 : decode (mb 114) 59 = .ok (.invokevirtual 234, 3) := by decide +kernel
theorem i_N_told_62 : decode (mb 114) 62 = .ok (.goto 8, 3) := by decide +kernel
theorem i_N_told_65 : decode (mb 114) 65 = .ok (.aload_n 0, 1) := by decide +kernel
theorem i_N_told_66 : decode (mb 114) 66 = .ok (.iload_n 3, 1) := by decide +kernel
theorem i_N_told_67 : decode (mb 114) 67 = .ok (.invokevirtual 212, 3) := by decide +kernel
theorem i_N_told_70 : decode (mb 114) 70 = .ok (.ireturn, 1) := by decide +kernel
theorem o_W_tell : (mn 115).cls = "NeedsALoser$Week" := by decide +kernel
theorem l_W_tell : ml 115 = 3 := by decide +kernel
theorem t_W_tell : mr 115 = some (FieldType.int) := by decide +kernel
theorem i_W_tell_0 : decode (mb 115) 0 = .ok (.iload_n 2, 1) := by decide +kernel
theorem i_W_tell_1 : decode (mb 115) 1 = .ok (.iconst 1, 1) := by decide +kernel
theorem i_W_tell_2 : decode (mb 115) 2 = .ok (.if_icmp .ne 11, 3) := by decide +kernel
theorem i_W_tell_5 : decode (mb 115) 5 = .ok (.aload_n 0, 1) := by decide +kernel
theorem i_W_tell_6 : decode (mb 115) 6 = .ok (.getfield 15, 3) := by decide +kernel
theorem i_W_tell_9 : decode (mb 115) 9 = .ok (.invokestatic 61, 3) := by decide +kernel
theorem i_W_tell_12 : decode (mb 115) 12 = .ok (.ireturn, 1) := by decide +kernel
theorem i_W_tell_13 : decode (mb 115) 13 = .ok (.iload_n 2, 1) := by decide +kernel
theorem i_W_tell_14 : decode (mb 115) 14 = .ok (.ifCond .ne 11, 3) := by decide +kernel
theorem i_W_tell_17 : decode (mb 115) 17 = .ok (.aload_n 0, 1) := by decide +kernel
theorem i_W_tell_18 : decode (mb 115) 18 = .ok (.aload_n 1, 1) := by decide +kernel
theorem i_W_tell_19 : decode (mb 115) 19 = .ok (.invokevirtual 73, 3) := by decide +kernel
theorem i_W_tell_22 : decode (mb 115) 22 = .ok (.goto 7, 3) := by decide +kernel
theorem i_W_tell_25 : decode (mb 115) 25 = .ok (.aload_n 0, 1) := by decide +kernel
theorem i_W_tell_26 : decode (mb 115) 26 = .ok (.getfield 19, 3) := by decide +kernel
theorem i_W_tell_29 : decode (mb 115) 29 = .ok (.ireturn, 1) := by decide +kernel
theorem o_JI_bitCount : (mn 116).cls = "java/lang/Integer" := by decide +kernel
theorem l_JI_bitCount : ml 116 = 1 := by decide +kernel
theorem t_JI_bitCount : mr 116 = some (FieldType.int) := by decide +kernel
theorem i_JI_bitCount_0 : decode (mb 116) 0 = .ok (.iload_n 0, 1) := by decide +kernel
theorem i_JI_bitCount_1 : decode (mb 116) 1 = .ok (.iload_n 0, 1) := by decide +kernel
theorem i_JI_bitCount_2 : decode (mb 116) 2 = .ok (.iconst 1, 1) := by decide +kernel
theorem i_JI_bitCount_3 : decode (mb 116) 3 = .ok (.iushr, 1) := by decide +kernel
theorem i_JI_bitCount_4 : decode (mb 116) 4 = .ok (.ldc_w 265, 3) := by decide +kernel
theorem i_JI_bitCount_7 : decode (mb 116) 7 = .ok (.iand, 1) := by decide +kernel
theorem i_JI_bitCount_8 : decode (mb 116) 8 = .ok (.isub, 1) := by decide +kernel
theorem i_JI_bitCount_9 : decode (mb 116) 9 = .ok (.istore_n 0, 1) := by decide +kernel
theorem i_JI_bitCount_10 : decode (mb 116) 10 = .ok (.iload_n 0, 1) := by decide +kernel
theorem i_JI_bitCount_11 : decode (mb 116) 11 = .ok (.ldc_w 266, 3) := by decide +kernel
theorem i_JI_bitCount_14 : decode (mb 116) 14 = .ok (.iand, 1) := by decide +kernel
theorem i_JI_bitCount_15 : decode (mb 116) 15 = .ok (.iload_n 0, 1) := by decide +kernel
theorem i_JI_bitCount_16 : decode (mb 116) 16 = .ok (.iconst 2, 1) := by decide +kernel
theorem i_JI_bitCount_17 : decode (mb 116) 17 = .ok (.iushr, 1) := by decide +kernel
theorem i_JI_bitCount_18 : decode (mb 116) 18 = .ok (.ldc_w 266, 3) := by decide +kernel
theorem i_JI_bitCount_21 : decode (mb 116) 21 = .ok (.iand, 1) := by decide +kernel
theorem i_JI_bitCount_22 : decode (mb 116) 22 = .ok (.iadd, 1) := by decide +kernel
theorem i_JI_bitCount_23 : decode (mb 116) 23 = .ok (.istore_n 0, 1) := by decide +kernel
theorem i_JI_bitCount_24 : decode (mb 116) 24 = .ok (.iload_n 0, 1) := by decide +kernel
theorem i_JI_bitCount_25 : decode (mb 116) 25 = .ok (.iload_n 0, 1) := by decide +kernel
theorem i_JI_bitCount_26 : decode (mb 116) 26 = .ok (.iconst 4, 1) := by decide +kernel
theorem i_JI_bitCount_27 : decode (mb 116) 27 = .ok (.iushr, 1) := by decide +kernel
theorem i_JI_bitCount_28 : decode (mb 116) 28 = .ok (.iadd, 1) := by decide +kernel
theorem i_JI_bitCount_29 : decode (mb 116) 29 = .ok (.ldc_w 267, 3) := by decide +kernel
theorem i_JI_bitCount_32 : decode (mb 116) 32 = .ok (.iand, 1) := by decide +kernel
theorem i_JI_bitCount_33 : decode (mb 116) 33 = .ok (.istore_n 0, 1) := by decide +kernel
theorem i_JI_bitCount_34 : decode (mb 116) 34 = .ok (.iload_n 0, 1) := by decide +kernel
theorem i_JI_bitCount_35 : decode (mb 116) 35 = .ok (.iload_n 0, 1) := by decide +kernel
theorem i_JI_bitCount_36 : decode (mb 116) 36 = .ok (.bipush 8, 2) := by decide +kernel
theorem i_JI_bitCount_38 : decode (mb 116) 38 = .ok (.iushr, 1) := by decide +kernel
theorem i_JI_bitCount_39 : decode (mb 116) 39 = .ok (.iadd, 1) := by decide +kernel
theorem i_JI_bitCount_40 : decode (mb 116) 40 = .ok (.istore_n 0, 1) := by decide +kernel
theorem i_JI_bitCount_41 : decode (mb 116) 41 = .ok (.iload_n 0, 1) := by decide +kernel
theorem i_JI_bitCount_42 : decode (mb 116) 42 = .ok (.iload_n 0, 1) := by decide +kernel
theorem i_JI_bitCount_43 : decode (mb 116) 43 = .ok (.bipush 16, 2) := by decide +kernel
theorem i_JI_bitCount_45 : decode (mb 116) 45 = .ok (.iushr, 1) := by decide +kernel
theorem i_JI_bitCount_46 : decode (mb 116) 46 = .ok (.iadd, 1) := by decide +kernel
theorem i_JI_bitCount_47 : decode (mb 116) 47 = .ok (.istore_n 0, 1) := by decide +kernel
theorem i_JI_bitCount_48 : decode (mb 116) 48 = .ok (.iload_n 0, 1) := by decide +kernel
theorem i_JI_bitCount_49 : decode (mb 116) 49 = .ok (.bipush 63, 2) := by decide +kernel
theorem i_JI_bitCount_51 : decode (mb 116) 51 = .ok (.iand, 1) := by decide +kernel
theorem i_JI_bitCount_52 : decode (mb 116) 52 = .ok (.ireturn, 1) := by decide +kernel
theorem o_W_sumOfValues : (mn 117).cls = "NeedsALoser$Week" := by decide +kernel
theorem l_W_sumOfValues : ml 117 = 4 := by decide +kernel
theorem t_W_sumOfValues : mr 117 = some (FieldType.int) := by decide +kernel
theorem i_W_sumOfValues_0 : decode (mb 117) 0 = .ok (.iconst 0, 1) := by decide +kernel
theorem i_W_sumOfValues_1 : decode (mb 117) 1 = .ok (.istore_n 2, 1) := by decide +kernel
theorem i_W_sumOfValues_2 : decode (mb 117) 2 = .ok (.iconst 0, 1) := by decide +kernel
theorem i_W_sumOfValues_3 : decode (mb 117) 3 = .ok (.istore_n 3, 1) := by decide +kernel
theorem i_W_sumOfValues_4 : decode (mb 117) 4 = .ok (.iload_n 3, 1) := by decide +kernel
theorem i_W_sumOfValues_5 : decode (mb 117) 5 = .ok (.aload_n 1, 1) := by decide +kernel
theorem i_W_sumOfValues_6 : decode (mb 117) 6 = .ok (.getfield 25, 3) := by decide +kernel
theorem i_W_sumOfValues_9 : decode (mb 117) 9 = .ok (.if_icmp .ge 36, 3) := by decide +kernel
theorem i_W_sumOfValues_12 : decode (mb 117) 12 = .ok (.aload_n 0, 1) := by decide +kernel
theorem i_W_sumOfValues_13 : decode (mb 117) 13 = .ok (.getfield 15, 3) := by decide +kernel
theorem i_W_sumOfValues_16 : decode (mb 117) 16 = .ok (.iload_n 3, 1) := by decide +kernel
theorem i_W_sumOfValues_17 : decode (mb 117) 17 = .ok (.invokestatic 47, 3) := by decide +kernel
theorem i_W_sumOfValues_20 : decode (mb 117) 20 = .ok (.ifCond .eq 19, 3) := by decide +kernel
theorem i_W_sumOfValues_23 : decode (mb 117) 23 = .ok (.iload_n 2, 1) := by decide +kernel
theorem i_W_sumOfValues_24 : decode (mb 117) 24 = .ok (.aload_n 1, 1) := by decide +kernel
theorem i_W_sumOfValues_25 : decode (mb 117) 25 = .ok (.iload_n 3, 1) := by decide +kernel
theorem i_W_sumOfValues_26 : decode (mb 117) 26 = .ok (.aload_n 0, 1) := by decide +kernel
theorem i_W_sumOfValues_27 : decode (mb 117) 27 = .ok (.getfield 9, 3) := by decide +kernel
theorem i_W_sumOfValues_30 : decode (mb 117) 30 = .ok (.iload_n 3, 1) := by decide +kernel
theorem i_W_sumOfValues_31 : decode (mb 117) 31 = .ok (.invokestatic 77, 3) := by decide +kernel
theorem i_W_sumOfValues_34 : decode (mb 117) 34 = .ok (.invokevirtual 94, 3) := by decide +kernel
theorem i_W_sumOfValues_37 : decode (mb 117) 37 = .ok (.iadd, 1) := by decide +kernel
theorem i_W_sumOfValues_38 : decode (mb 117) 38 = .ok (.istore_n 2, 1) := by decide +kernel
theorem i_W_sumOfValues_39 : decode (mb 117) 39 = .ok (.iinc 3 1, 3) := by decide +kernel
theorem i_W_sumOfValues_42 : decode (mb 117) 42 = .ok (.goto (-38), 3) := by decide +kernel
theorem i_W_sumOfValues_45 : decode (mb 117) 45 = .ok (.iload_n 2, 1) := by decide +kernel
theorem i_W_sumOfValues_46 : decode (mb 117) 46 = .ok (.ireturn, 1) := by decide +kernel
theorem o_N_by : (mn 118).cls = "NeedsALoser" := by decide +kernel
theorem l_N_by : ml 118 = 4 := by decide +kernel
theorem t_N_by : mr 118 = some (FieldType.int) := by decide +kernel
theorem i_N_by_0 : decode (mb 118) 0 = .ok (.iload_n 2, 1) := by decide +kernel
theorem i_N_by_1 : decode (mb 118) 1 = .ok (.iconst 3, 1) := by decide +kernel
theorem i_N_by_2 : decode (mb 118) 2 = .ok (.invokestatic 58, 3) := by decide +kernel
theorem i_N_by_5 : decode (mb 118) 5 = .ok (.ifCond .eq 14, 3) := by decide +kernel
theorem i_N_by_8 : decode (mb 118) 8 = .ok (.aload_n 0, 1) := by decide +kernel
theorem i_N_by_9 : decode (mb 118) 9 = .ok (.getfield 29, 3) := by decide +kernel
theorem i_N_by_12 : decode (mb 118) 12 = .ok (.iload_n 1, 1) := by decide +kernel
theorem i_N_by_13 : decode (mb 118) 13 = .ok (.invokevirtual 104, 3) := by decide +kernel
theorem i_N_by_16 : decode (mb 118) 16 = .ok (.goto 5, 3) := by decide +kernel
theorem i_N_by_19 : decode (mb 118) 19 = .ok (.bipush (-2), 2) := by decide +kernel
theorem i_N_by_21 : decode (mb 118) 21 = .ok (.istore_n 3, 1) := by decide +kernel
theorem i_N_by_22 : decode (mb 118) 22 = .ok (.iload_n 3, 1) := by decide +kernel
theorem i_N_by_23 : decode (mb 118) 23 = .ok (.ifCond .ne 12, 3) := by decide +kernel
theorem i_N_by_26 : decode (mb 118) 26 = .ok (.aload_n 0, 1) := by decide +kernel
theorem i_N_by_27 : decode (mb 118) 27 = .ok (.iload_n 1, 1) := by decide +kernel
theorem i_N_by_28 : decode (mb 118) 28 = .ok (.iload_n 2, 1) := by decide +kernel
theorem i_N_by_29 : decode (mb 118) 29 = .ok (.invokevirtual 238, 3) := by decide +kernel
theorem i_N_by_32 : decode (mb 118) 32 = .ok (.goto 8, 3) := by decide +kernel
theorem i_N_by_35 : decode (mb 118) 35 = .ok (.aload_n 0, 1) := by decide +kernel
theorem i_N_by_36 : decode (mb 118) 36 = .ok (.iload_n 3, 1) := by decide +kernel
theorem i_N_by_37 : decode (mb 118) 37 = .ok (.invokevirtual 212, 3) := by decide +kernel
theorem i_N_by_40 : decode (mb 118) 40 = .ok (.ireturn, 1) := by decide +kernel
theorem o_N_tellByShelf : (mn 119).cls = "NeedsALoser" := by decide +kernel
theorem l_N_tellByShelf : ml 119 = 3 := by decide +kernel
theorem t_N_tellByShelf : mr 119 = some (FieldType.int) := by decide +kernel
theorem i_N_tellByShelf_0 : decode (mb 119) 0 = .ok (.aload_n 0, 1) := by decide +kernel
theorem i_N_tellByShelf_1 : decode (mb 119) 1 = .ok (.getfield 43, 3) := by decide +kernel
theorem i_N_tellByShelf_4 : decode (mb 119) 4 = .ok (.aload_n 0, 1) := by decide +kernel
theorem i_N_tellByShelf_5 : decode (mb 119) 5 = .ok (.getfield 10, 3) := by decide +kernel
theorem i_N_tellByShelf_8 : decode (mb 119) 8 = .ok (.aload_n 0, 1) := by decide +kernel
theorem i_N_tellByShelf_9 : decode (mb 119) 9 = .ok (.getfield 29, 3) := by decide +kernel
theorem i_N_tellByShelf_12 : decode (mb 119) 12 = .ok (.iload_n 1, 1) := by decide +kernel
theorem i_N_tellByShelf_13 : decode (mb 119) 13 = .ok (.invokevirtual 107, 3) := by decide +kernel
theorem i_N_tellByShelf_16 : decode (mb 119) 16 = .ok (.aload_n 0, 1) := by decide +kernel
theorem i_N_tellByShelf_17 : decode (mb 119) 17 = .ok (.getfield 29, 3) := by decide +kernel
theorem i_N_tellByShelf_20 : decode (mb 119) 20 = .ok (.iload_n 1, 1) := by decide +kernel
theorem i_N_tellByShelf_21 : decode (mb 119) 21 = .ok (.invokevirtual 117, 3) := by decide +kernel
theorem i_N_tellByShelf_24 : decode (mb 119) 24 = .ok (.invokevirtual 241, 3) := by decide +kernel
theorem i_N_tellByShelf_27 : decode (mb 119) 27 = .ok (.aload_n 0, 1) := by decide +kernel
theorem i_N_tellByShelf_28 : decode (mb 119) 28 = .ok (.getfield 43, 3) := by decide +kernel
theorem i_N_tellByShelf_31 : decode (mb 119) 31 = .ok (.aload_n 0, 1) := by decide +kernel
theorem i_N_tellByShelf_32 : decode (mb 119) 32 = .ok (.getfield 10, 3) := by decide +kernel
theorem i_N_tellByShelf_35 : decode (mb 119) 35 = .ok (.iload_n 2, 1) := by decide +kernel
theorem i_N_tellByShelf_36 : decode (mb 119) 36 = .ok (.invokevirtual 234, 3) := by decide +kernel
theorem i_N_tellByShelf_39 : decode (mb 119) 39 = .ok (.ireturn, 1) := by decide +kernel
theorem o_W_fillByRule : (mn 120).cls = "NeedsALoser$Week" := by decide +kernel
theorem l_W_fillByRule : ml 120 = 5 := by decide +kernel
theorem t_W_fillByRule : mr 120 = none := by decide +kernel
theorem i_W_fillByRule_0 : decode (mb 120) 0 = .ok (.aload_n 0, 1) := by decide +kernel
theorem i_W_fillByRule_1 : decode (mb 120) 1 = .ok (.invokevirtual 22, 3) := by decide +kernel
theorem i_W_fillByRule_4 : decode (mb 120) 4 = .ok (.iconst 0, 1) := by decide +kernel
theorem i_W_fillByRule_5 : decode (mb 120) 5 = .ok (.istore 4, 2) := by decide +kernel
theorem i_W_fillByRule_7 : decode (mb 120) 7 = .ok (.iload 4, 2) := by decide +kernel
theorem i_W_fillByRule_9 : decode (mb 120) 9 = .ok (.aload_n 1, 1) := by decide +kernel
theorem i_W_fillByRule_10 : decode (mb 120) 10 = .ok (.getfield 25, 3) := by decide +kernel
theorem i_W_fillByRule_13 : decode (mb 120) 13 = .ok (.if_icmp .ge 43, 3) := by decide +kernel
theorem i_W_fillByRule_16 : decode (mb 120) 16 = .ok (.aload_n 0, 1) := by decide +kernel
theorem i_W_fillByRule_17 : decode (mb 120) 17 = .ok (.aload_n 1, 1) := by decide +kernel
theorem i_W_fillByRule_18 : decode (mb 120) 18 = .ok (.iload 4, 2) := by decide +kernel
theorem i_W_fillByRule_20 : decode (mb 120) 20 = .ok (.invokevirtual 39, 3) := by decide +kernel
theorem i_W_fillByRule_23 : decode (mb 120) 23 = .ok (.ifCond .ne 27, 3) := by decide +kernel
theorem i_W_fillByRule_26 : decode (mb 120) 26 = .ok (.aload_n 0, 1) := by decide +kernel
theorem i_W_fillByRule_27 : decode (mb 120) 27 = .ok (.iload 4, 2) := by decide +kernel
theorem i_W_fillByRule_29 : decode (mb 120) 29 = .ok (.aload_n 1, 1) := by decide +kernel
theorem i_W_fillByRule_30 : decode (mb 120) 30 = .ok (.iload_n 2, 1) := by decide +kernel
theorem i_W_fillByRule_31 : decode (mb 120) 31 = .ok (.iload_n 3, 1) := by decide +kernel
theorem i_W_fillByRule_32 : decode (mb 120) 32 = .ok (.iload 4, 2) := by decide +kernel
theorem i_W_fillByRule_34 : decode (mb 120) 34 = .ok (.aload_n 1, 1) := by decide +kernel
theorem i_W_fillByRule_35 : decode (mb 120) 35 = .ok (.iload 4, 2) := by decide +kernel
theorem i_W_fillByRule_37 : decode (mb 120) 37 = .ok (.aload_n 0, 1) := by decide +kernel
theorem i_W_fillByRule_38 : decode (mb 120) 38 = .ok (.getfield 19, 3) := by decide +kernel
theorem i_W_fillByRule_41 : decode (mb 120) 41 = .ok (.invokevirtual 43, 3) := by decide +kernel
theorem i_W_fillByRule_44 : decode (mb 120) 44 = .ok (.invokestatic 55, 3) := by decide +kernel
theorem i_W_fillByRule_47 : decode (mb 120) 47 = .ok (.invokevirtual 51, 3) := by decide +kernel
theorem i_W_fillByRule_50 : decode (mb 120) 50 = .ok (.iinc 4 1, 3) := by decide +kernel
theorem i_W_fillByRule_53 : decode (mb 120) 53 = .ok (.goto (-46), 3) := by decide +kernel
theorem i_W_fillByRule_56 : decode (mb 120) 56 = .ok (.return_, 1) := by decide +kernel
theorem o_N_head : (mn 121).cls = "NeedsALoser" := by decide +kernel
theorem l_N_head : ml 121 = 5 := by decide +kernel
theorem t_N_head : mr 121 = some (FieldType.int) := by decide +kernel
theorem i_N_head_0 : decode (mb 121) 0 = .ok (.iconst (-1), 1) := by decide +kernel
theorem i_N_head_1 : decode (mb 121) 1 = .ok (.istore_n 1, 1) := by decide +kernel
theorem i_N_head_2 : decode (mb 121) 2 = .ok (.iconst 0, 1) := by decide +kernel
theorem i_N_head_3 : decode (mb 121) 3 = .ok (.istore_n 2, 1) := by decide +kernel
theorem i_N_head_4 : decode (mb 121) 4 = .ok (.iconst 0, 1) := by decide +kernel
theorem i_N_head_5 : decode (mb 121) 5 = .ok (.istore_n 3, 1) := by decide +kernel
theorem i_N_head_6 : decode (mb 121) 6 = .ok (.iload_n 3, 1) := by decide +kernel
theorem i_N_head_7 : decode (mb 121) 7 = .ok (.bipush 8, 2) := by decide +kernel
theorem i_N_head_9 : decode (mb 121) 9 = .ok (.if_icmp .ge 44, 3) := by decide +kernel
theorem i_N_head_12 : decode (mb 121) 12 = .ok (.aload_n 0, 1) := by decide +kernel
theorem i_N_head_13 : decode (mb 121) 13 = .ok (.getfield 29, 3) := by decide +kernel
theorem i_N_head_16 : decode (mb 121) 16 = .ok (.iload_n 3, 1) := by decide +kernel
theorem i_N_head_17 : decode (mb 121) 17 = .ok (.invokevirtual 104, 3) := by decide +kernel
theorem i_N_head_20 : decode (mb 121) 20 = .ok (.ifCond .ne 27, 3) := by decide +kernel
theorem i_N_head_23 : decode (mb 121) 23 = .ok (.aload_n 0, 1) := by decide +kernel
theorem i_N_head_24 : decode (mb 121) 24 = .ok (.iload_n 3, 1) := by decide +kernel
theorem i_N_head_25 : decode (mb 121) 25 = .ok (.iconst 0, 1) := by decide +kernel
theorem i_N_head_26 : decode (mb 121) 26 = .ok (.invokevirtual 238, 3) := by decide +kernel
theorem i_N_head_29 : decode (mb 121) 29 = .ok (.istore 4, 2) := by decide +kernel
theorem i_N_head_31 : decode (mb 121) 31 = .ok (.iload_n 1, 1) := by decide +kernel
theorem i_N_head_32 : decode (mb 121) 32 = .ok (.iconst (-1), 1) := by decide +kernel
theorem i_N_head_33 : decode (mb 121) 33 = .ok (.if_icmp .eq 9, 3) := by decide +kernel
theorem i_N_head_36 : decode (mb 121) 36 = .ok (.iload 4, 2) := by decide +kernel
theorem i_N_head_38 : decode (mb 121) 38 = .ok (.iload_n 2, 1) := by decide +kernel
theorem i_N_head_39 : decode (mb 121) 39 = .ok (.if_icmp .le 8, 3) := by decide +kernel
theorem i_N_head_42 : decode (mb 121) 42 = .ok (.iload_n 3, 1) := by decide +kernel
theorem i_N_head_43 : decode (mb 121) 43 = .ok (.istore_n 1, 1) := by decide +kernel
theorem i_N_head_44 : decode (mb 121) 44 = .ok (.iload 4, 2) := by decide +kernel
theorem i_N_head_46 : decode (mb 121) 46 = .ok (.istore_n 2, 1) := by decide +kernel
theorem i_N_head_47 : decode (mb 121) 47 = .ok (.iinc 3 1, 3) := by decide +kernel
theorem i_N_head_50 : decode (mb 121) 50 = .ok (.goto (-44), 3) := by decide +kernel
theorem i_N_head_53 : decode (mb 121) 53 = .ok (.iload_n 1, 1) := by decide +kernel
theorem i_N_head_54 : decode (mb 121) 54 = .ok (.iconst (-1), 1) := by decide +kernel
theorem i_N_head_55 : decode (mb 121) 55 = .ok (.if_icmp .ne 12, 3) := by decide +kernel
theorem i_N_head_58 : decode (mb 121) 58 = .ok (.aload_n 0, 1) := by decide +kernel
theorem i_N_head_59 : decode (mb 121) 59 = .ok (.bipush (-5), 2) := by decide +kernel
theorem i_N_head_61 : decode (mb 121) 61 = .ok (.invokevirtual 66, 3) := by decide +kernel
theorem i_N_head_64 : decode (mb 121) 64 = .ok (.goto 4, 3) := by decide +kernel
theorem i_N_head_67 : decode (mb 121) 67 = .ok (.iload_n 1, 1) := by decide +kernel
theorem i_N_head_68 : decode (mb 121) 68 = .ok (.ireturn, 1) := by decide +kernel
theorem o_N_lives : (mn 122).cls = "NeedsALoser" := by decide +kernel
theorem l_N_lives : ml 122 = 3 := by decide +kernel
theorem t_N_lives : mr 122 = some (FieldType.int) := by decide +kernel
theorem i_N_lives_0 : decode (mb 122) 0 = .ok (.aload_n 0, 1) := by decide +kernel
theorem i_N_lives_1 : decode (mb 122) 1 = .ok (.getfield 29, 3) := by decide +kernel
theorem i_N_lives_4 : decode (mb 122) 4 = .ok (.iload_n 1, 1) := by decide +kernel
theorem i_N_lives_5 : decode (mb 122) 5 = .ok (.invokevirtual 104, 3) := by decide +kernel
theorem i_N_lives_8 : decode (mb 122) 8 = .ok (.istore_n 2, 1) := by decide +kernel
theorem i_N_lives_9 : decode (mb 122) 9 = .ok (.iload_n 2, 1) := by decide +kernel
theorem i_N_lives_10 : decode (mb 122) 10 = .ok (.ifCond .eq 9, 3) := by decide +kernel
theorem i_N_lives_13 : decode (mb 122) 13 = .ok (.aload_n 0, 1) := by decide +kernel
theorem i_N_lives_14 : decode (mb 122) 14 = .ok (.iload_n 2, 1) := by decide +kernel
theorem i_N_lives_15 : decode (mb 122) 15 = .ok (.invokevirtual 66, 3) := by decide +kernel
theorem i_N_lives_18 : decode (mb 122) 18 = .ok (.ireturn, 1) := by decide +kernel
theorem i_N_lives_19 : decode (mb 122) 19 = .ok (.aload_n 0, 1) := by decide +kernel
theorem i_N_lives_20 : decode (mb 122) 20 = .ok (.getfield 43, 3) := by decide +kernel
theorem i_N_lives_23 : decode (mb 122) 23 = .ok (.aload_n 0, 1) := by decide +kernel
theorem i_N_lives_24 : decode (mb 122) 24 = .ok (.getfield 10, 3) := by decide +kernel
theorem i_N_lives_27 : decode (mb 122) 27 = .ok (.aload_n 0, 1) := by decide +kernel
theorem i_N_lives_28 : decode (mb 122) 28 = .ok (.getfield 29, 3) := by decide +kernel
theorem i_N_lives_31 : decode (mb 122) 31 = .ok (.iload_n 1, 1) := by decide +kernel
theorem i_N_lives_32 : decode (mb 122) 32 = .ok (.invokevirtual 107, 3) := by decide +kernel
theorem i_N_lives_35 : decode (mb 122) 35 = .ok (.aload_n 0, 1) := by decide +kernel
theorem i_N_lives_36 : decode (mb 122) 36 = .ok (.getfield 29, 3) := by decide +kernel
theorem i_N_lives_39 : decode (mb 122) 39 = .ok (.iload_n 1, 1) := by decide +kernel
theorem i_N_lives_40 : decode (mb 122) 40 = .ok (.invokevirtual 117, 3) := by decide +kernel
theorem i_N_lives_43 : decode (mb 122) 43 = .ok (.invokevirtual 241, 3) := by decide +kernel
theorem i_N_lives_46 : decode (mb 122) 46 = .ok (.aload_n 0, 1) := by decide +kernel
theorem i_N_lives_47 : decode (mb 122) 47 = .ok (.getfield 43, 3) := by decide +kernel
theorem i_N_lives_50 : decode (mb 122) 50 = .ok (.aload_n 0, 1) := by decide +kernel
theorem i_N_lives_51 : decode (mb 122) 51 = .ok (.getfield 10, 3) := by decide +kernel
theorem i_N_lives_54 : decode (mb 122) 54 = .ok (.invokevirtual 245, 3) := by decide +kernel
theorem i_N_lives_57 : decode (mb 122) 57 = .ok (.ireturn, 1) := by decide +kernel
theorem o_W_comeTrue : (mn 123).cls = "NeedsALoser$Week" := by decide +kernel
theorem l_W_comeTrue : ml 123 = 3 := by decide +kernel
theorem t_W_comeTrue : mr 123 = some (FieldType.int) := by decide +kernel
theorem i_W_comeTrue_0 : decode (mb 123) 0 = .ok (.iconst 0, 1) := by decide +kernel
theorem i_W_comeTrue_1 : decode (mb 123) 1 = .ok (.istore_n 2, 1) := by decide +kernel
theorem i_W_comeTrue_2 : decode (mb 123) 2 = .ok (.iload_n 2, 1) := by decide +kernel
theorem i_W_comeTrue_3 : decode (mb 123) 3 = .ok (.aload_n 1, 1) := by decide +kernel
theorem i_W_comeTrue_4 : decode (mb 123) 4 = .ok (.getfield 25, 3) := by decide +kernel
theorem i_W_comeTrue_7 : decode (mb 123) 7 = .ok (.if_icmp .ge 33, 3) := by decide +kernel
theorem i_W_comeTrue_10 : decode (mb 123) 10 = .ok (.aload_n 0, 1) := by decide +kernel
theorem i_W_comeTrue_11 : decode (mb 123) 11 = .ok (.getfield 15, 3) := by decide +kernel
theorem i_W_comeTrue_14 : decode (mb 123) 14 = .ok (.iload_n 2, 1) := by decide +kernel
theorem i_W_comeTrue_15 : decode (mb 123) 15 = .ok (.invokestatic 47, 3) := by decide +kernel
theorem i_W_comeTrue_18 : decode (mb 123) 18 = .ok (.ifCond .eq 16, 3) := by decide +kernel
theorem i_W_comeTrue_21 : decode (mb 123) 21 = .ok (.aload_n 1, 1) := by decide +kernel
theorem i_W_comeTrue_22 : decode (mb 123) 22 = .ok (.iload_n 2, 1) := by decide +kernel
theorem i_W_comeTrue_23 : decode (mb 123) 23 = .ok (.aload_n 0, 1) := by decide +kernel
theorem i_W_comeTrue_24 : decode (mb 123) 24 = .ok (.getfield 9, 3) := by decide +kernel
theorem i_W_comeTrue_27 : decode (mb 123) 27 = .ok (.iload_n 2, 1) := by decide +kernel
theorem i_W_comeTrue_28 : decode (mb 123) 28 = .ok (.invokestatic 77, 3) := by decide +kernel
theorem i_W_comeTrue_31 : decode (mb 123) 31 = .ok (.invokevirtual 81, 3) := by decide +kernel
theorem i_W_comeTrue_34 : decode (mb 123) 34 = .ok (.iinc 2 1, 3) := by decide +kernel
theorem i_W_comeTrue_37 : decode (mb 123) 37 = .ok (.goto (-35), 3) := by decide +kernel
theorem i_W_comeTrue_40 : decode (mb 123) 40 = .ok (.aload_n 1, 1) := by decide +kernel
theorem i_W_comeTrue_41 : decode (mb 123) 41 = .ok (.dup, 1) := by decide +kernel
theorem i_W_comeTrue_42 : decode (mb 123) 42 = .ok (.getfield 84, 3) := by decide +kernel
theorem i_W_comeTrue_45 : decode (mb 123) 45 = .ok (.iconst 1, 1) := by decide +kernel
theorem i_W_comeTrue_46 : decode (mb 123) 46 = .ok (.iadd, 1) := by decide +kernel
theorem i_W_comeTrue_47 : decode (mb 123) 47 = .ok (.putfield 84, 3) := by decide +kernel
theorem i_W_comeTrue_50 : decode (mb 123) 50 = .ok (.aload_n 0, 1) := by decide +kernel
theorem i_W_comeTrue_51 : decode (mb 123) 51 = .ok (.getfield 15, 3) := by decide +kernel
theorem i_W_comeTrue_54 : decode (mb 123) 54 = .ok (.invokestatic 61, 3) := by decide +kernel
theorem i_W_comeTrue_57 : decode (mb 123) 57 = .ok (.ireturn, 1) := by decide +kernel
theorem o_T_makeInTruth : (mn 124).cls = "NeedsALoser$Town" := by decide +kernel
theorem l_T_makeInTruth : ml 124 = 3 := by decide +kernel
theorem t_T_makeInTruth : mr 124 = none := by decide +kernel
theorem i_T_makeInTruth_0 : decode (mb 124) 0 = .ok (.aload_n 0, 1) := by decide +kernel
theorem i_T_makeInTruth_1 : decode (mb 124) 1 = .ok (.getfield 39, 3) := by decide +kernel
theorem i_T_makeInTruth_4 : decode (mb 124) 4 = .ok (.aload_n 0, 1) := by decide +kernel
theorem i_T_makeInTruth_5 : decode (mb 124) 5 = .ok (.getfield 46, 3) := by decide +kernel
theorem i_T_makeInTruth_8 : decode (mb 124) 8 = .ok (.iload_n 1, 1) := by decide +kernel
theorem i_T_makeInTruth_9 : decode (mb 124) 9 = .ok (.invokestatic 91, 3) := by decide +kernel
theorem i_T_makeInTruth_12 : decode (mb 124) 12 = .ok (.aload_n 0, 1) := by decide +kernel
theorem i_T_makeInTruth_13 : decode (mb 124) 13 = .ok (.getfield 52, 3) := by decide +kernel
theorem i_T_makeInTruth_16 : decode (mb 124) 16 = .ok (.iload_n 1, 1) := by decide +kernel
theorem i_T_makeInTruth_17 : decode (mb 124) 17 = .ok (.invokestatic 91, 3) := by decide +kernel
theorem i_T_makeInTruth_20 : decode (mb 124) 20 = .ok (.invokestatic 115, 3) := by decide +kernel
theorem i_T_makeInTruth_23 : decode (mb 124) 23 = .ok (.aload_n 0, 1) := by decide +kernel
theorem i_T_makeInTruth_24 : decode (mb 124) 24 = .ok (.getfield 39, 3) := by decide +kernel
theorem i_T_makeInTruth_27 : decode (mb 124) 27 = .ok (.aload_n 0, 1) := by decide +kernel
theorem i_T_makeInTruth_28 : decode (mb 124) 28 = .ok (.getfield 49, 3) := by decide +kernel
theorem i_T_makeInTruth_31 : decode (mb 124) 31 = .ok (.iload_n 1, 1) := by decide +kernel
theorem i_T_makeInTruth_32 : decode (mb 124) 32 = .ok (.invokestatic 91, 3) := by decide +kernel
theorem i_T_makeInTruth_35 : decode (mb 124) 35 = .ok (.aload_n 0, 1) := by decide +kernel
theorem i_T_makeInTruth_36 : decode (mb 124) 36 = .ok (.getfield 55, 3) := by decide +kernel
theorem i_T_makeInTruth_39 : decode (mb 124) 39 = .ok (.iload_n 1, 1) := by decide +kernel
theorem i_T_makeInTruth_40 : decode (mb 124) 40 = .ok (.invokestatic 91, 3) := by decide +kernel
theorem i_T_makeInTruth_43 : decode (mb 124) 43 = .ok (.invokestatic 115, 3) := by decide +kernel
theorem i_T_makeInTruth_46 : decode (mb 124) 46 = .ok (.aload_n 0, 1) := by decide +kernel
theorem i_T_makeInTruth_47 : decode (mb 124) 47 = .ok (.getfield 39, 3) := by decide +kernel
theorem i_T_makeInTruth_50 : decode (mb 124) 50 = .ok (.iload_n 2, 1) := by decide +kernel
theorem i_T_makeInTruth_51 : decode (mb 124) 51 = .ok (.aload_n 0, 1) := by decide +kernel
theorem i_T_makeInTruth_52 : decode (mb 124) 52 = .ok (.iload_n 1, 1) := by decide +kernel
theorem i_T_makeInTruth_53 : decode (mb 124) 53 = .ok (.iload_n 2, 1) := by decide +kernel
theorem i_T_makeInTruth_54 : decode (mb 124) 54 = .ok (.invokevirtual 98, 3) := by decide +kernel
theorem i_T_makeInTruth_57 : decode (mb 124) 57 = .ok (.ineg, 1) := by decide +kernel
theorem i_T_makeInTruth_58 : decode (mb 124) 58 = .ok (.invokestatic 115, 3) := by decide +kernel
theorem i_T_makeInTruth_61 : decode (mb 124) 61 = .ok (.aload_n 0, 1) := by decide +kernel
theorem i_T_makeInTruth_62 : decode (mb 124) 62 = .ok (.getfield 43, 3) := by decide +kernel
theorem i_T_makeInTruth_65 : decode (mb 124) 65 = .ok (.iload_n 2, 1) := by decide +kernel
theorem i_T_makeInTruth_66 : decode (mb 124) 66 = .ok (.iconst 1, 1) := by decide +kernel
theorem i_T_makeInTruth_67 : decode (mb 124) 67 = .ok (.invokestatic 115, 3) := by decide +kernel
theorem i_T_makeInTruth_70 : decode (mb 124) 70 = .ok (.aload_n 0, 1) := by decide +kernel
theorem i_T_makeInTruth_71 : decode (mb 124) 71 = .ok (.dup, 1) := by decide +kernel
theorem i_T_makeInTruth_72 : decode (mb 124) 72 = .ok (.getfield 36, 3) := by decide +kernel
theorem i_T_makeInTruth_75 : decode (mb 124) 75 = .ok (.iconst 1, 1) := by decide +kernel
theorem i_T_makeInTruth_76 : decode (mb 124) 76 = .ok (.iadd, 1) := by decide +kernel
theorem i_T_makeInTruth_77 : decode (mb 124) 77 = .ok (.putfield 36, 3) := by decide +kernel
theorem i_T_makeInTruth_80 : decode (mb 124) 80 = .ok (.return_, 1) := by decide +kernel
theorem o_T_addTo : (mn 125).cls = "NeedsALoser$Town" := by decide +kernel
theorem l_T_addTo : ml 125 = 3 := by decide +kernel
theorem t_T_addTo : mr 125 = none := by decide +kernel
theorem i_T_addTo_0 : decode (mb 125) 0 = .ok (.aload_n 0, 1) := by decide +kernel
theorem i_T_addTo_1 : decode (mb 125) 1 = .ok (.iload_n 1, 1) := by decide +kernel
theorem i_T_addTo_2 : decode (mb 125) 2 = .ok (.aload_n 0, 1) := by decide +kernel
theorem i_T_addTo_3 : decode (mb 125) 3 = .ok (.iload_n 1, 1) := by decide +kernel
theorem i_T_addTo_4 : decode (mb 125) 4 = .ok (.invokestatic 91, 3) := by decide +kernel
theorem i_T_addTo_7 : decode (mb 125) 7 = .ok (.iload_n 2, 1) := by decide +kernel
theorem i_T_addTo_8 : decode (mb 125) 8 = .ok (.iadd, 1) := by decide +kernel
theorem i_T_addTo_9 : decode (mb 125) 9 = .ok (.invokestatic 79, 3) := by decide +kernel
theorem i_T_addTo_12 : decode (mb 125) 12 = .ok (.return_, 1) := by decide +kernel
theorem o_N_makes : (mn 126).cls = "NeedsALoser" := by decide +kernel
theorem l_N_makes : ml 126 = 3 := by decide +kernel
theorem t_N_makes : mr 126 = some (FieldType.int) := by decide +kernel
theorem i_N_makes_0 : decode (mb 126) 0 = .ok (.aload_n 0, 1) := by decide +kernel
theorem i_N_makes_1 : decode (mb 126) 1 = .ok (.iload_n 1, 1) := by decide +kernel
theorem i_N_makes_2 : decode (mb 126) 2 = .ok (.invokevirtual 227, 3) := by decide +kernel
theorem i_N_makes_5 : decode (mb 126) 5 = .ok (.istore_n 2, 1) := by decide +kernel
theorem i_N_makes_6 : decode (mb 126) 6 = .ok (.iload_n 2, 1) := by decide +kernel
theorem i_N_makes_7 : decode (mb 126) 7 = .ok (.ifCond .ne 26, 3) := by decide +kernel
theorem i_N_makes_10 : decode (mb 126) 10 = .ok (.aload_n 0, 1) := by decide +kernel
theorem i_N_makes_11 : decode (mb 126) 11 = .ok (.getfield 43, 3) := by decide +kernel
theorem i_N_makes_14 : decode (mb 126) 14 = .ok (.aload_n 0, 1) := by decide +kernel
theorem i_N_makes_15 : decode (mb 126) 15 = .ok (.getfield 10, 3) := by decide +kernel
theorem i_N_makes_18 : decode (mb 126) 18 = .ok (.aload_n 0, 1) := by decide +kernel
theorem i_N_makes_19 : decode (mb 126) 19 = .ok (.getfield 29, 3) := by decide +kernel
theorem i_N_makes_22 : decode (mb 126) 22 = .ok (.iload_n 1, 1) := by decide +kernel
theorem i_N_makes_23 : decode (mb 126) 23 = .ok (.invokevirtual 230, 3) := by decide +kernel
theorem i_N_makes_26 : decode (mb 126) 26 = .ok (.iconst (-1), 1) := by decide +kernel
theorem i_N_makes_27 : decode (mb 126) 27 = .ok (.if_icmp .eq 6, 3) := by decide +kernel
theorem i_N_makes_30 : decode (mb 126) 30 = .ok (.bipush (-5), 2) := by decide +kernel
theorem i_N_makes_32 : decode (mb 126) 32 = .ok (.istore_n 2, 1) := by decide +kernel
theorem i_N_makes_33 : decode (mb 126) 33 = .ok (.iload_n 2, 1) := by decide +kernel
theorem i_N_makes_34 : decode (mb 126) 34 = .ok (.ifCond .ne 17, 3) := by decide +kernel
theorem i_N_makes_37 : decode (mb 126) 37 = .ok (.aload_n 0, 1) := by decide +kernel
theorem i_N_makes_38 : decode (mb 126) 38 = .ok (.getfield 43, 3) := by decide +kernel
theorem i_N_makes_41 : decode (mb 126) 41 = .ok (.aload_n 0, 1) := by decide +kernel
theorem i_N_makes_42 : decode (mb 126) 42 = .ok (.getfield 10, 3) := by decide +kernel
theorem i_N_makes_45 : decode (mb 126) 45 = .ok (.invokevirtual 245, 3) := by decide +kernel
theorem i_N_makes_48 : decode (mb 126) 48 = .ok (.goto 8, 3) := by decide +kernel
theorem i_N_makes_51 : decode (mb 126) 51 = .ok (.aload_n 0, 1) := by decide +kernel
theorem i_N_makes_52 : decode (mb 126) 52 = .ok (.iload_n 2, 1) := by decide +kernel
theorem i_N_makes_53 : decode (mb 126) 53 = .ok (.invokevirtual 66, 3) := by decide +kernel
theorem i_N_makes_56 : decode (mb 126) 56 = .ok (.ireturn, 1) := by decide +kernel
theorem o_N_week : (mn 127).cls = "NeedsALoser" := by decide +kernel
theorem l_N_week : ml 127 = 1 := by decide +kernel
theorem t_N_week : mr 127 = some (FieldType.int) := by decide +kernel
theorem i_N_week_0 : decode (mb 127) 0 = .ok (.aload_n 0, 1) := by decide +kernel
theorem i_N_week_1 : decode (mb 127) 1 = .ok (.getfield 43, 3) := by decide +kernel
theorem i_N_week_4 : decode (mb 127) 4 = .ok (.aload_n 0, 1) := by decide +kernel
theorem i_N_week_5 : decode (mb 127) 5 = .ok (.getfield 10, 3) := by decide +kernel
theorem i_N_week_8 : decode (mb 127) 8 = .ok (.invokevirtual 248, 3) := by decide +kernel
theorem i_N_week_11 : decode (mb 127) 11 = .ok (.aload_n 0, 1) := by decide +kernel
theorem i_N_week_12 : decode (mb 127) 12 = .ok (.getfield 43, 3) := by decide +kernel
theorem i_N_week_15 : decode (mb 127) 15 = .ok (.aload_n 0, 1) := by decide +kernel
theorem i_N_week_16 : decode (mb 127) 16 = .ok (.getfield 10, 3) := by decide +kernel
theorem i_N_week_19 : decode (mb 127) 19 = .ok (.invokevirtual 245, 3) := by decide +kernel
theorem i_N_week_22 : decode (mb 127) 22 = .ok (.ireturn, 1) := by decide +kernel
theorem o_W_fillByDraws : (mn 128).cls = "NeedsALoser$Week" := by decide +kernel
theorem l_W_fillByDraws : ml 128 = 4 := by decide +kernel
theorem t_W_fillByDraws : mr 128 = none := by decide +kernel
theorem i_W_fillByDraws_0 : decode (mb 128) 0 = .ok (.aload_n 0, 1) := by decide +kernel
theorem i_W_fillByDraws_1 : decode (mb 128) 1 = .ok (.invokevirtual 22, 3) := by decide +kernel
theorem i_W_fillByDraws_4 : decode (mb 128) 4 = .ok (.iconst 0, 1) := by decide +kernel
theorem i_W_fillByDraws_5 : decode (mb 128) 5 = .ok (.istore_n 2, 1) := by decide +kernel
theorem i_W_fillByDraws_6 : decode (mb 128) 6 = .ok (.iload_n 2, 1) := by decide +kernel
theorem i_W_fillByDraws_7 : decode (mb 128) 7 = .ok (.aload_n 1, 1) := by decide +kernel
theorem i_W_fillByDraws_8 : decode (mb 128) 8 = .ok (.getfield 25, 3) := by decide +kernel
theorem i_W_fillByDraws_11 : decode (mb 128) 11 = .ok (.if_icmp .ge 53, 3) := by decide +kernel
theorem i_W_fillByDraws_14 : decode (mb 128) 14 = .ok (.aload_n 0, 1) := by decide +kernel
theorem i_W_fillByDraws_15 : decode (mb 128) 15 = .ok (.aload_n 1, 1) := by decide +kernel
theorem i_W_fillByDraws_16 : decode (mb 128) 16 = .ok (.iload_n 2, 1) := by decide +kernel
theorem i_W_fillByDraws_17 : decode (mb 128) 17 = .ok (.invokevirtual 39, 3) := by decide +kernel
theorem i_W_fillByDraws_20 : decode (mb 128) 20 = .ok (.ifCond .eq 7, 3) := by decide +kernel
theorem i_W_fillByDraws_23 : decode (mb 128) 23 = .ok (.iconst 0, 1) := by decide +kernel
theorem i_W_fillByDraws_24 : decode (mb 128) 24 = .ok (.goto 12, 3) := by decide +kernel
theorem i_W_fillByDraws_27 : decode (mb 128) 27 = .ok (.aload_n 1, 1) := by decide +kernel
theorem i_W_fillByDraws_28 : decode (mb 128) 28 = .ok (.iload_n 2, 1) := by decide +kernel
theorem i_W_fillByDraws_29 : decode (mb 128) 29 = .ok (.aload_n 0, 1) := by decide +kernel
theorem i_W_fillByDraws_30 : decode (mb 128) 30 = .ok (.getfield 19, 3) := by decide +kernel
theorem i_W_fillByDraws_33 : decode (mb 128) 33 = .ok (.invokevirtual 43, 3) := by decide +kernel
theorem i_W_fillByDraws_36 : decode (mb 128) 36 = .ok (.istore_n 3, 1) := by decide +kernel
theorem i_W_fillByDraws_37 : decode (mb 128) 37 = .ok (.iload_n 3, 1) := by decide +kernel
theorem i_W_fillByDraws_38 : decode (mb 128) 38 = .ok (.ifCond .eq 20, 3) := by decide +kernel
theorem i_W_fillByDraws_41 : decode (mb 128) 41 = .ok (.aload_n 0, 1) := by decide +kernel
theorem i_W_fillByDraws_42 : decode (mb 128) 42 = .ok (.iload_n 2, 1) := by decide +kernel
theorem i_W_fillByDraws_43 : decode (mb 128) 43 = .ok (.iload_n 3, 1) := by decide +kernel
theorem i_W_fillByDraws_44 : decode (mb 128) 44 = .ok (.aload_n 1, 1) := by decide +kernel
theorem i_W_fillByDraws_45 : decode (mb 128) 45 = .ok (.iload_n 3, 1) := by decide +kernel
theorem i_W_fillByDraws_46 : decode (mb 128) 46 = .ok (.invokestatic 61, 3) := by decide +kernel
theorem i_W_fillByDraws_49 : decode (mb 128) 49 = .ok (.invokevirtual 67, 3) := by decide +kernel
theorem i_W_fillByDraws_52 : decode (mb 128) 52 = .ok (.invokestatic 70, 3) := by decide +kernel
theorem i_W_fillByDraws_55 : decode (mb 128) 55 = .ok (.invokevirtual 51, 3) := by decide +kernel
theorem i_W_fillByDraws_58 : decode (mb 128) 58 = .ok (.iinc 2 1, 3) := by decide +kernel
theorem i_W_fillByDraws_61 : decode (mb 128) 61 = .ok (.goto (-55), 3) := by decide +kernel
theorem i_W_fillByDraws_64 : decode (mb 128) 64 = .ok (.return_, 1) := by decide +kernel
theorem o_T_draw : (mn 129).cls = "NeedsALoser$Town" := by decide +kernel
theorem l_T_draw : ml 129 = 2 := by decide +kernel
theorem t_T_draw : mr 129 = some (FieldType.int) := by decide +kernel
theorem i_T_draw_0 : decode (mb 129) 0 = .ok (.aload_n 0, 1) := by decide +kernel
theorem i_T_draw_1 : decode (mb 129) 1 = .ok (.aload_n 0, 1) := by decide +kernel
theorem i_T_draw_2 : decode (mb 129) 2 = .ok (.getfield 30, 3) := by decide +kernel
theorem i_T_draw_5 : decode (mb 129) 5 = .ok (.ldc 114, 2) := by decide +kernel
theorem i_T_draw_7 : decode (mb 129) 7 = .ok (.imul, 1) := by decide +kernel
theorem i_T_draw_8 : decode (mb 129) 8 = .ok (.sipush 12345, 3) := by decide +kernel
theorem i_T_draw_11 : decode (mb 129) 11 = .ok (.iadd, 1) := by decide +kernel
theorem i_T_draw_12 : decode (mb 129) 12 = .ok (.putfield 30, 3) := by decide +kernel
theorem i_T_draw_15 : decode (mb 129) 15 = .ok (.iload_n 1, 1) := by decide +kernel
theorem i_T_draw_16 : decode (mb 129) 16 = .ok (.ifCond .le 15, 3) := by decide +kernel
theorem i_T_draw_19 : decode (mb 129) 19 = .ok (.aload_n 0, 1) := by decide +kernel
theorem i_T_draw_20 : decode (mb 129) 20 = .ok (.getfield 30, 3) := by decide +kernel
theorem i_T_draw_23 : decode (mb 129) 23 = .ok (.bipush 16, 2) := by decide +kernel
theorem i_T_draw_25 : decode (mb 129) 25 = .ok (.iushr, 1) := by decide +kernel
theorem i_T_draw_26 : decode (mb 129) 26 = .ok (.iload_n 1, 1) := by decide +kernel
theorem i_T_draw_27 : decode (mb 129) 27 = .ok (.irem, 1) := by decide +kernel
theorem i_T_draw_28 : decode (mb 129) 28 = .ok (.goto 4, 3) := by decide +kernel
theorem i_T_draw_31 : decode (mb 129) 31 = .ok (.iconst 0, 1) := by decide +kernel
theorem i_T_draw_32 : decode (mb 129) 32 = .ok (.ireturn, 1) := by decide +kernel
theorem o_W_bitOfPlace : (mn 130).cls = "NeedsALoser$Week" := by decide +kernel
theorem l_W_bitOfPlace : ml 130 = 4 := by decide +kernel
theorem t_W_bitOfPlace : mr 130 = some (FieldType.int) := by decide +kernel
theorem i_W_bitOfPlace_0 : decode (mb 130) 0 = .ok (.iconst 0, 1) := by decide +kernel
theorem i_W_bitOfPlace_1 : decode (mb 130) 1 = .ok (.istore_n 2, 1) := by decide +kernel
theorem i_W_bitOfPlace_2 : decode (mb 130) 2 = .ok (.iconst 0, 1) := by decide +kernel
theorem i_W_bitOfPlace_3 : decode (mb 130) 3 = .ok (.istore_n 3, 1) := by decide +kernel
theorem i_W_bitOfPlace_4 : decode (mb 130) 4 = .ok (.iload_n 3, 1) := by decide +kernel
theorem i_W_bitOfPlace_5 : decode (mb 130) 5 = .ok (.bipush 7, 2) := by decide +kernel
theorem i_W_bitOfPlace_7 : decode (mb 130) 7 = .ok (.if_icmp .ge 27, 3) := by decide +kernel
theorem i_W_bitOfPlace_10 : decode (mb 130) 10 = .ok (.iload_n 0, 1) := by decide +kernel
theorem i_W_bitOfPlace_11 : decode (mb 130) 11 = .ok (.iload_n 3, 1) := by decide +kernel
theorem i_W_bitOfPlace_12 : decode (mb 130) 12 = .ok (.invokestatic 47, 3) := by decide +kernel
theorem i_W_bitOfPlace_15 : decode (mb 130) 15 = .ok (.ifCond .eq 13, 3) := by decide +kernel
theorem i_W_bitOfPlace_18 : decode (mb 130) 18 = .ok (.iload_n 2, 1) := by decide +kernel
theorem i_W_bitOfPlace_19 : decode (mb 130) 19 = .ok (.iload_n 1, 1) := by decide +kernel
theorem i_W_bitOfPlace_20 : decode (mb 130) 20 = .ok (.if_icmp .ne 5, 3) := by decide +kernel
theorem i_W_bitOfPlace_23 : decode (mb 130) 23 = .ok (.iload_n 3, 1) := by decide +kernel
theorem i_W_bitOfPlace_24 : decode (mb 130) 24 = .ok (.ireturn, 1) := by decide +kernel
theorem i_W_bitOfPlace_25 : decode (mb 130) 25 = .ok (.iinc 2 1, 3) := by decide +kernel
theorem i_W_bitOfPlace_28 : decode (mb 130) 28 = .ok (.iinc 3 1, 3) := by decide +kernel
theorem i_W_bitOfPlace_31 : decode (mb 130) 31 = .ok (.goto (-27), 3) := by decide +kernel
theorem i_W_bitOfPlace_34 : decode (mb 130) 34 = .ok (.iconst (-1), 1) := by decide +kernel
theorem i_W_bitOfPlace_35 : decode (mb 130) 35 = .ok (.ireturn, 1) := by decide +kernel
theorem o_N_weeks : (mn 131).cls = "NeedsALoser" := by decide +kernel
theorem l_N_weeks : ml 131 = 4 := by decide +kernel
theorem t_N_weeks : mr 131 = some (FieldType.int) := by decide +kernel
theorem i_N_weeks_0 : decode (mb 131) 0 = .ok (.iload_n 1, 1) := by decide +kernel
theorem i_N_weeks_1 : decode (mb 131) 1 = .ok (.iconst 1, 1) := by decide +kernel
theorem i_N_weeks_2 : decode (mb 131) 2 = .ok (.bipush 30, 2) := by decide +kernel
theorem i_N_weeks_4 : decode (mb 131) 4 = .ok (.invokestatic 62, 3) := by decide +kernel
theorem i_N_weeks_7 : decode (mb 131) 7 = .ok (.ifCond .ne 10, 3) := by decide +kernel
theorem i_N_weeks_10 : decode (mb 131) 10 = .ok (.aload_n 0, 1) := by decide +kernel
theorem i_N_weeks_11 : decode (mb 131) 11 = .ok (.bipush (-2), 2) := by decide +kernel
theorem i_N_weeks_13 : decode (mb 131) 13 = .ok (.invokevirtual 66, 3) := by decide +kernel
theorem i_N_weeks_16 : decode (mb 131) 16 = .ok (.ireturn, 1) := by decide +kernel
theorem i_N_weeks_17 : decode (mb 131) 17 = .ok (.iconst 0, 1) := by decide +kernel
theorem i_N_weeks_18 : decode (mb 131) 18 = .ok (.istore_n 2, 1) := by decide +kernel
theorem i_N_weeks_19 : decode (mb 131) 19 = .ok (.iconst 0, 1) := by decide +kernel
theorem i_N_weeks_20 : decode (mb 131) 20 = .ok (.istore_n 3, 1) := by decide +kernel
theorem i_N_weeks_21 : decode (mb 131) 21 = .ok (.iload_n 3, 1) := by decide +kernel
theorem i_N_weeks_22 : decode (mb 131) 22 = .ok (.iload_n 1, 1) := by decide +kernel
theorem i_N_weeks_23 : decode (mb 131) 23 = .ok (.if_icmp .ge 34, 3) := by decide +kernel
theorem i_N_weeks_26 : decode (mb 131) 26 = .ok (.aload_n 0, 1) := by decide +kernel
theorem i_N_weeks_27 : decode (mb 131) 27 = .ok (.getfield 43, 3) := by decide +kernel
theorem i_N_weeks_30 : decode (mb 131) 30 = .ok (.aload_n 0, 1) := by decide +kernel
theorem i_N_weeks_31 : decode (mb 131) 31 = .ok (.getfield 10, 3) := by decide +kernel
theorem i_N_weeks_34 : decode (mb 131) 34 = .ok (.invokevirtual 248, 3) := by decide +kernel
theorem i_N_weeks_37 : decode (mb 131) 37 = .ok (.iload_n 2, 1) := by decide +kernel
theorem i_N_weeks_38 : decode (mb 131) 38 = .ok (.aload_n 0, 1) := by decide +kernel
theorem i_N_weeks_39 : decode (mb 131) 39 = .ok (.getfield 43, 3) := by decide +kernel
theorem i_N_weeks_42 : decode (mb 131) 42 = .ok (.aload_n 0, 1) := by decide +kernel
theorem i_N_weeks_43 : decode (mb 131) 43 = .ok (.getfield 10, 3) := by decide +kernel
theorem i_N_weeks_46 : decode (mb 131) 46 = .ok (.invokevirtual 245, 3) := by decide +kernel
theorem i_N_weeks_49 : decode (mb 131) 49 = .ok (.iadd, 1) := by decide +kernel
theorem i_N_weeks_50 : decode (mb 131) 50 = .ok (.istore_n 2, 1) := by decide +kernel
theorem i_N_weeks_51 : decode (mb 131) 51 = .ok (.iinc 3 1, 3) := by decide +kernel
theorem i_N_weeks_54 : decode (mb 131) 54 = .ok (.goto (-33), 3) := by decide +kernel
theorem i_N_weeks_57 : decode (mb 131) 57 = .ok (.iload_n 2, 1) := by decide +kernel
theorem i_N_weeks_58 : decode (mb 131) 58 = .ok (.ireturn, 1) := by decide +kernel
theorem o_N_best : (mn 132).cls = "NeedsALoser" := by decide +kernel
theorem l_N_best : ml 132 = 1 := by decide +kernel
theorem t_N_best : mr 132 = some (FieldType.int) := by decide +kernel
theorem i_N_best_0 : decode (mb 132) 0 = .ok (.aload_n 0, 1) := by decide +kernel
theorem i_N_best_1 : decode (mb 132) 1 = .ok (.getfield 50, 3) := by decide +kernel
theorem i_N_best_4 : decode (mb 132) 4 = .ok (.aload_n 0, 1) := by decide +kernel
theorem i_N_best_5 : decode (mb 132) 5 = .ok (.getfield 10, 3) := by decide +kernel
theorem i_N_best_8 : decode (mb 132) 8 = .ok (.aload_n 0, 1) := by decide +kernel
theorem i_N_best_9 : decode (mb 132) 9 = .ok (.getfield 10, 3) := by decide +kernel
theorem i_N_best_12 : decode (mb 132) 12 = .ok (.invokevirtual 251, 3) := by decide +kernel
theorem i_N_best_15 : decode (mb 132) 15 = .ok (.invokevirtual 254, 3) := by decide +kernel
theorem i_N_best_18 : decode (mb 132) 18 = .ok (.ireturn, 1) := by decide +kernel
theorem o_T_everybody : (mn 133).cls = "NeedsALoser$Town" := by decide +kernel
theorem l_T_everybody : ml 133 = 1 := by decide +kernel
theorem t_T_everybody : mr 133 = some (FieldType.int) := by decide +kernel
theorem i_T_everybody_0 : decode (mb 133) 0 = .ok (.iconst 1, 1) := by decide +kernel
theorem i_T_everybody_1 : decode (mb 133) 1 = .ok (.aload_n 0, 1) := by decide +kernel
theorem i_T_everybody_2 : decode (mb 133) 2 = .ok (.getfield 9, 3) := by decide +kernel
theorem i_T_everybody_5 : decode (mb 133) 5 = .ok (.ishl, 1) := by decide +kernel
theorem i_T_everybody_6 : decode (mb 133) 6 = .ok (.iconst 1, 1) := by decide +kernel
theorem i_T_everybody_7 : decode (mb 133) 7 = .ok (.isub, 1) := by decide +kernel
theorem i_T_everybody_8 : decode (mb 133) 8 = .ok (.ireturn, 1) := by decide +kernel
theorem o_E_bestValue : (mn 134).cls = "NeedsALoser$Search" := by decide +kernel
theorem l_E_bestValue : ml 134 = 3 := by decide +kernel
theorem t_E_bestValue : mr 134 = some (FieldType.int) := by decide +kernel
theorem i_E_bestValue_0 : decode (mb 134) 0 = .ok (.aload_n 0, 1) := by decide +kernel
theorem i_E_bestValue_1 : decode (mb 134) 1 = .ok (.aload_n 1, 1) := by decide +kernel
theorem i_E_bestValue_2 : decode (mb 134) 2 = .ok (.iload_n 2, 1) := by decide +kernel
theorem i_E_bestValue_3 : decode (mb 134) 3 = .ok (.iconst 1, 1) := by decide +kernel
theorem i_E_bestValue_4 : decode (mb 134) 4 = .ok (.invokevirtual 31, 3) := by decide +kernel
theorem i_E_bestValue_7 : decode (mb 134) 7 = .ok (.invokestatic 35, 3) := by decide +kernel
theorem i_E_bestValue_10 : decode (mb 134) 10 = .ok (.ireturn, 1) := by decide +kernel
theorem o_E_greatestKey : (mn 135).cls = "NeedsALoser$Search" := by decide +kernel
theorem l_E_greatestKey : ml 135 = 8 := by decide +kernel
theorem t_E_greatestKey : mr 135 = some (FieldType.long) := by decide +kernel
theorem i_E_greatestKey_0 : decode (mb 135) 0 = .ok (.aload_n 0, 1) := by decide +kernel
theorem i_E_greatestKey_1 : decode (mb 135) 1 = .ok (.aload_n 1, 1) := by decide +kernel
theorem i_E_greatestKey_2 : decode (mb 135) 2 = .ok (.invokevirtual 94, 3) := by decide +kernel
theorem i_E_greatestKey_5 : decode (mb 135) 5 = .ok (.istore 4, 2) := by decide +kernel
theorem i_E_greatestKey_7 : decode (mb 135) 7 = .ok (.iconst 0, 1) := by decide +kernel
theorem i_E_greatestKey_8 : decode (mb 135) 8 = .ok (.istore 5, 2) := by decide +kernel
theorem i_E_greatestKey_10 : decode (mb 135) 10 = .ok (.iload 5, 2) := by decide +kernel
theorem i_E_greatestKey_12 : decode (mb 135) 12 = .ok (.iload 4, 2) := by decide +kernel
theorem i_E_greatestKey_14 : decode (mb 135) 14 = .ok (.if_icmp .ge 19, 3) := by decide +kernel
theorem i_E_greatestKey_17 : decode (mb 135) 17 = .ok (.aload_n 0, 1) := by decide +kernel
theorem i_E_greatestKey_18 : decode (mb 135) 18 = .ok (.getfield 17, 3) := by decide +kernel
theorem i_E_greatestKey_21 : decode (mb 135) 21 = .ok (.iload 5, 2) := by decide +kernel
theorem i_E_greatestKey_23 : decode (mb 135) 23 = .ok (.ldc2_w 106, 3) := by decide +kernel
theorem i_E_greatestKey_26 : decode (mb 135) 26 = .ok (.lastore, 1) := by decide +kernel
theorem i_E_greatestKey_27 : decode (mb 135) 27 = .ok (.iinc 5 1, 3) := by decide +kernel
theorem i_E_greatestKey_30 : decode (mb 135) 30 = .ok (.goto (-20), 3) := by decide +kernel
theorem i_E_greatestKey_33 : decode (mb 135) 33 = .ok (.aload_n 0, 1) := by decide +kernel
theorem i_E_greatestKey_34 : decode (mb 135) 34 = .ok (.getfield 17, 3) := by decide +kernel
theorem i_E_greatestKey_37 : decode (mb 135) 37 = .ok (.iconst 0, 1) := by decide +kernel
theorem i_E_greatestKey_38 : decode (mb 135) 38 = .ok (.lconst 0, 1) := by decide +kernel
theorem i_E_greatestKey_39 : decode (mb 135) 39 = .ok (.lastore, 1) := by decide +kernel
theorem i_E_greatestKey_40 : decode (mb 135) 40 = .ok (.iconst 0, 1) := by decide +kernel
theorem i_E_greatestKey_41 : decode (mb 135) 41 = .ok (.istore 5, 2) := by decide +kernel
theorem i_E_greatestKey_43 : decode (mb 135) 43 = .ok (.iload 5, 2) := by decide +kernel
theorem i_E_greatestKey_45 : decode (mb 135) 45 = .ok (.aload_n 1, 1) := by decide +kernel
theorem i_E_greatestKey_46 : decode (mb 135) 46 = .ok (.getfield 108, 3) := by decide +kernel
theorem i_E_greatestKey_49 : decode (mb 135) 49 = .ok (.if_icmp .ge 70, 3) := by decide +kernel
theorem i_E_greatestKey_52 : decode (mb 135) 52 = .ok (.iload_n 2, 1) := by decide +kernel
theorem i_E_greatestKey_53 : decode (mb 135) 53 = .ok (.iload 5, 2) := by decide +kernel
theorem i_E_greatestKey_55 : decode (mb 135) 55 = .ok (.invokestatic 111, 3) := by decide +kernel
theorem i_E_greatestKey_58 : decode (mb 135) 58 = .ok (.ifCond .eq 55, 3) := by decide +kernel
theorem i_E_greatestKey_61 : decode (mb 135) 61 = .ok (.aload_n 0, 1) := by decide +kernel
theorem i_E_greatestKey_62 : decode (mb 135) 62 = .ok (.aload_n 1, 1) := by decide +kernel
theorem i_E_greatestKey_63 : decode (mb 135) 63 = .ok (.iload 5, 2) := by decide +kernel
theorem i_E_greatestKey_65 : decode (mb 135) 65 = .ok (.iload_n 3, 1) := by decide +kernel
theorem i_E_greatestKey_66 : decode (mb 135) 66 = .ok (.invokevirtual 114, 3) := by decide +kernel
theorem i_E_greatestKey_69 : decode (mb 135) 69 = .ok (.iload_n 3, 1) := by decide +kernel
theorem i_E_greatestKey_70 : decode (mb 135) 70 = .ok (.ifCond .eq 7, 3) := by decide +kernel
theorem i_E_greatestKey_73 : decode (mb 135) 73 = .ok (.iconst 0, 1) := by decide +kernel
theorem i_E_greatestKey_74 : decode (mb 135) 74 = .ok (.goto 11, 3) := by decide +kernel
theorem i_E_greatestKey_77 : decode (mb 135) 77 = .ok (.sipush 128, 3) := by decide +kernel
theorem i_E_greatestKey_80 : decode (mb 135) 80 = .ok (.iconst 1, 1) := by decide +kernel
theorem i_E_greatestKey_81 : decode (mb 135) 81 = .ok (.iload 5, 2) := by decide +kernel
theorem i_E_greatestKey_83 : decode (mb 135) 83 = .ok (.ishl, 1) := by decide +kernel
theorem i_E_greatestKey_84 : decode (mb 135) 84 = .ok (.iadd, 1) := by decide +kernel
theorem i_E_greatestKey_85 : decode (mb 135) 85 = .ok (.istore 6, 2) := by decide +kernel
theorem i_E_greatestKey_87 : decode (mb 135) 87 = .ok (.aload_n 0, 1) := by decide +kernel
theorem i_E_greatestKey_88 : decode (mb 135) 88 = .ok (.aload_n 1, 1) := by decide +kernel
theorem i_E_greatestKey_89 : decode (mb 135) 89 = .ok (.iload 5, 2) := by decide +kernel
theorem i_E_greatestKey_91 : decode (mb 135) 91 = .ok (.invokevirtual 118, 3) := by decide +kernel
theorem i_E_greatestKey_94 : decode (mb 135) 94 = .ok (.iload 6, 2) := by decide +kernel
theorem i_E_greatestKey_96 : decode (mb 135) 96 = .ok (.aload_n 1, 1) := by decide +kernel
theorem i_E_greatestKey_97 : decode (mb 135) 97 = .ok (.getfield 85, 3) := by decide +kernel
theorem i_E_greatestKey_100 : decode (mb 135) 100 = .ok (.ifCond .ne 7, 3) := by decide +kernel
theorem i_E_greatestKey_103 : decode (mb 135) 103 = .ok (.iconst 1, 1) := by decide +kernel
theorem i_E_greatestKey_104 : decode (mb 135) 104 = .ok (.goto 4, 3) := by decide +kernel
theorem i_E_greatestKey_107 : decode (mb 135) 107 = .ok (.iconst 0, 1) := by decide +kernel
theorem i_E_greatestKey_108 : decode (mb 135) 108 = .ok (.iload 4, 2) := by decide +kernel
theorem i_E_greatestKey_110 : decode (mb 135) 110 = .ok (.invokevirtual 121, 3) := by decide +kernel
theorem i_E_greatestKey_113 : decode (mb 135) 113 = .ok (.iinc 5 1, 3) := by decide +kernel
theorem i_E_greatestKey_116 : decode (mb 135) 116 = .ok (.goto (-73), 3) := by decide +kernel
theorem i_E_greatestKey_119 : decode (mb 135) 119 = .ok (.lconst 0, 1) := by decide +kernel
theorem i_E_greatestKey_120 : decode (mb 135) 120 = .ok (.lstore 5, 2) := by decide +kernel
theorem i_E_greatestKey_122 : decode (mb 135) 122 = .ok (.iconst 0, 1) := by decide +kernel
theorem i_E_greatestKey_123 : decode (mb 135) 123 = .ok (.istore 7, 2) := by decide +kernel
theorem i_E_greatestKey_125 : decode (mb 135) 125 = .ok (.iload 7, 2) := by decide +kernel
theorem i_E_greatestKey_127 : decode (mb 135) 127 = .ok (.iload 4, 2) := by decide +kernel
theorem i_E_greatestKey_129 : decode (mb 135) 129 = .ok (.if_icmp .ge 23, 3) := by decide +kernel
theorem i_E_greatestKey_132 : decode (mb 135) 132 = .ok (.lload 5, 2) := by decide +kernel
theorem i_E_greatestKey_134 : decode (mb 135) 134 = .ok (.aload_n 0, 1) := by decide +kernel
theorem i_E_greatestKey_135 : decode (mb 135) 135 = .ok (.getfield 17, 3) := by decide +kernel
theorem i_E_greatestKey_138 : decode (mb 135) 138 = .ok (.iload 7, 2) := by decide +kernel
theorem i_E_greatestKey_140 : decode (mb 135) 140 = .ok (.laload, 1) := by decide +kernel
theorem i_E_greatestKey_141 : decode (mb 135) 141 = .ok (.invokestatic 125, 3) := by decide +kernel
theorem i_E_greatestKey_144 : decode (mb 135) 144 = .ok (.lstore 5, 2) := by decide +kernel
theorem i_E_greatestKey_146 : decode (mb 135) 146 = .ok (.iinc 7 1, 3) := by decide +kernel
theorem i_E_greatestKey_149 : decode (mb 135) 149 = .ok (.goto (-24), 3) := by decide +kernel
theorem i_E_greatestKey_152 : decode (mb 135) 152 = .ok (.lload 5, 2) := by decide +kernel
theorem i_E_greatestKey_154 : decode (mb 135) 154 = .ok (.lreturn, 1) := by decide +kernel
theorem o_E_findApart : (mn 136).cls = "NeedsALoser$Search" := by decide +kernel
theorem l_E_findApart : ml 136 = 6 := by decide +kernel
theorem t_E_findApart : mr 136 = some (FieldType.int) := by decide +kernel
theorem i_E_findApart_0 : decode (mb 136) 0 = .ok (.iconst 1, 1) := by decide +kernel
theorem i_E_findApart_1 : decode (mb 136) 1 = .ok (.aload_n 1, 1) := by decide +kernel
theorem i_E_findApart_2 : decode (mb 136) 2 = .ok (.getfield 57, 3) := by decide +kernel
theorem i_E_findApart_5 : decode (mb 136) 5 = .ok (.ishl, 1) := by decide +kernel
theorem i_E_findApart_6 : decode (mb 136) 6 = .ok (.sipush 128, 3) := by decide +kernel
theorem i_E_findApart_9 : decode (mb 136) 9 = .ok (.invokestatic 127, 3) := by decide +kernel
theorem i_E_findApart_12 : decode (mb 136) 12 = .ok (.istore_n 2, 1) := by decide +kernel
theorem i_E_findApart_13 : decode (mb 136) 13 = .ok (.aload_n 0, 1) := by decide +kernel
theorem i_E_findApart_14 : decode (mb 136) 14 = .ok (.getfield 13, 3) := by decide +kernel
theorem i_E_findApart_17 : decode (mb 136) 17 = .ok (.iconst 0, 1) := by decide +kernel
theorem i_E_findApart_18 : decode (mb 136) 18 = .ok (.iconst 1, 1) := by decide +kernel
theorem i_E_findApart_19 : decode (mb 136) 19 = .ok (.bastore, 1) := by decide +kernel
theorem i_E_findApart_20 : decode (mb 136) 20 = .ok (.iconst 1, 1) := by decide +kernel
theorem i_E_findApart_21 : decode (mb 136) 21 = .ok (.istore_n 3, 1) := by decide +kernel
theorem i_E_findApart_22 : decode (mb 136) 22 = .ok (.iload_n 3, 1) := by decide +kernel
theorem i_E_findApart_23 : decode (mb 136) 23 = .ok (.iload_n 2, 1) := by decide +kernel
theorem i_E_findApart_24 : decode (mb 136) 24 = .ok (.if_icmp .ge 55, 3) := by decide +kernel
theorem i_E_findApart_27 : decode (mb 136) 27 = .ok (.iload_n 3, 1) := by decide +kernel
theorem i_E_findApart_28 : decode (mb 136) 28 = .ok (.iload_n 3, 1) := by decide +kernel
theorem i_E_findApart_29 : decode (mb 136) 29 = .ok (.iconst 1, 1) := by decide +kernel
theorem i_E_findApart_30 : decode (mb 136) 30 = .ok (.isub, 1) := by decide +kernel
theorem i_E_findApart_31 : decode (mb 136) 31 = .ok (.iand, 1) := by decide +kernel
theorem i_E_findApart_32 : decode (mb 136) 32 = .ok (.istore 4, 2) := by decide +kernel
theorem i_E_findApart_34 : decode (mb 136) 34 = .ok (.aload_n 1, 1) := by decide +kernel
theorem i_E_findApart_35 : decode (mb 136) 35 = .ok (.iload_n 3, 1) := by decide +kernel
theorem i_E_findApart_36 : decode (mb 136) 36 = .ok (.invokestatic 97, 3) := by decide +kernel
theorem i_E_findApart_39 : decode (mb 136) 39 = .ok (.invokevirtual 130, 3) := by decide +kernel
theorem i_E_findApart_42 : decode (mb 136) 42 = .ok (.istore 5, 2) := by decide +kernel
theorem i_E_findApart_44 : decode (mb 136) 44 = .ok (.aload_n 0, 1) := by decide +kernel
theorem i_E_findApart_45 : decode (mb 136) 45 = .ok (.getfield 13, 3) := by decide +kernel
theorem i_E_findApart_48 : decode (mb 136) 48 = .ok (.iload_n 3, 1) := by decide +kernel
theorem i_E_findApart_49 : decode (mb 136) 49 = .ok (.aload_n 0, 1) := by decide +kernel
theorem i_E_findApart_50 : decode (mb 136) 50 = .ok (.getfield 13, 3) := by decide +kernel
theorem i_E_findApart_53 : decode (mb 136) 53 = .ok (.iload 4, 2) := by decide +kernel
theorem i_E_findApart_55 : decode (mb 136) 55 = .ok (.baload, 1) := by decide +kernel
theorem i_E_findApart_56 : decode (mb 136) 56 = .ok (.ifCond .eq 15, 3) := by decide +kernel
theorem i_E_findApart_59 : decode (mb 136) 59 = .ok (.iload 5, 2) := by decide +kernel
theorem i_E_findApart_61 : decode (mb 136) 61 = .ok (.iload 4, 2) := by decide +kernel
theorem i_E_findApart_63 : decode (mb 136) 63 = .ok (.iand, 1) := by decide +kernel
theorem i_E_findApart_64 : decode (mb 136) 64 = .ok (.ifCond .ne 7, 3) := by decide +kernel
theorem i_E_findApart_67 : decode (mb 136) 67 = .ok (.iconst 1, 1) := by decide +kernel
theorem i_E_findApart_68 : decode (mb 136) 68 = .ok (.goto 4, 3) := by decide +kernel
theorem i_E_findApart_71 : decode (mb 136) 71 = .ok (.iconst 0, 1) := by decide +kernel
theorem i_E_findApart_72 : decode (mb 136) 72 = .ok (.bastore, 1) := by decide +kernel
theorem i_E_findApart_73 : decode (mb 136) 73 = .ok (.iinc 3 1, 3) := by decide +kernel
theorem i_E_findApart_76 : decode (mb 136) 76 = .ok (.goto (-54), 3) := by decide +kernel
theorem i_E_findApart_79 : decode (mb 136) 79 = .ok (.iload_n 2, 1) := by decide +kernel
theorem i_E_findApart_80 : decode (mb 136) 80 = .ok (.ireturn, 1) := by decide +kernel
theorem o_JM_min : (mn 137).cls = "java/lang/Math" := by decide +kernel
theorem l_JM_min : ml 137 = 2 := by decide +kernel
theorem t_JM_min : mr 137 = some (FieldType.int) := by decide +kernel
theorem i_JM_min_0 : decode (mb 137) 0 = .ok (.iload_n 0, 1) := by decide +kernel
theorem i_JM_min_1 : decode (mb 137) 1 = .ok (.iload_n 1, 1) := by decide +kernel
theorem i_JM_min_2 : decode (mb 137) 2 = .ok (.if_icmp .gt 7, 3) := by decide +kernel
theorem i_JM_min_5 : decode (mb 137) 5 = .ok (.iload_n 0, 1) := by decide +kernel
theorem i_JM_min_6 : decode (mb 137) 6 = .ok (.goto 4, 3) := by decide +kernel
theorem i_JM_min_9 : decode (mb 137) 9 = .ok (.iload_n 1, 1) := by decide +kernel
theorem i_JM_min_10 : decode (mb 137) 10 = .ok (.ireturn, 1) := by decide +kernel
theorem o_JI_numberOfTrailingZeros : (mn 138).cls = "java/lang/Integer" := by decide +kernel
theorem l_JI_numberOfTrailingZeros : ml 138 = 2 := by decide +kernel
theorem t_JI_numberOfTrailingZeros : mr 138 = some (FieldType.int) := by decide +kernel
theorem i_JI_numberOfTrailingZeros_0 : decode (mb 138) 0 = .ok (.iload_n 0, 1) := by decide +kernel
theorem i_JI_numberOfTrailingZeros_1 : decode (mb 138) 1 = .ok (.iconst (-1), 1) := by decide +kernel
theorem i_JI_numberOfTrailingZeros_2 : decode (mb 138) 2 = .ok (.ixor, 1) := by decide +kernel
theorem i_JI_numberOfTrailingZeros_3 : decode (mb 138) 3 = .ok (.iload_n 0, 1) := by decide +kernel
theorem i_JI_numberOfTrailingZeros_4 : decode (mb 138) 4 = .ok (.iconst 1, 1) := by decide +kernel
theorem i_JI_numberOfTrailingZeros_5 : decode (mb 138) 5 = .ok (.isub, 1) := by decide +kernel
theorem i_JI_numberOfTrailingZeros_6 : decode (mb 138) 6 = .ok (.iand, 1) := by decide +kernel
theorem i_JI_numberOfTrailingZeros_7 : decode (mb 138) 7 = .ok (.istore_n 0, 1) := by decide +kernel
theorem i_JI_numberOfTrailingZeros_8 : decode (mb 138) 8 = .ok (.iload_n 0, 1) := by decide +kernel
theorem i_JI_numberOfTrailingZeros_9 : decode (mb 138) 9 = .ok (.ifCond .gt 8, 3) := by decide +kernel
theorem i_JI_numberOfTrailingZeros_12 : decode (mb 138) 12 = .ok (.iload_n 0, 1) := by decide +kernel
theorem i_JI_numberOfTrailingZeros_13 : decode (mb 138) 13 = .ok (.bipush 32, 2) := by decide +kernel
theorem i_JI_numberOfTrailingZeros_15 : decode (mb 138) 15 = .ok (.iand, 1) := by decide +kernel
theorem i_JI_numberOfTrailingZeros_16 : decode (mb 138) 16 = .ok (.ireturn, 1) := by decide +kernel
theorem i_JI_numberOfTrailingZeros_17 : decode (mb 138) 17 = .ok (.iconst 1, 1) := by decide +kernel
theorem i_JI_numberOfTrailingZeros_18 : decode (mb 138) 18 = .ok (.istore_n 1, 1) := by decide +kernel
theorem i_JI_numberOfTrailingZeros_19 : decode (mb 138) 19 = .ok (.iload_n 0, 1) := by decide +kernel
theorem i_JI_numberOfTrailingZeros_20 : decode (mb 138) 20 = .ok (.ldc_w 264, 3) := by decide +kernel
theorem i_JI_numberOfTrailingZeros_23 : decode (mb 138) 23 = .ok (.if_icmp .le 11, 3) := by decide +kernel
theorem i_JI_numberOfTrailingZeros_26 : decode (mb 138) 26 = .ok (.iinc 1 16, 3) := by decide +kernel
theorem i_JI_numberOfTrailingZeros_29 : decode (mb 138) 29 = .ok (.iload_n 0, 1) := by decide +kernel
theorem i_JI_numberOfTrailingZeros_30 : decode (mb 138) 30 = .ok (.bipush 16, 2) := by decide +kernel
theorem i_JI_numberOfTrailingZeros_32 : decode (mb 138) 32 = .ok (.iushr, 1) := by decide +kernel
theorem i_JI_numberOfTrailingZeros_33 : decode (mb 138) 33 = .ok (.istore_n 0, 1) := by decide +kernel
theorem i_JI_numberOfTrailingZeros_34 : decode (mb 138) 34 = .ok (.iload_n 0, 1) := by decide +kernel
theorem i_JI_numberOfTrailingZeros_35 : decode (mb 138) 35 = .ok (.sipush 256, 3) := by decide +kernel
theorem i_JI_numberOfTrailingZeros_38 : decode (mb 138) 38 = .ok (.if_icmp .le 11, 3) := by decide +kernel
theorem i_JI_numberOfTrailingZeros_41 : decode (mb 138) 41 = .ok (.iinc 1 8, 3) := by decide +kernel
theorem i_JI_numberOfTrailingZeros_44 : decode (mb 138) 44 = .ok (.iload_n 0, 1) := by decide +kernel
theorem i_JI_numberOfTrailingZeros_45 : decode (mb 138) 45 = .ok (.bipush 8, 2) := by decide +kernel
theorem i_JI_numberOfTrailingZeros_47 : decode (mb 138) 47 = .ok (.iushr, 1) := by decide +kernel
theorem i_JI_numberOfTrailingZeros_48 : decode (mb 138) 48 = .ok (.istore_n 0, 1) := by decide +kernel
theorem i_JI_numberOfTrailingZeros_49 : decode (mb 138) 49 = .ok (.iload_n 0, 1) := by decide +kernel
theorem i_JI_numberOfTrailingZeros_50 : decode (mb 138) 50 = .ok (.bipush 16, 2) := by decide +kernel
theorem i_JI_numberOfTrailingZeros_52 : decode (mb 138) 52 = .ok (.if_icmp .le 10, 3) := by decide +kernel
theorem i_JI_numberOfTrailingZeros_55 : decode (mb 138) 55 = .ok (.iinc 1 4, 3) := by decide +kernel
theorem i_JI_numberOfTrailingZeros_58 : decode (mb 138) 58 = .ok (.iload_n 0, 1) := by decide +kernel
theorem i_JI_numberOfTrailingZeros_59 : decode (mb 138) 59 = .ok (.iconst 4, 1) := by decide +kernel
theorem i_JI_numberOfTrailingZeros_60 : decode (mb 138) 60 = .ok (.iushr, 1) := by decide +kernel
theorem i_JI_numberOfTrailingZeros_61 : decode (mb 138) 61 = .ok (.istore_n 0, 1) := by decide +kernel
theorem i_JI_numberOfTrailingZeros_62 : decode (mb 138) 62 = .ok (.iload_n 0, 1) := by decide +kernel
theorem i_JI_numberOfTrailingZeros_63 : decode (mb 138) 63 = .ok (.iconst 4, 1) := by decide +kernel
theorem i_JI_numberOfTrailingZeros_64 : decode (mb 138) 64 = .ok (.if_icmp .le 10, 3) := by decide +kernel
theorem i_JI_numberOfTrailingZeros_67 : decode (mb 138) 67 = .ok (.iinc 1 2, 3) := by decide +kernel
theorem i_JI_numberOfTrailingZeros_70 : decode (mb 138) 70 = .ok (.iload_n 0, 1) := by decide +kernel
theorem i_JI_numberOfTrailingZeros_71 : decode (mb 138) 71 = .ok (.iconst 2, 1) := by decide +kernel
theorem i_JI_numberOfTrailingZeros_72 : decode (mb 138) 72 = .ok (.iushr, 1) := by decide +kernel
theorem i_JI_numberOfTrailingZeros_73 : decode (mb 138) 73 = .ok (.istore_n 0, 1) := by decide +kernel
theorem i_JI_numberOfTrailingZeros_74 : decode (mb 138) 74 = .ok (.iload_n 1, 1) := by decide +kernel
theorem i_JI_numberOfTrailingZeros_75 : decode (mb 138) 75 = .ok (.iload_n 0, 1) := by decide +kernel
theorem i_JI_numberOfTrailingZeros_76 : decode (mb 138) 76 = .ok (.iconst 1, 1) := by decide +kernel
theorem i_JI_numberOfTrailingZeros_77 : decode (mb 138) 77 = .ok (.iushr, 1) := by decide +kernel
theorem i_JI_numberOfTrailingZeros_78 : decode (mb 138) 78 = .ok (.iadd, 1) := by decide +kernel
theorem i_JI_numberOfTrailingZeros_79 : decode (mb 138) 79 = .ok (.ireturn, 1) := by decide +kernel
theorem o_E_fillKeys : (mn 139).cls = "NeedsALoser$Search" := by decide +kernel
theorem l_E_fillKeys : ml 139 = 7 := by decide +kernel
theorem t_E_fillKeys : mr 139 = none := by decide +kernel
theorem i_E_fillKeys_0 : decode (mb 139) 0 = .ok (.iconst 0, 1) := by decide +kernel
theorem i_E_fillKeys_1 : decode (mb 139) 1 = .ok (.istore 4, 2) := by decide +kernel
theorem i_E_fillKeys_3 : decode (mb 139) 3 = .ok (.iload 4, 2) := by decide +kernel
theorem i_E_fillKeys_5 : decode (mb 139) 5 = .ok (.aload_n 1, 1) := by decide +kernel
theorem i_E_fillKeys_6 : decode (mb 139) 6 = .ok (.getfield 57, 3) := by decide +kernel
theorem i_E_fillKeys_9 : decode (mb 139) 9 = .ok (.if_icmp .ge 61, 3) := by decide +kernel
theorem i_E_fillKeys_12 : decode (mb 139) 12 = .ok (.iload 4, 2) := by decide +kernel
theorem i_E_fillKeys_14 : decode (mb 139) 14 = .ok (.aload_n 0, 1) := by decide +kernel
theorem i_E_fillKeys_15 : decode (mb 139) 15 = .ok (.getfield 24, 3) := by decide +kernel
theorem i_E_fillKeys_18 : decode (mb 139) 18 = .ok (.arraylength, 1) := by decide +kernel
theorem i_E_fillKeys_19 : decode (mb 139) 19 = .ok (.if_icmp .ge 51, 3) := by decide +kernel
theorem i_E_fillKeys_22 : decode (mb 139) 22 = .ok (.iload_n 3, 1) := by decide +kernel
theorem i_E_fillKeys_23 : decode (mb 139) 23 = .ok (.ifCond .eq 16, 3) := by decide +kernel
theorem i_E_fillKeys_26 : decode (mb 139) 26 = .ok (.iload_n 2, 1) := by decide +kernel
theorem i_E_fillKeys_27 : decode (mb 139) 27 = .ok (.i2l, 1) := by decide +kernel
theorem i_E_fillKeys_28 : decode (mb 139) 28 = .ok (.lconst 1, 1) := by decide +kernel
theorem i_E_fillKeys_29 : decode (mb 139) 29 = .ok (.ladd, 1) := by decide +kernel
theorem i_E_fillKeys_30 : decode (mb 139) 30 = .ok (.iload 4, 2) := by decide +kernel
theorem i_E_fillKeys_32 : decode (mb 139) 32 = .ok (.invokestatic 49, 3) := by decide +kernel
theorem i_E_fillKeys_35 : decode (mb 139) 35 = .ok (.lshl, 1) := by decide +kernel
theorem i_E_fillKeys_36 : decode (mb 139) 36 = .ok (.goto 4, 3) := by decide +kernel
theorem i_E_fillKeys_39 : decode (mb 139) 39 = .ok (.lconst 0, 1) := by decide +kernel
theorem i_E_fillKeys_40 : decode (mb 139) 40 = .ok (.lstore 5, 2) := by decide +kernel
theorem i_E_fillKeys_42 : decode (mb 139) 42 = .ok (.aload_n 0, 1) := by decide +kernel
theorem i_E_fillKeys_43 : decode (mb 139) 43 = .ok (.getfield 24, 3) := by decide +kernel
theorem i_E_fillKeys_46 : decode (mb 139) 46 = .ok (.iload 4, 2) := by decide +kernel
theorem i_E_fillKeys_48 : decode (mb 139) 48 = .ok (.aload_n 1, 1) := by decide +kernel
theorem i_E_fillKeys_49 : decode (mb 139) 49 = .ok (.iload 4, 2) := by decide +kernel
theorem i_E_fillKeys_51 : decode (mb 139) 51 = .ok (.iload_n 2, 1) := by decide +kernel
theorem i_E_fillKeys_52 : decode (mb 139) 52 = .ok (.invokevirtual 133, 3) := by decide +kernel
theorem i_E_fillKeys_55 : decode (mb 139) 55 = .ok (.i2l, 1) := by decide +kernel
theorem i_E_fillKeys_56 : decode (mb 139) 56 = .ok (.ldc2_w 88, 3) := by decide +kernel
theorem i_E_fillKeys_59 : decode (mb 139) 59 = .ok (.lmul, 1) := by decide +kernel
theorem i_E_fillKeys_60 : decode (mb 139) 60 = .ok (.lload 5, 2) := by decide +kernel
theorem i_E_fillKeys_62 : decode (mb 139) 62 = .ok (.lsub, 1) := by decide +kernel
theorem i_E_fillKeys_63 : decode (mb 139) 63 = .ok (.lastore, 1) := by decide +kernel
theorem i_E_fillKeys_64 : decode (mb 139) 64 = .ok (.iinc 4 1, 3) := by decide +kernel
theorem i_E_fillKeys_67 : decode (mb 139) 67 = .ok (.goto (-64), 3) := by decide +kernel
theorem i_E_fillKeys_70 : decode (mb 139) 70 = .ok (.return_, 1) := by decide +kernel
theorem o_E_shiftOf : (mn 140).cls = "NeedsALoser$Search" := by decide +kernel
theorem l_E_shiftOf : ml 140 = 1 := by decide +kernel
theorem t_E_shiftOf : mr 140 = some (FieldType.int) := by decide +kernel
theorem i_E_shiftOf_0 : decode (mb 140) 0 = .ok (.iconst 4, 1) := by decide +kernel
theorem i_E_shiftOf_1 : decode (mb 140) 1 = .ok (.bipush 6, 2) := by decide +kernel
theorem i_E_shiftOf_3 : decode (mb 140) 3 = .ok (.iload_n 0, 1) := by decide +kernel
theorem i_E_shiftOf_4 : decode (mb 140) 4 = .ok (.isub, 1) := by decide +kernel
theorem i_E_shiftOf_5 : decode (mb 140) 5 = .ok (.imul, 1) := by decide +kernel
theorem i_E_shiftOf_6 : decode (mb 140) 6 = .ok (.ireturn, 1) := by decide +kernel
theorem o_T_bargainsGoodBy : (mn 141).cls = "NeedsALoser$Town" := by decide +kernel
theorem l_T_bargainsGoodBy : ml 141 = 4 := by decide +kernel
theorem t_T_bargainsGoodBy : mr 141 = some (FieldType.int) := by decide +kernel
theorem i_T_bargainsGoodBy_0 : decode (mb 141) 0 = .ok (.iconst 0, 1) := by decide +kernel
theorem i_T_bargainsGoodBy_1 : decode (mb 141) 1 = .ok (.istore_n 2, 1) := by decide +kernel
theorem i_T_bargainsGoodBy_2 : decode (mb 141) 2 = .ok (.iconst 0, 1) := by decide +kernel
theorem i_T_bargainsGoodBy_3 : decode (mb 141) 3 = .ok (.istore_n 3, 1) := by decide +kernel
theorem i_T_bargainsGoodBy_4 : decode (mb 141) 4 = .ok (.iload_n 3, 1) := by decide +kernel
theorem i_T_bargainsGoodBy_5 : decode (mb 141) 5 = .ok (.aload_n 0, 1) := by decide +kernel
theorem i_T_bargainsGoodBy_6 : decode (mb 141) 6 = .ok (.getfield 15, 3) := by decide +kernel
theorem i_T_bargainsGoodBy_9 : decode (mb 141) 9 = .ok (.if_icmp .ge 24, 3) := by decide +kernel
theorem i_T_bargainsGoodBy_12 : decode (mb 141) 12 = .ok (.aload_n 0, 1) := by decide +kernel
theorem i_T_bargainsGoodBy_13 : decode (mb 141) 13 = .ok (.iload_n 3, 1) := by decide +kernel
theorem i_T_bargainsGoodBy_14 : decode (mb 141) 14 = .ok (.iload_n 1, 1) := by decide +kernel
theorem i_T_bargainsGoodBy_15 : decode (mb 141) 15 = .ok (.invokevirtual 105, 3) := by decide +kernel
theorem i_T_bargainsGoodBy_18 : decode (mb 141) 18 = .ok (.ifCond .eq 9, 3) := by decide +kernel
theorem i_T_bargainsGoodBy_21 : decode (mb 141) 21 = .ok (.iload_n 2, 1) := by decide +kernel
theorem i_T_bargainsGoodBy_22 : decode (mb 141) 22 = .ok (.iconst 1, 1) := by decide +kernel
theorem i_T_bargainsGoodBy_23 : decode (mb 141) 23 = .ok (.iload_n 3, 1) := by decide +kernel
theorem i_T_bargainsGoodBy_24 : decode (mb 141) 24 = .ok (.ishl, 1) := by decide +kernel
theorem i_T_bargainsGoodBy_25 : decode (mb 141) 25 = .ok (.ior, 1) := by decide +kernel
theorem i_T_bargainsGoodBy_26 : decode (mb 141) 26 = .ok (.istore_n 2, 1) := by decide +kernel
theorem i_T_bargainsGoodBy_27 : decode (mb 141) 27 = .ok (.iinc 3 1, 3) := by decide +kernel
theorem i_T_bargainsGoodBy_30 : decode (mb 141) 30 = .ok (.goto (-26), 3) := by decide +kernel
theorem i_T_bargainsGoodBy_33 : decode (mb 141) 33 = .ok (.iload_n 2, 1) := by decide +kernel
theorem i_T_bargainsGoodBy_34 : decode (mb 141) 34 = .ok (.ireturn, 1) := by decide +kernel
theorem o_E_addThird : (mn 142).cls = "NeedsALoser$Search" := by decide +kernel
theorem l_E_addThird : ml 142 = 11 := by decide +kernel
theorem t_E_addThird : mr 142 = none := by decide +kernel
theorem i_E_addThird_0 : decode (mb 142) 0 = .ok (.iconst 0, 1) := by decide +kernel
theorem i_E_addThird_1 : decode (mb 142) 1 = .ok (.istore 5, 2) := by decide +kernel
theorem i_E_addThird_3 : decode (mb 142) 3 = .ok (.iload 5, 2) := by decide +kernel
theorem i_E_addThird_5 : decode (mb 142) 5 = .ok (.iload 4, 2) := by decide +kernel
theorem i_E_addThird_7 : decode (mb 142) 7 = .ok (.if_icmp .ge 145, 3) := by decide +kernel
theorem i_E_addThird_10 : decode (mb 142) 10 = .ok (.aload_n 0, 1) := by decide +kernel
theorem i_E_addThird_11 : decode (mb 142) 11 = .ok (.getfield 21, 3) := by decide +kernel
theorem i_E_addThird_14 : decode (mb 142) 14 = .ok (.iload 5, 2) := by decide +kernel
theorem i_E_addThird_16 : decode (mb 142) 16 = .ok (.ldc2_w 106, 3) := by decide +kernel
theorem i_E_addThird_19 : decode (mb 142) 19 = .ok (.lastore, 1) := by decide +kernel
theorem i_E_addThird_20 : decode (mb 142) 20 = .ok (.aload_n 0, 1) := by decide +kernel
theorem i_E_addThird_21 : decode (mb 142) 21 = .ok (.getfield 13, 3) := by decide +kernel
theorem i_E_addThird_24 : decode (mb 142) 24 = .ok (.iload 5, 2) := by decide +kernel
theorem i_E_addThird_26 : decode (mb 142) 26 = .ok (.baload, 1) := by decide +kernel
theorem i_E_addThird_27 : decode (mb 142) 27 = .ok (.ifCond .eq 10, 3) := by decide +kernel
theorem i_E_addThird_30 : decode (mb 142) 30 = .ok (.iload 5, 2) := by decide +kernel
theorem i_E_addThird_32 : decode (mb 142) 32 = .ok (.iload_n 1, 1) := by decide +kernel
theorem i_E_addThird_33 : decode (mb 142) 33 = .ok (.iand, 1) := by decide +kernel
theorem i_E_addThird_34 : decode (mb 142) 34 = .ok (.goto 4, 3) := by decide +kernel
theorem i_E_addThird_37 : decode (mb 142) 37 = .ok (.iconst 0, 1) := by decide +kernel
theorem i_E_addThird_38 : decode (mb 142) 38 = .ok (.istore 6, 2) := by decide +kernel
theorem i_E_addThird_40 : decode (mb 142) 40 = .ok (.iconst 0, 1) := by decide +kernel
theorem i_E_addThird_41 : decode (mb 142) 41 = .ok (.istore 7, 2) := by decide +kernel
theorem i_E_addThird_43 : decode (mb 142) 43 = .ok (.iload 7, 2) := by decide +kernel
theorem i_E_addThird_45 : decode (mb 142) 45 = .ok (.aload_n 0, 1) := by decide +kernel
theorem i_E_addThird_46 : decode (mb 142) 46 = .ok (.getfield 24, 3) := by decide +kernel
theorem i_E_addThird_49 : decode (mb 142) 49 = .ok (.arraylength, 1) := by decide +kernel
theorem i_E_addThird_50 : decode (mb 142) 50 = .ok (.if_icmp .ge 96, 3) := by decide +kernel
theorem i_E_addThird_53 : decode (mb 142) 53 = .ok (.iload 6, 2) := by decide +kernel
theorem i_E_addThird_55 : decode (mb 142) 55 = .ok (.iload 7, 2) := by decide +kernel
theorem i_E_addThird_57 : decode (mb 142) 57 = .ok (.ishr, 1) := by decide +kernel
theorem i_E_addThird_58 : decode (mb 142) 58 = .ok (.ifCond .eq 88, 3) := by decide +kernel
theorem i_E_addThird_61 : decode (mb 142) 61 = .ok (.iload 6, 2) := by decide +kernel
theorem i_E_addThird_63 : decode (mb 142) 63 = .ok (.iload 7, 2) := by decide +kernel
theorem i_E_addThird_65 : decode (mb 142) 65 = .ok (.ishr, 1) := by decide +kernel
theorem i_E_addThird_66 : decode (mb 142) 66 = .ok (.iconst 1, 1) := by decide +kernel
theorem i_E_addThird_67 : decode (mb 142) 67 = .ok (.iand, 1) := by decide +kernel
theorem i_E_addThird_68 : decode (mb 142) 68 = .ok (.iconst 1, 1) := by decide +kernel
theorem i_E_addThird_69 : decode (mb 142) 69 = .ok (.if_icmp .ne 71, 3) := by decide +kernel
theorem i_E_addThird_72 : decode (mb 142) 72 = .ok (.iload 5, 2) := by decide +kernel
theorem i_E_addThird_74 : decode (mb 142) 74 = .ok (.iconst 1, 1) := by decide +kernel
theorem i_E_addThird_75 : decode (mb 142) 75 = .ok (.iload 7, 2) := by decide +kernel
theorem i_E_addThird_77 : decode (mb 142) 77 = .ok (.ishl, 1) := by decide +kernel
theorem i_E_addThird_78 : decode (mb 142) 78 = .ok (.iconst (-1), 1) := by decide +kernel
theorem i_E_addThird_79 : decode (mb 142) 79 = .ok (.ixor, 1) := by decide +kernel
theorem i_E_addThird_80 : decode (mb 142) 80 = .ok (.iand, 1) := by decide +kernel
theorem i_E_addThird_81 : decode (mb 142) 81 = .ok (.istore 8, 2) := by decide +kernel
theorem i_E_addThird_83 : decode (mb 142) 83 = .ok (.aload_n 0, 1) := by decide +kernel
theorem i_E_addThird_84 : decode (mb 142) 84 = .ok (.getfield 17, 3) := by decide +kernel
theorem i_E_addThird_87 : decode (mb 142) 87 = .ok (.iload 8, 2) := by decide +kernel
theorem i_E_addThird_89 : decode (mb 142) 89 = .ok (.laload, 1) := by decide +kernel
theorem i_E_addThird_90 : decode (mb 142) 90 = .ok (.iload_n 2, 1) := by decide +kernel
theorem i_E_addThird_91 : decode (mb 142) 91 = .ok (.i2l, 1) := by decide +kernel
theorem i_E_addThird_92 : decode (mb 142) 92 = .ok (.lsub, 1) := by decide +kernel
theorem i_E_addThird_93 : decode (mb 142) 93 = .ok (.lstore 9, 2) := by decide +kernel
theorem i_E_addThird_95 : decode (mb 142) 95 = .ok (.iload_n 3, 1) := by decide +kernel
theorem i_E_addThird_96 : decode (mb 142) 96 = .ok (.ifCond .eq 17, 3) := by decide +kernel
theorem i_E_addThird_99 : decode (mb 142) 99 = .ok (.lload 9, 2) := by decide +kernel
theorem i_E_addThird_101 : decode (mb 142) 101 = .ok (.aload_n 0, 1) := by decide +kernel
theorem i_E_addThird_102 : decode (mb 142) 102 = .ok (.getfield 21, 3) := by decide +kernel
theorem i_E_addThird_105 : decode (mb 142) 105 = .ok (.iload 8, 2) := by decide +kernel
theorem i_E_addThird_107 : decode (mb 142) 107 = .ok (.laload, 1) := by decide +kernel
theorem i_E_addThird_108 : decode (mb 142) 108 = .ok (.invokestatic 125, 3) := by decide +kernel
theorem i_E_addThird_111 : decode (mb 142) 111 = .ok (.lstore 9, 2) := by decide +kernel
theorem i_E_addThird_113 : decode (mb 142) 113 = .ok (.aload_n 0, 1) := by decide +kernel
theorem i_E_addThird_114 : decode (mb 142) 114 = .ok (.getfield 21, 3) := by decide +kernel
theorem i_E_addThird_117 : decode (mb 142) 117 = .ok (.iload 5, 2) := by decide +kernel
theorem i_E_addThird_119 : decode (mb 142) 119 = .ok (.aload_n 0, 1) := by decide +kernel
theorem i_E_addThird_120 : decode (mb 142) 120 = .ok (.getfield 21, 3) := by decide +kernel
theorem i_E_addThird_123 : decode (mb 142) 123 = .ok (.iload 5, 2) := by decide +kernel
theorem i_E_addThird_125 : decode (mb 142) 125 = .ok (.laload, 1) := by decide +kernel
theorem i_E_addThird_126 : decode (mb 142) 126 = .ok (.lload 9, 2) := by decide +kernel
theorem i_E_addThird_128 : decode (mb 142) 128 = .ok (.aload_n 0, 1) := by decide +kernel
theorem i_E_addThird_129 : decode (mb 142) 129 = .ok (.getfield 24, 3) := by decide +kernel
theorem i_E_addThird_132 : decode (mb 142) 132 = .ok (.iload 7, 2) := by decide +kernel
theorem i_E_addThird_134 : decode (mb 142) 134 = .ok (.laload, 1) := by decide +kernel
theorem i_E_addThird_135 : decode (mb 142) 135 = .ok (.ladd, 1) := by decide +kernel
theorem i_E_addThird_136 : decode (mb 142) 136 = .ok (.invokestatic 125, 3) := by decide +kernel
theorem i_E_addThird_139 : decode (mb 142) 139 = .ok (.lastore, 1) := by decide +kernel
theorem i_E_addThird_140 : decode (mb 142) 140 = .ok (.iinc 7 1, 3) := by decide +kernel
theorem i_E_addThird_143 : decode (mb 142) 143 = .ok (.goto (-100), 3) := by decide +kernel
theorem i_E_addThird_146 : decode (mb 142) 146 = .ok (.iinc 5 1, 3) := by decide +kernel
theorem i_E_addThird_149 : decode (mb 142) 149 = .ok (.goto (-146), 3) := by decide +kernel
theorem i_E_addThird_152 : decode (mb 142) 152 = .ok (.iconst 0, 1) := by decide +kernel
theorem i_E_addThird_153 : decode (mb 142) 153 = .ok (.istore 5, 2) := by decide +kernel
theorem i_E_addThird_155 : decode (mb 142) 155 = .ok (.iload 5, 2) := by decide +kernel
theorem i_E_addThird_157 : decode (mb 142) 157 = .ok (.iload 4, 2) := by decide +kernel
theorem i_E_addThird_159 : decode (mb 142) 159 = .ok (.if_icmp .ge 33, 3) := by decide +kernel
theorem i_E_addThird_162 : decode (mb 142) 162 = .ok (.aload_n 0, 1) := by decide +kernel
theorem i_E_addThird_163 : decode (mb 142) 163 = .ok (.getfield 17, 3) := by decide +kernel
theorem i_E_addThird_166 : decode (mb 142) 166 = .ok (.iload 5, 2) := by decide +kernel
theorem i_E_addThird_168 : decode (mb 142) 168 = .ok (.aload_n 0, 1) := by decide +kernel
theorem i_E_addThird_169 : decode (mb 142) 169 = .ok (.getfield 17, 3) := by decide +kernel
theorem i_E_addThird_172 : decode (mb 142) 172 = .ok (.iload 5, 2) := by decide +kernel
theorem i_E_addThird_174 : decode (mb 142) 174 = .ok (.laload, 1) := by decide +kernel
theorem i_E_addThird_175 : decode (mb 142) 175 = .ok (.aload_n 0, 1) := by decide +kernel
theorem i_E_addThird_176 : decode (mb 142) 176 = .ok (.getfield 21, 3) := by decide +kernel
theorem i_E_addThird_179 : decode (mb 142) 179 = .ok (.iload 5, 2) := by decide +kernel
theorem i_E_addThird_181 : decode (mb 142) 181 = .ok (.laload, 1) := by decide +kernel
theorem i_E_addThird_182 : decode (mb 142) 182 = .ok (.invokestatic 125, 3) := by decide +kernel
theorem i_E_addThird_185 : decode (mb 142) 185 = .ok (.lastore, 1) := by decide +kernel
theorem i_E_addThird_186 : decode (mb 142) 186 = .ok (.iinc 5 1, 3) := by decide +kernel
theorem i_E_addThird_189 : decode (mb 142) 189 = .ok (.goto (-34), 3) := by decide +kernel
theorem i_E_addThird_192 : decode (mb 142) 192 = .ok (.return_, 1) := by decide +kernel
theorem o_JM_max : (mn 143).cls = "java/lang/Math" := by decide +kernel
theorem l_JM_max : ml 143 = 4 := by decide +kernel
theorem t_JM_max : mr 143 = some (FieldType.long) := by decide +kernel
theorem i_JM_max_0 : decode (mb 143) 0 = .ok (.lload_n 0, 1) := by decide +kernel
theorem i_JM_max_1 : decode (mb 143) 1 = .ok (.lload_n 2, 1) := by decide +kernel
theorem i_JM_max_2 : decode (mb 143) 2 = .ok (.lcmp, 1) := by decide +kernel
theorem i_JM_max_3 : decode (mb 143) 3 = .ok (.ifCond .lt 7, 3) := by decide +kernel
theorem i_JM_max_6 : decode (mb 143) 6 = .ok (.lload_n 0, 1) := by decide +kernel
theorem i_JM_max_7 : decode (mb 143) 7 = .ok (.goto 4, 3) := by decide +kernel
theorem i_JM_max_10 : decode (mb 143) 10 = .ok (.lload_n 2, 1) := by decide +kernel
theorem i_JM_max_11 : decode (mb 143) 11 = .ok (.lreturn, 1) := by decide +kernel
theorem o_E_valueOf : (mn 144).cls = "NeedsALoser$Search" := by decide +kernel
theorem l_E_valueOf : ml 144 = 2 := by decide +kernel
theorem t_E_valueOf : mr 144 = some (FieldType.int) := by decide +kernel
theorem i_E_valueOf_0 : decode (mb 144) 0 = .ok (.lload_n 0, 1) := by decide +kernel
theorem i_E_valueOf_1 : decode (mb 144) 1 = .ok (.lneg, 1) := by decide +kernel
theorem i_E_valueOf_2 : decode (mb 144) 2 = .ok (.ldc2_w 88, 3) := by decide +kernel
theorem i_E_valueOf_5 : decode (mb 144) 5 = .ok (.invokestatic 90, 3) := by decide +kernel
theorem i_E_valueOf_8 : decode (mb 144) 8 = .ok (.lneg, 1) := by decide +kernel
theorem i_E_valueOf_9 : decode (mb 144) 9 = .ok (.l2i, 1) := by decide +kernel
theorem i_E_valueOf_10 : decode (mb 144) 10 = .ok (.ireturn, 1) := by decide +kernel
theorem o_JM_floorDiv : (mn 145).cls = "java/lang/Math" := by decide +kernel
theorem l_JM_floorDiv : ml 145 = 6 := by decide +kernel
theorem t_JM_floorDiv : mr 145 = some (FieldType.long) := by decide +kernel
theorem i_JM_floorDiv_0 : decode (mb 145) 0 = .ok (.lload_n 0, 1) := by decide +kernel
theorem i_JM_floorDiv_1 : decode (mb 145) 1 = .ok (.lload_n 2, 1) := by decide +kernel
theorem i_JM_floorDiv_2 : decode (mb 145) 2 = .ok (.ldiv, 1) := by decide +kernel
theorem i_JM_floorDiv_3 : decode (mb 145) 3 = .ok (.lstore 4, 2) := by decide +kernel
theorem i_JM_floorDiv_5 : decode (mb 145) 5 = .ok (.lload_n 0, 1) := by decide +kernel
theorem i_JM_floorDiv_6 : decode (mb 145) 6 = .ok (.lload_n 2, 1) := by decide +kernel
theorem i_JM_floorDiv_7 : decode (mb 145) 7 = .ok (.lxor, 1) := by decide +kernel
theorem i_JM_floorDiv_8 : decode (mb 145) 8 = .ok (.lconst 0, 1) := by decide +kernel
theorem i_JM_floorDiv_9 : decode (mb 145) 9 = .ok (.lcmp, 1) := by decide +kernel
theorem i_JM_floorDiv_10 : decode (mb 145) 10 = .ok (.ifCond .ge 17, 3) := by decide +kernel
theorem i_JM_floorDiv_13 : decode (mb 145) 13 = .ok (.lload 4, 2) := by decide +kernel
theorem i_JM_floorDiv_15 : decode (mb 145) 15 = .ok (.lload_n 2, 1) := by decide +kernel
theorem i_JM_floorDiv_16 : decode (mb 145) 16 = .ok (.lmul, 1) := by decide +kernel
theorem i_JM_floorDiv_17 : decode (mb 145) 17 = .ok (.lload_n 0, 1) := by decide +kernel
theorem i_JM_floorDiv_18 : decode (mb 145) 18 = .ok (.lcmp, 1) := by decide +kernel
theorem i_JM_floorDiv_19 : decode (mb 145) 19 = .ok (.ifCond .eq 8, 3) := by decide +kernel
theorem i_JM_floorDiv_22 : decode (mb 145) 22 = .ok (.lload 4, 2) := by decide +kernel
theorem i_JM_floorDiv_24 : decode (mb 145) 24 = .ok (.lconst 1, 1) := by decide +kernel
theorem i_JM_floorDiv_25 : decode (mb 145) 25 = .ok (.lsub, 1) := by decide +kernel
theorem i_JM_floorDiv_26 : decode (mb 145) 26 = .ok (.lreturn, 1) := by decide +kernel
theorem i_JM_floorDiv_27 : decode (mb 145) 27 = .ok (.lload 4, 2) := by decide +kernel
theorem i_JM_floorDiv_29 : decode (mb 145) 29 = .ok (.lreturn, 1) := by decide +kernel
theorem o_N_bestOf : (mn 146).cls = "NeedsALoser" := by decide +kernel
theorem l_N_bestOf : ml 146 = 2 := by decide +kernel
theorem t_N_bestOf : mr 146 = some (FieldType.int) := by decide +kernel
theorem i_N_bestOf_0 : decode (mb 146) 0 = .ok (.aload_n 0, 1) := by decide +kernel
theorem i_N_bestOf_1 : decode (mb 146) 1 = .ok (.getfield 10, 3) := by decide +kernel
theorem i_N_bestOf_4 : decode (mb 146) 4 = .ok (.iload_n 1, 1) := by decide +kernel
theorem i_N_bestOf_5 : decode (mb 146) 5 = .ok (.invokevirtual 189, 3) := by decide +kernel
theorem i_N_bestOf_8 : decode (mb 146) 8 = .ok (.ifCond .eq 18, 3) := by decide +kernel
theorem i_N_bestOf_11 : decode (mb 146) 11 = .ok (.aload_n 0, 1) := by decide +kernel
theorem i_N_bestOf_12 : decode (mb 146) 12 = .ok (.getfield 50, 3) := by decide +kernel
theorem i_N_bestOf_15 : decode (mb 146) 15 = .ok (.aload_n 0, 1) := by decide +kernel
theorem i_N_bestOf_16 : decode (mb 146) 16 = .ok (.getfield 10, 3) := by decide +kernel
theorem i_N_bestOf_19 : decode (mb 146) 19 = .ok (.iload_n 1, 1) := by decide +kernel
theorem i_N_bestOf_20 : decode (mb 146) 20 = .ok (.invokevirtual 257, 3) := by decide +kernel
theorem i_N_bestOf_23 : decode (mb 146) 23 = .ok (.goto 9, 3) := by decide +kernel
theorem i_N_bestOf_26 : decode (mb 146) 26 = .ok (.aload_n 0, 1) := by decide +kernel
theorem i_N_bestOf_27 : decode (mb 146) 27 = .ok (.bipush (-2), 2) := by decide +kernel
theorem i_N_bestOf_29 : decode (mb 146) 29 = .ok (.invokevirtual 66, 3) := by decide +kernel
theorem i_N_bestOf_32 : decode (mb 146) 32 = .ok (.ireturn, 1) := by decide +kernel
theorem o_E_bestThird : (mn 147).cls = "NeedsALoser$Search" := by decide +kernel
theorem l_E_bestThird : ml 147 = 5 := by decide +kernel
theorem t_E_bestThird : mr 147 = some (FieldType.int) := by decide +kernel
theorem i_E_bestThird_0 : decode (mb 147) 0 = .ok (.aload_n 0, 1) := by decide +kernel
theorem i_E_bestThird_1 : decode (mb 147) 1 = .ok (.aload_n 1, 1) := by decide +kernel
theorem i_E_bestThird_2 : decode (mb 147) 2 = .ok (.aload_n 1, 1) := by decide +kernel
theorem i_E_bestThird_3 : decode (mb 147) 3 = .ok (.invokevirtual 39, 3) := by decide +kernel
theorem i_E_bestThird_6 : decode (mb 147) 6 = .ok (.iconst 1, 1) := by decide +kernel
theorem i_E_bestThird_7 : decode (mb 147) 7 = .ok (.invokevirtual 31, 3) := by decide +kernel
theorem i_E_bestThird_10 : decode (mb 147) 10 = .ok (.invokestatic 45, 3) := by decide +kernel
theorem i_E_bestThird_13 : decode (mb 147) 13 = .ok (.lstore_n 3, 1) := by decide +kernel
theorem i_E_bestThird_14 : decode (mb 147) 14 = .ok (.lload_n 3, 1) := by decide +kernel
theorem i_E_bestThird_15 : decode (mb 147) 15 = .ok (.iload_n 2, 1) := by decide +kernel
theorem i_E_bestThird_16 : decode (mb 147) 16 = .ok (.invokestatic 49, 3) := by decide +kernel
theorem i_E_bestThird_19 : decode (mb 147) 19 = .ok (.lshr, 1) := by decide +kernel
theorem i_E_bestThird_20 : decode (mb 147) 20 = .ok (.ldc2_w 53, 3) := by decide +kernel
theorem i_E_bestThird_23 : decode (mb 147) 23 = .ok (.land, 1) := by decide +kernel
theorem i_E_bestThird_24 : decode (mb 147) 24 = .ok (.l2i, 1) := by decide +kernel
theorem i_E_bestThird_25 : decode (mb 147) 25 = .ok (.iconst 1, 1) := by decide +kernel
theorem i_E_bestThird_26 : decode (mb 147) 26 = .ok (.isub, 1) := by decide +kernel
theorem i_E_bestThird_27 : decode (mb 147) 27 = .ok (.ireturn, 1) := by decide +kernel
theorem o_E_codeOf : (mn 148).cls = "NeedsALoser$Search" := by decide +kernel
theorem l_E_codeOf : ml 148 = 2 := by decide +kernel
theorem t_E_codeOf : mr 148 = some (FieldType.long) := by decide +kernel
theorem i_E_codeOf_0 : decode (mb 148) 0 = .ok (.lload_n 0, 1) := by decide +kernel
theorem i_E_codeOf_1 : decode (mb 148) 1 = .ok (.invokestatic 35, 3) := by decide +kernel
theorem i_E_codeOf_4 : decode (mb 148) 4 = .ok (.i2l, 1) := by decide +kernel
theorem i_E_codeOf_5 : decode (mb 148) 5 = .ok (.ldc2_w 88, 3) := by decide +kernel
theorem i_E_codeOf_8 : decode (mb 148) 8 = .ok (.lmul, 1) := by decide +kernel
theorem i_E_codeOf_9 : decode (mb 148) 9 = .ok (.lload_n 0, 1) := by decide +kernel
theorem i_E_codeOf_10 : decode (mb 148) 10 = .ok (.lsub, 1) := by decide +kernel
theorem i_E_codeOf_11 : decode (mb 148) 11 = .ok (.lreturn, 1) := by decide +kernel
theorem o_N_worth : (mn 149).cls = "NeedsALoser" := by decide +kernel
theorem l_N_worth : ml 149 = 2 := by decide +kernel
theorem t_N_worth : mr 149 = some (FieldType.int) := by decide +kernel
theorem i_N_worth_0 : decode (mb 149) 0 = .ok (.aload_n 0, 1) := by decide +kernel
theorem i_N_worth_1 : decode (mb 149) 1 = .ok (.getfield 10, 3) := by decide +kernel
theorem i_N_worth_4 : decode (mb 149) 4 = .ok (.iload_n 1, 1) := by decide +kernel
theorem i_N_worth_5 : decode (mb 149) 5 = .ok (.invokevirtual 131, 3) := by decide +kernel
theorem i_N_worth_8 : decode (mb 149) 8 = .ok (.ifCond .ne 10, 3) := by decide +kernel
theorem i_N_worth_11 : decode (mb 149) 11 = .ok (.aload_n 0, 1) := by decide +kernel
theorem i_N_worth_12 : decode (mb 149) 12 = .ok (.bipush (-2), 2) := by decide +kernel
theorem i_N_worth_14 : decode (mb 149) 14 = .ok (.invokevirtual 66, 3) := by decide +kernel
theorem i_N_worth_17 : decode (mb 149) 17 = .ok (.ireturn, 1) := by decide +kernel
theorem i_N_worth_18 : decode (mb 149) 18 = .ok (.aload_n 0, 1) := by decide +kernel
theorem i_N_worth_19 : decode (mb 149) 19 = .ok (.invokevirtual 260, 3) := by decide +kernel
theorem i_N_worth_22 : decode (mb 149) 22 = .ok (.aload_n 0, 1) := by decide +kernel
theorem i_N_worth_23 : decode (mb 149) 23 = .ok (.getfield 50, 3) := by decide +kernel
theorem i_N_worth_26 : decode (mb 149) 26 = .ok (.aload_n 0, 1) := by decide +kernel
theorem i_N_worth_27 : decode (mb 149) 27 = .ok (.getfield 10, 3) := by decide +kernel
theorem i_N_worth_30 : decode (mb 149) 30 = .ok (.aload_n 0, 1) := by decide +kernel
theorem i_N_worth_31 : decode (mb 149) 31 = .ok (.getfield 10, 3) := by decide +kernel
theorem i_N_worth_34 : decode (mb 149) 34 = .ok (.invokevirtual 251, 3) := by decide +kernel
theorem i_N_worth_37 : decode (mb 149) 37 = .ok (.iconst 1, 1) := by decide +kernel
theorem i_N_worth_38 : decode (mb 149) 38 = .ok (.iload_n 1, 1) := by decide +kernel
theorem i_N_worth_39 : decode (mb 149) 39 = .ok (.ishl, 1) := by decide +kernel
theorem i_N_worth_40 : decode (mb 149) 40 = .ok (.iconst (-1), 1) := by decide +kernel
theorem i_N_worth_41 : decode (mb 149) 41 = .ok (.ixor, 1) := by decide +kernel
theorem i_N_worth_42 : decode (mb 149) 42 = .ok (.iand, 1) := by decide +kernel
theorem i_N_worth_43 : decode (mb 149) 43 = .ok (.invokevirtual 254, 3) := by decide +kernel
theorem i_N_worth_46 : decode (mb 149) 46 = .ok (.isub, 1) := by decide +kernel
theorem i_N_worth_47 : decode (mb 149) 47 = .ok (.ireturn, 1) := by decide +kernel
theorem o_N_dearest : (mn 150).cls = "NeedsALoser" := by decide +kernel
theorem l_N_dearest : ml 150 = 5 := by decide +kernel
theorem t_N_dearest : mr 150 = some (FieldType.int) := by decide +kernel
theorem i_N_dearest_0 : decode (mb 150) 0 = .ok (.iconst (-1), 1) := by decide +kernel
theorem i_N_dearest_1 : decode (mb 150) 1 = .ok (.istore_n 1, 1) := by decide +kernel
theorem i_N_dearest_2 : decode (mb 150) 2 = .ok (.iconst 0, 1) := by decide +kernel
theorem i_N_dearest_3 : decode (mb 150) 3 = .ok (.istore_n 2, 1) := by decide +kernel
theorem i_N_dearest_4 : decode (mb 150) 4 = .ok (.iconst 0, 1) := by decide +kernel
theorem i_N_dearest_5 : decode (mb 150) 5 = .ok (.istore_n 3, 1) := by decide +kernel
theorem i_N_dearest_6 : decode (mb 150) 6 = .ok (.iload_n 3, 1) := by decide +kernel
theorem i_N_dearest_7 : decode (mb 150) 7 = .ok (.aload_n 0, 1) := by decide +kernel
theorem i_N_dearest_8 : decode (mb 150) 8 = .ok (.getfield 10, 3) := by decide +kernel
theorem i_N_dearest_11 : decode (mb 150) 11 = .ok (.getfield 124, 3) := by decide +kernel
theorem i_N_dearest_14 : decode (mb 150) 14 = .ok (.if_icmp .ge 51, 3) := by decide +kernel
theorem i_N_dearest_17 : decode (mb 150) 17 = .ok (.aload_n 0, 1) := by decide +kernel
theorem i_N_dearest_18 : decode (mb 150) 18 = .ok (.getfield 50, 3) := by decide +kernel
theorem i_N_dearest_21 : decode (mb 150) 21 = .ok (.aload_n 0, 1) := by decide +kernel
theorem i_N_dearest_22 : decode (mb 150) 22 = .ok (.getfield 10, 3) := by decide +kernel
theorem i_N_dearest_25 : decode (mb 150) 25 = .ok (.aload_n 0, 1) := by decide +kernel
theorem i_N_dearest_26 : decode (mb 150) 26 = .ok (.getfield 10, 3) := by decide +kernel
theorem i_N_dearest_29 : decode (mb 150) 29 = .ok (.invokevirtual 251, 3) := by decide +kernel
theorem i_N_dearest_32 : decode (mb 150) 32 = .ok (.iconst 1, 1) := by decide +kernel
theorem i_N_dearest_33 : decode (mb 150) 33 = .ok (.iload_n 3, 1) := by decide +kernel
theorem i_N_dearest_34 : decode (mb 150) 34 = .ok (.ishl, 1) := by decide +kernel
theorem i_N_dearest_35 : decode (mb 150) 35 = .ok (.iconst (-1), 1) := by decide +kernel
theorem i_N_dearest_36 : decode (mb 150) 36 = .ok (.ixor, 1) := by decide +kernel
theorem i_N_dearest_37 : decode (mb 150) 37 = .ok (.iand, 1) := by decide +kernel
theorem i_N_dearest_38 : decode (mb 150) 38 = .ok (.invokevirtual 254, 3) := by decide +kernel
theorem i_N_dearest_41 : decode (mb 150) 41 = .ok (.istore 4, 2) := by decide +kernel
theorem i_N_dearest_43 : decode (mb 150) 43 = .ok (.iload_n 1, 1) := by decide +kernel
theorem i_N_dearest_44 : decode (mb 150) 44 = .ok (.iconst (-1), 1) := by decide +kernel
theorem i_N_dearest_45 : decode (mb 150) 45 = .ok (.if_icmp .eq 9, 3) := by decide +kernel
theorem i_N_dearest_48 : decode (mb 150) 48 = .ok (.iload 4, 2) := by decide +kernel
theorem i_N_dearest_50 : decode (mb 150) 50 = .ok (.iload_n 2, 1) := by decide +kernel
theorem i_N_dearest_51 : decode (mb 150) 51 = .ok (.if_icmp .ge 8, 3) := by decide +kernel
theorem i_N_dearest_54 : decode (mb 150) 54 = .ok (.iload_n 3, 1) := by decide +kernel
theorem i_N_dearest_55 : decode (mb 150) 55 = .ok (.istore_n 1, 1) := by decide +kernel
theorem i_N_dearest_56 : decode (mb 150) 56 = .ok (.iload 4, 2) := by decide +kernel
theorem i_N_dearest_58 : decode (mb 150) 58 = .ok (.istore_n 2, 1) := by decide +kernel
theorem i_N_dearest_59 : decode (mb 150) 59 = .ok (.iinc 3 1, 3) := by decide +kernel
theorem i_N_dearest_62 : decode (mb 150) 62 = .ok (.goto (-56), 3) := by decide +kernel
theorem i_N_dearest_65 : decode (mb 150) 65 = .ok (.iload_n 1, 1) := by decide +kernel
theorem i_N_dearest_66 : decode (mb 150) 66 = .ok (.iconst (-1), 1) := by decide +kernel
theorem i_N_dearest_67 : decode (mb 150) 67 = .ok (.if_icmp .ne 12, 3) := by decide +kernel
theorem i_N_dearest_70 : decode (mb 150) 70 = .ok (.aload_n 0, 1) := by decide +kernel
theorem i_N_dearest_71 : decode (mb 150) 71 = .ok (.bipush (-5), 2) := by decide +kernel
theorem i_N_dearest_73 : decode (mb 150) 73 = .ok (.invokevirtual 66, 3) := by decide +kernel
theorem i_N_dearest_76 : decode (mb 150) 76 = .ok (.goto 4, 3) := by decide +kernel
theorem i_N_dearest_79 : decode (mb 150) 79 = .ok (.iload_n 1, 1) := by decide +kernel
theorem i_N_dearest_80 : decode (mb 150) 80 = .ok (.ireturn, 1) := by decide +kernel
theorem o_N_gap : (mn 151).cls = "NeedsALoser" := by decide +kernel
theorem l_N_gap : ml 151 = 3 := by decide +kernel
theorem t_N_gap : mr 151 = some (FieldType.int) := by decide +kernel
theorem i_N_gap_0 : decode (mb 151) 0 = .ok (.aload_n 0, 1) := by decide +kernel
theorem i_N_gap_1 : decode (mb 151) 1 = .ok (.getfield 29, 3) := by decide +kernel
theorem i_N_gap_4 : decode (mb 151) 4 = .ok (.iload_n 1, 1) := by decide +kernel
theorem i_N_gap_5 : decode (mb 151) 5 = .ok (.invokevirtual 104, 3) := by decide +kernel
theorem i_N_gap_8 : decode (mb 151) 8 = .ok (.istore_n 2, 1) := by decide +kernel
theorem i_N_gap_9 : decode (mb 151) 9 = .ok (.iload_n 2, 1) := by decide +kernel
theorem i_N_gap_10 : decode (mb 151) 10 = .ok (.ifCond .ne 17, 3) := by decide +kernel
theorem i_N_gap_13 : decode (mb 151) 13 = .ok (.aload_n 0, 1) := by decide +kernel
theorem i_N_gap_14 : decode (mb 151) 14 = .ok (.invokevirtual 260, 3) := by decide +kernel
theorem i_N_gap_17 : decode (mb 151) 17 = .ok (.aload_n 0, 1) := by decide +kernel
theorem i_N_gap_18 : decode (mb 151) 18 = .ok (.iload_n 1, 1) := by decide +kernel
theorem i_N_gap_19 : decode (mb 151) 19 = .ok (.iconst 0, 1) := by decide +kernel
theorem i_N_gap_20 : decode (mb 151) 20 = .ok (.invokevirtual 238, 3) := by decide +kernel
theorem i_N_gap_23 : decode (mb 151) 23 = .ok (.isub, 1) := by decide +kernel
theorem i_N_gap_24 : decode (mb 151) 24 = .ok (.goto 8, 3) := by decide +kernel
theorem i_N_gap_27 : decode (mb 151) 27 = .ok (.aload_n 0, 1) := by decide +kernel
theorem i_N_gap_28 : decode (mb 151) 28 = .ok (.iload_n 2, 1) := by decide +kernel
theorem i_N_gap_29 : decode (mb 151) 29 = .ok (.invokevirtual 212, 3) := by decide +kernel
theorem i_N_gap_32 : decode (mb 151) 32 = .ok (.ireturn, 1) := by decide +kernel
theorem o_N_fewest : (mn 152).cls = "NeedsALoser" := by decide +kernel
theorem l_N_fewest : ml 152 = 1 := by decide +kernel
theorem t_N_fewest : mr 152 = some (FieldType.int) := by decide +kernel
theorem i_N_fewest_0 : decode (mb 152) 0 = .ok (.aload_n 0, 1) := by decide +kernel
theorem i_N_fewest_1 : decode (mb 152) 1 = .ok (.getfield 50, 3) := by decide +kernel
theorem i_N_fewest_4 : decode (mb 152) 4 = .ok (.aload_n 0, 1) := by decide +kernel
theorem i_N_fewest_5 : decode (mb 152) 5 = .ok (.getfield 10, 3) := by decide +kernel
theorem i_N_fewest_8 : decode (mb 152) 8 = .ok (.invokevirtual 263, 3) := by decide +kernel
theorem i_N_fewest_11 : decode (mb 152) 11 = .ok (.ireturn, 1) := by decide +kernel
theorem o_E_fewestBits : (mn 153).cls = "NeedsALoser$Search" := by decide +kernel
theorem l_E_fewestBits : ml 153 = 2 := by decide +kernel
theorem t_E_fewestBits : mr 153 = some (FieldType.int) := by decide +kernel
theorem i_E_fewestBits_0 : decode (mb 153) 0 = .ok (.aload_n 0, 1) := by decide +kernel
theorem i_E_fewestBits_1 : decode (mb 153) 1 = .ok (.aload_n 1, 1) := by decide +kernel
theorem i_E_fewestBits_2 : decode (mb 153) 2 = .ok (.aload_n 1, 1) := by decide +kernel
theorem i_E_fewestBits_3 : decode (mb 153) 3 = .ok (.invokevirtual 39, 3) := by decide +kernel
theorem i_E_fewestBits_6 : decode (mb 153) 6 = .ok (.iconst 0, 1) := by decide +kernel
theorem i_E_fewestBits_7 : decode (mb 153) 7 = .ok (.invokevirtual 31, 3) := by decide +kernel
theorem i_E_fewestBits_10 : decode (mb 153) 10 = .ok (.invokestatic 45, 3) := by decide +kernel
theorem i_E_fewestBits_13 : decode (mb 153) 13 = .ok (.ldc2_w 55, 3) := by decide +kernel
theorem i_E_fewestBits_16 : decode (mb 153) 16 = .ok (.land, 1) := by decide +kernel
theorem i_E_fewestBits_17 : decode (mb 153) 17 = .ok (.l2i, 1) := by decide +kernel
theorem i_E_fewestBits_18 : decode (mb 153) 18 = .ok (.ireturn, 1) := by decide +kernel
theorem o_N_richest : (mn 154).cls = "NeedsALoser" := by decide +kernel
theorem l_N_richest : ml 154 = 1 := by decide +kernel
theorem t_N_richest : mr 154 = some (FieldType.int) := by decide +kernel
theorem i_N_richest_0 : decode (mb 154) 0 = .ok (.aload_n 0, 1) := by decide +kernel
theorem i_N_richest_1 : decode (mb 154) 1 = .ok (.getfield 10, 3) := by decide +kernel
theorem i_N_richest_4 : decode (mb 154) 4 = .ok (.getfield 124, 3) := by decide +kernel
theorem i_N_richest_7 : decode (mb 154) 7 = .ok (.ifCond .ne 12, 3) := by decide +kernel
theorem i_N_richest_10 : decode (mb 154) 10 = .ok (.aload_n 0, 1) := by decide +kernel
theorem i_N_richest_11 : decode (mb 154) 11 = .ok (.bipush (-5), 2) := by decide +kernel
theorem i_N_richest_13 : decode (mb 154) 13 = .ok (.invokevirtual 66, 3) := by decide +kernel
theorem i_N_richest_16 : decode (mb 154) 16 = .ok (.goto 20, 3) := by decide +kernel
theorem i_N_richest_19 : decode (mb 154) 19 = .ok (.aload_n 0, 1) := by decide +kernel
theorem i_N_richest_20 : decode (mb 154) 20 = .ok (.getfield 10, 3) := by decide +kernel
theorem i_N_richest_23 : decode (mb 154) 23 = .ok (.getfield 215, 3) := by decide +kernel
theorem i_N_richest_26 : decode (mb 154) 26 = .ok (.aload_n 0, 1) := by decide +kernel
theorem i_N_richest_27 : decode (mb 154) 27 = .ok (.getfield 10, 3) := by decide +kernel
theorem i_N_richest_30 : decode (mb 154) 30 = .ok (.getfield 124, 3) := by decide +kernel
theorem i_N_richest_33 : decode (mb 154) 33 = .ok (.invokestatic 266, 3) := by decide +kernel
theorem i_N_richest_36 : decode (mb 154) 36 = .ok (.ireturn, 1) := by decide +kernel
theorem o_N_placeOfGreatest : (mn 155).cls = "NeedsALoser" := by decide +kernel
theorem l_N_placeOfGreatest : ml 155 = 4 := by decide +kernel
theorem t_N_placeOfGreatest : mr 155 = some (FieldType.int) := by decide +kernel
theorem i_N_placeOfGreatest_0 : decode (mb 155) 0 = .ok (.iconst 0, 1) := by decide +kernel
theorem i_N_placeOfGreatest_1 : decode (mb 155) 1 = .ok (.istore_n 2, 1) := by decide +kernel
theorem i_N_placeOfGreatest_2 : decode (mb 155) 2 = .ok (.iconst 1, 1) := by decide +kernel
theorem i_N_placeOfGreatest_3 : decode (mb 155) 3 = .ok (.istore_n 3, 1) := by decide +kernel
theorem i_N_placeOfGreatest_4 : decode (mb 155) 4 = .ok (.iload_n 3, 1) := by decide +kernel
theorem i_N_placeOfGreatest_5 : decode (mb 155) 5 = .ok (.iload_n 1, 1) := by decide +kernel
theorem i_N_placeOfGreatest_6 : decode (mb 155) 6 = .ok (.if_icmp .ge 24, 3) := by decide +kernel
theorem i_N_placeOfGreatest_9 : decode (mb 155) 9 = .ok (.aload_n 0, 1) := by decide +kernel
theorem i_N_placeOfGreatest_10 : decode (mb 155) 10 = .ok (.iload_n 3, 1) := by decide +kernel
theorem i_N_placeOfGreatest_11 : decode (mb 155) 11 = .ok (.invokestatic 195, 3) := by decide +kernel
theorem i_N_placeOfGreatest_14 : decode (mb 155) 14 = .ok (.aload_n 0, 1) := by decide +kernel
theorem i_N_placeOfGreatest_15 : decode (mb 155) 15 = .ok (.iload_n 2, 1) := by decide +kernel
theorem i_N_placeOfGreatest_16 : decode (mb 155) 16 = .ok (.invokestatic 195, 3) := by decide +kernel
theorem i_N_placeOfGreatest_19 : decode (mb 155) 19 = .ok (.if_icmp .le 5, 3) := by decide +kernel
theorem i_N_placeOfGreatest_22 : decode (mb 155) 22 = .ok (.iload_n 3, 1) := by decide +kernel
theorem i_N_placeOfGreatest_23 : decode (mb 155) 23 = .ok (.istore_n 2, 1) := by decide +kernel
theorem i_N_placeOfGreatest_24 : decode (mb 155) 24 = .ok (.iinc 3 1, 3) := by decide +kernel
theorem i_N_placeOfGreatest_27 : decode (mb 155) 27 = .ok (.goto (-23), 3) := by decide +kernel
theorem i_N_placeOfGreatest_30 : decode (mb 155) 30 = .ok (.iload_n 2, 1) := by decide +kernel
theorem i_N_placeOfGreatest_31 : decode (mb 155) 31 = .ok (.ireturn, 1) := by decide +kernel
theorem o_N_alone : (mn 156).cls = "NeedsALoser" := by decide +kernel
theorem l_N_alone : ml 156 = 4 := by decide +kernel
theorem t_N_alone : mr 156 = some (FieldType.int) := by decide +kernel
theorem i_N_alone_0 : decode (mb 156) 0 = .ok (.aload_n 0, 1) := by decide +kernel
theorem i_N_alone_1 : decode (mb 156) 1 = .ok (.getfield 10, 3) := by decide +kernel
theorem i_N_alone_4 : decode (mb 156) 4 = .ok (.iload_n 1, 1) := by decide +kernel
theorem i_N_alone_5 : decode (mb 156) 5 = .ok (.invokevirtual 131, 3) := by decide +kernel
theorem i_N_alone_8 : decode (mb 156) 8 = .ok (.ifCond .ne 10, 3) := by decide +kernel
theorem i_N_alone_11 : decode (mb 156) 11 = .ok (.aload_n 0, 1) := by decide +kernel
theorem i_N_alone_12 : decode (mb 156) 12 = .ok (.bipush (-2), 2) := by decide +kernel
theorem i_N_alone_14 : decode (mb 156) 14 = .ok (.invokevirtual 66, 3) := by decide +kernel
theorem i_N_alone_17 : decode (mb 156) 17 = .ok (.ireturn, 1) := by decide +kernel
theorem i_N_alone_18 : decode (mb 156) 18 = .ok (.iconst 0, 1) := by decide +kernel
theorem i_N_alone_19 : decode (mb 156) 19 = .ok (.istore_n 2, 1) := by decide +kernel
theorem i_N_alone_20 : decode (mb 156) 20 = .ok (.iconst 0, 1) := by decide +kernel
theorem i_N_alone_21 : decode (mb 156) 21 = .ok (.istore_n 3, 1) := by decide +kernel
theorem i_N_alone_22 : decode (mb 156) 22 = .ok (.iload_n 3, 1) := by decide +kernel
theorem i_N_alone_23 : decode (mb 156) 23 = .ok (.aload_n 0, 1) := by decide +kernel
theorem i_N_alone_24 : decode (mb 156) 24 = .ok (.getfield 10, 3) := by decide +kernel
theorem i_N_alone_27 : decode (mb 156) 27 = .ok (.getfield 113, 3) := by decide +kernel
theorem i_N_alone_30 : decode (mb 156) 30 = .ok (.if_icmp .ge 29, 3) := by decide +kernel
theorem i_N_alone_33 : decode (mb 156) 33 = .ok (.aload_n 0, 1) := by decide +kernel
theorem i_N_alone_34 : decode (mb 156) 34 = .ok (.getfield 10, 3) := by decide +kernel
theorem i_N_alone_37 : decode (mb 156) 37 = .ok (.iload_n 3, 1) := by decide +kernel
theorem i_N_alone_38 : decode (mb 156) 38 = .ok (.invokevirtual 218, 3) := by decide +kernel
theorem i_N_alone_41 : decode (mb 156) 41 = .ok (.iconst 1, 1) := by decide +kernel
theorem i_N_alone_42 : decode (mb 156) 42 = .ok (.iload_n 1, 1) := by decide +kernel
theorem i_N_alone_43 : decode (mb 156) 43 = .ok (.ishl, 1) := by decide +kernel
theorem i_N_alone_44 : decode (mb 156) 44 = .ok (.if_icmp .ne 9, 3) := by decide +kernel
theorem i_N_alone_47 : decode (mb 156) 47 = .ok (.iload_n 2, 1) := by decide +kernel
theorem i_N_alone_48 : decode (mb 156) 48 = .ok (.iconst 1, 1) := by decide +kernel
theorem i_N_alone_49 : decode (mb 156) 49 = .ok (.iload_n 3, 1) := by decide +kernel
theorem i_N_alone_50 : decode (mb 156) 50 = .ok (.ishl, 1) := by decide +kernel
theorem i_N_alone_51 : decode (mb 156) 51 = .ok (.ior, 1) := by decide +kernel
theorem i_N_alone_52 : decode (mb 156) 52 = .ok (.istore_n 2, 1) := by decide +kernel
theorem i_N_alone_53 : decode (mb 156) 53 = .ok (.iinc 3 1, 3) := by decide +kernel
theorem i_N_alone_56 : decode (mb 156) 56 = .ok (.goto (-34), 3) := by decide +kernel
theorem i_N_alone_59 : decode (mb 156) 59 = .ok (.iload_n 2, 1) := by decide +kernel
theorem i_N_alone_60 : decode (mb 156) 60 = .ok (.ireturn, 1) := by decide +kernel
theorem o_N_party : (mn 157).cls = "NeedsALoser" := by decide +kernel
theorem l_N_party : ml 157 = 4 := by decide +kernel
theorem t_N_party : mr 157 = some (FieldType.int) := by decide +kernel
theorem i_N_party_0 : decode (mb 157) 0 = .ok (.aload_n 0, 1) := by decide +kernel
theorem i_N_party_1 : decode (mb 157) 1 = .ok (.getfield 10, 3) := by decide +kernel
theorem i_N_party_4 : decode (mb 157) 4 = .ok (.iload_n 1, 1) := by decide +kernel
theorem i_N_party_5 : decode (mb 157) 5 = .ok (.invokevirtual 131, 3) := by decide +kernel
theorem i_N_party_8 : decode (mb 157) 8 = .ok (.ifCond .ne 10, 3) := by decide +kernel
theorem i_N_party_11 : decode (mb 157) 11 = .ok (.aload_n 0, 1) := by decide +kernel
theorem i_N_party_12 : decode (mb 157) 12 = .ok (.bipush (-2), 2) := by decide +kernel
theorem i_N_party_14 : decode (mb 157) 14 = .ok (.invokevirtual 66, 3) := by decide +kernel
theorem i_N_party_17 : decode (mb 157) 17 = .ok (.ireturn, 1) := by decide +kernel
theorem i_N_party_18 : decode (mb 157) 18 = .ok (.iconst 0, 1) := by decide +kernel
theorem i_N_party_19 : decode (mb 157) 19 = .ok (.istore_n 2, 1) := by decide +kernel
theorem i_N_party_20 : decode (mb 157) 20 = .ok (.iconst 0, 1) := by decide +kernel
theorem i_N_party_21 : decode (mb 157) 21 = .ok (.istore_n 3, 1) := by decide +kernel
theorem i_N_party_22 : decode (mb 157) 22 = .ok (.iload_n 3, 1) := by decide +kernel
theorem i_N_party_23 : decode (mb 157) 23 = .ok (.aload_n 0, 1) := by decide +kernel
theorem i_N_party_24 : decode (mb 157) 24 = .ok (.getfield 10, 3) := by decide +kernel
theorem i_N_party_27 : decode (mb 157) 27 = .ok (.getfield 113, 3) := by decide +kernel
theorem i_N_party_30 : decode (mb 157) 30 = .ok (.if_icmp .ge 27, 3) := by decide +kernel
theorem i_N_party_33 : decode (mb 157) 33 = .ok (.aload_n 0, 1) := by decide +kernel
theorem i_N_party_34 : decode (mb 157) 34 = .ok (.getfield 10, 3) := by decide +kernel
theorem i_N_party_37 : decode (mb 157) 37 = .ok (.iload_n 3, 1) := by decide +kernel
theorem i_N_party_38 : decode (mb 157) 38 = .ok (.iload_n 1, 1) := by decide +kernel
theorem i_N_party_39 : decode (mb 157) 39 = .ok (.invokevirtual 269, 3) := by decide +kernel
theorem i_N_party_42 : decode (mb 157) 42 = .ok (.ifCond .eq 9, 3) := by decide +kernel
theorem i_N_party_45 : decode (mb 157) 45 = .ok (.iload_n 2, 1) := by decide +kernel
theorem i_N_party_46 : decode (mb 157) 46 = .ok (.iconst 1, 1) := by decide +kernel
theorem i_N_party_47 : decode (mb 157) 47 = .ok (.iload_n 3, 1) := by decide +kernel
theorem i_N_party_48 : decode (mb 157) 48 = .ok (.ishl, 1) := by decide +kernel
theorem i_N_party_49 : decode (mb 157) 49 = .ok (.ior, 1) := by decide +kernel
theorem i_N_party_50 : decode (mb 157) 50 = .ok (.istore_n 2, 1) := by decide +kernel
theorem i_N_party_51 : decode (mb 157) 51 = .ok (.iinc 3 1, 3) := by decide +kernel
theorem i_N_party_54 : decode (mb 157) 54 = .ok (.goto (-32), 3) := by decide +kernel
theorem i_N_party_57 : decode (mb 157) 57 = .ok (.iload_n 2, 1) := by decide +kernel
theorem i_N_party_58 : decode (mb 157) 58 = .ok (.ireturn, 1) := by decide +kernel
theorem o_N_fair : (mn 158).cls = "NeedsALoser" := by decide +kernel
theorem l_N_fair : ml 158 = 4 := by decide +kernel
theorem t_N_fair : mr 158 = some (FieldType.int) := by decide +kernel
theorem i_N_fair_0 : decode (mb 158) 0 = .ok (.aload_n 0, 1) := by decide +kernel
theorem i_N_fair_1 : decode (mb 158) 1 = .ok (.getfield 10, 3) := by decide +kernel
theorem i_N_fair_4 : decode (mb 158) 4 = .ok (.getfield 124, 3) := by decide +kernel
theorem i_N_fair_7 : decode (mb 158) 7 = .ok (.ifCond .ne 10, 3) := by decide +kernel
theorem i_N_fair_10 : decode (mb 158) 10 = .ok (.aload_n 0, 1) := by decide +kernel
theorem i_N_fair_11 : decode (mb 158) 11 = .ok (.bipush (-5), 2) := by decide +kernel
theorem i_N_fair_13 : decode (mb 158) 13 = .ok (.invokevirtual 66, 3) := by decide +kernel
theorem i_N_fair_16 : decode (mb 158) 16 = .ok (.ireturn, 1) := by decide +kernel
theorem i_N_fair_17 : decode (mb 158) 17 = .ok (.aload_n 0, 1) := by decide +kernel
theorem i_N_fair_18 : decode (mb 158) 18 = .ok (.getfield 10, 3) := by decide +kernel
theorem i_N_fair_21 : decode (mb 158) 21 = .ok (.getfield 272, 3) := by decide +kernel
theorem i_N_fair_24 : decode (mb 158) 24 = .ok (.aload_n 0, 1) := by decide +kernel
theorem i_N_fair_25 : decode (mb 158) 25 = .ok (.getfield 10, 3) := by decide +kernel
theorem i_N_fair_28 : decode (mb 158) 28 = .ok (.getfield 272, 3) := by decide +kernel
theorem i_N_fair_31 : decode (mb 158) 31 = .ok (.aload_n 0, 1) := by decide +kernel
theorem i_N_fair_32 : decode (mb 158) 32 = .ok (.getfield 10, 3) := by decide +kernel
theorem i_N_fair_35 : decode (mb 158) 35 = .ok (.getfield 124, 3) := by decide +kernel
theorem i_N_fair_38 : decode (mb 158) 38 = .ok (.invokestatic 266, 3) := by decide +kernel
theorem i_N_fair_41 : decode (mb 158) 41 = .ok (.invokestatic 195, 3) := by decide +kernel
theorem i_N_fair_44 : decode (mb 158) 44 = .ok (.istore_n 1, 1) := by decide +kernel
theorem i_N_fair_45 : decode (mb 158) 45 = .ok (.iload_n 1, 1) := by decide +kernel
theorem i_N_fair_46 : decode (mb 158) 46 = .ok (.istore_n 2, 1) := by decide +kernel
theorem i_N_fair_47 : decode (mb 158) 47 = .ok (.iconst 0, 1) := by decide +kernel
theorem i_N_fair_48 : decode (mb 158) 48 = .ok (.istore_n 3, 1) := by decide +kernel
theorem i_N_fair_49 : decode (mb 158) 49 = .ok (.iload_n 3, 1) := by decide +kernel
theorem i_N_fair_50 : decode (mb 158) 50 = .ok (.aload_n 0, 1) := by decide +kernel
theorem i_N_fair_51 : decode (mb 158) 51 = .ok (.getfield 10, 3) := by decide +kernel
theorem i_N_fair_54 : decode (mb 158) 54 = .ok (.getfield 124, 3) := by decide +kernel
theorem i_N_fair_57 : decode (mb 158) 57 = .ok (.if_icmp .ge 25, 3) := by decide +kernel
theorem i_N_fair_60 : decode (mb 158) 60 = .ok (.iload_n 2, 1) := by decide +kernel
theorem i_N_fair_61 : decode (mb 158) 61 = .ok (.aload_n 0, 1) := by decide +kernel
theorem i_N_fair_62 : decode (mb 158) 62 = .ok (.getfield 10, 3) := by decide +kernel
theorem i_N_fair_65 : decode (mb 158) 65 = .ok (.getfield 272, 3) := by decide +kernel
theorem i_N_fair_68 : decode (mb 158) 68 = .ok (.iload_n 3, 1) := by decide +kernel
theorem i_N_fair_69 : decode (mb 158) 69 = .ok (.invokestatic 195, 3) := by decide +kernel
theorem i_N_fair_72 : decode (mb 158) 72 = .ok (.invokestatic 275, 3) := by decide +kernel
theorem i_N_fair_75 : decode (mb 158) 75 = .ok (.istore_n 2, 1) := by decide +kernel
theorem i_N_fair_76 : decode (mb 158) 76 = .ok (.iinc 3 1, 3) := by decide +kernel
theorem i_N_fair_79 : decode (mb 158) 79 = .ok (.goto (-30), 3) := by decide +kernel
theorem i_N_fair_82 : decode (mb 158) 82 = .ok (.iload_n 1, 1) := by decide +kernel
theorem i_N_fair_83 : decode (mb 158) 83 = .ok (.iload_n 2, 1) := by decide +kernel
theorem i_N_fair_84 : decode (mb 158) 84 = .ok (.isub, 1) := by decide +kernel
theorem i_N_fair_85 : decode (mb 158) 85 = .ok (.ireturn, 1) := by decide +kernel
theorem o_N_never : (mn 159).cls = "NeedsALoser" := by decide +kernel
theorem l_N_never : ml 159 = 3 := by decide +kernel
theorem t_N_never : mr 159 = some (FieldType.int) := by decide +kernel
theorem i_N_never_0 : decode (mb 159) 0 = .ok (.iconst 0, 1) := by decide +kernel
theorem i_N_never_1 : decode (mb 159) 1 = .ok (.istore_n 1, 1) := by decide +kernel
theorem i_N_never_2 : decode (mb 159) 2 = .ok (.iconst 0, 1) := by decide +kernel
theorem i_N_never_3 : decode (mb 159) 3 = .ok (.istore_n 2, 1) := by decide +kernel
theorem i_N_never_4 : decode (mb 159) 4 = .ok (.iload_n 2, 1) := by decide +kernel
theorem i_N_never_5 : decode (mb 159) 5 = .ok (.aload_n 0, 1) := by decide +kernel
theorem i_N_never_6 : decode (mb 159) 6 = .ok (.getfield 10, 3) := by decide +kernel
theorem i_N_never_9 : decode (mb 159) 9 = .ok (.getfield 113, 3) := by decide +kernel
theorem i_N_never_12 : decode (mb 159) 12 = .ok (.if_icmp .ge 26, 3) := by decide +kernel
theorem i_N_never_15 : decode (mb 159) 15 = .ok (.aload_n 0, 1) := by decide +kernel
theorem i_N_never_16 : decode (mb 159) 16 = .ok (.getfield 10, 3) := by decide +kernel
theorem i_N_never_19 : decode (mb 159) 19 = .ok (.iload_n 2, 1) := by decide +kernel
theorem i_N_never_20 : decode (mb 159) 20 = .ok (.invokevirtual 218, 3) := by decide +kernel
theorem i_N_never_23 : decode (mb 159) 23 = .ok (.ifCond .ne 9, 3) := by decide +kernel
theorem i_N_never_26 : decode (mb 159) 26 = .ok (.iload_n 1, 1) := by decide +kernel
theorem i_N_never_27 : decode (mb 159) 27 = .ok (.iconst 1, 1) := by decide +kernel
theorem i_N_never_28 : decode (mb 159) 28 = .ok (.iload_n 2, 1) := by decide +kernel
theorem i_N_never_29 : decode (mb 159) 29 = .ok (.ishl, 1) := by decide +kernel
theorem i_N_never_30 : decode (mb 159) 30 = .ok (.ior, 1) := by decide +kernel
theorem i_N_never_31 : decode (mb 159) 31 = .ok (.istore_n 1, 1) := by decide +kernel
theorem i_N_never_32 : decode (mb 159) 32 = .ok (.iinc 2 1, 3) := by decide +kernel
theorem i_N_never_35 : decode (mb 159) 35 = .ok (.goto (-31), 3) := by decide +kernel
theorem i_N_never_38 : decode (mb 159) 38 = .ok (.iload_n 1, 1) := by decide +kernel
theorem i_N_never_39 : decode (mb 159) 39 = .ok (.ireturn, 1) := by decide +kernel
theorem o_N_free : (mn 160).cls = "NeedsALoser" := by decide +kernel
theorem l_N_free : ml 160 = 1 := by decide +kernel
theorem t_N_free : mr 160 = some (FieldType.int) := by decide +kernel
theorem i_N_free_0 : decode (mb 160) 0 = .ok (.aload_n 0, 1) := by decide +kernel
theorem i_N_free_1 : decode (mb 160) 1 = .ok (.getfield 50, 3) := by decide +kernel
theorem i_N_free_4 : decode (mb 160) 4 = .ok (.aload_n 0, 1) := by decide +kernel
theorem i_N_free_5 : decode (mb 160) 5 = .ok (.getfield 10, 3) := by decide +kernel
theorem i_N_free_8 : decode (mb 160) 8 = .ok (.invokevirtual 280, 3) := by decide +kernel
theorem i_N_free_11 : decode (mb 160) 11 = .ok (.ireturn, 1) := by decide +kernel
theorem o_E_greatestGains : (mn 161).cls = "NeedsALoser$Search" := by decide +kernel
theorem l_E_greatestGains : ml 161 = 3 := by decide +kernel
theorem t_E_greatestGains : mr 161 = some (FieldType.int) := by decide +kernel
theorem i_E_greatestGains_0 : decode (mb 161) 0 = .ok (.iconst 0, 1) := by decide +kernel
theorem i_E_greatestGains_1 : decode (mb 161) 1 = .ok (.istore_n 2, 1) := by decide +kernel
theorem i_E_greatestGains_2 : decode (mb 161) 2 = .ok (.iload_n 2, 1) := by decide +kernel
theorem i_E_greatestGains_3 : decode (mb 161) 3 = .ok (.aload_n 1, 1) := by decide +kernel
theorem i_E_greatestGains_4 : decode (mb 161) 4 = .ok (.getfield 57, 3) := by decide +kernel
theorem i_E_greatestGains_7 : decode (mb 161) 7 = .ok (.if_icmp .ge 22, 3) := by decide +kernel
theorem i_E_greatestGains_10 : decode (mb 161) 10 = .ok (.aload_n 0, 1) := by decide +kernel
theorem i_E_greatestGains_11 : decode (mb 161) 11 = .ok (.getfield 27, 3) := by decide +kernel
theorem i_E_greatestGains_14 : decode (mb 161) 14 = .ok (.iload_n 2, 1) := by decide +kernel
theorem i_E_greatestGains_15 : decode (mb 161) 15 = .ok (.aload_n 1, 1) := by decide +kernel
theorem i_E_greatestGains_16 : decode (mb 161) 16 = .ok (.iload_n 2, 1) := by decide +kernel
theorem i_E_greatestGains_17 : decode (mb 161) 17 = .ok (.invokevirtual 61, 3) := by decide +kernel
theorem i_E_greatestGains_20 : decode (mb 161) 20 = .ok (.invokestatic 64, 3) := by decide +kernel
theorem i_E_greatestGains_23 : decode (mb 161) 23 = .ok (.iinc 2 1, 3) := by decide +kernel
theorem i_E_greatestGains_26 : decode (mb 161) 26 = .ok (.goto (-24), 3) := by decide +kernel
theorem i_E_greatestGains_29 : decode (mb 161) 29 = .ok (.aload_n 0, 1) := by decide +kernel
theorem i_E_greatestGains_30 : decode (mb 161) 30 = .ok (.aload_n 1, 1) := by decide +kernel
theorem i_E_greatestGains_31 : decode (mb 161) 31 = .ok (.invokevirtual 68, 3) := by decide +kernel
theorem i_E_greatestGains_34 : decode (mb 161) 34 = .ok (.ireturn, 1) := by decide +kernel
theorem o_E_heaviest : (mn 162).cls = "NeedsALoser$Search" := by decide +kernel
theorem l_E_heaviest : ml 162 = 5 := by decide +kernel
theorem t_E_heaviest : mr 162 = some (FieldType.int) := by decide +kernel
theorem i_E_heaviest_0 : decode (mb 162) 0 = .ok (.aload_n 0, 1) := by decide +kernel
theorem i_E_heaviest_1 : decode (mb 162) 1 = .ok (.aload_n 1, 1) := by decide +kernel
theorem i_E_heaviest_2 : decode (mb 162) 2 = .ok (.invokevirtual 94, 3) := by decide +kernel
theorem i_E_heaviest_5 : decode (mb 162) 5 = .ok (.istore_n 2, 1) := by decide +kernel
theorem i_E_heaviest_6 : decode (mb 162) 6 = .ok (.iconst 0, 1) := by decide +kernel
theorem i_E_heaviest_7 : decode (mb 162) 7 = .ok (.istore_n 3, 1) := by decide +kernel
theorem i_E_heaviest_8 : decode (mb 162) 8 = .ok (.aload_n 0, 1) := by decide +kernel
theorem i_E_heaviest_9 : decode (mb 162) 9 = .ok (.getfield 17, 3) := by decide +kernel
theorem i_E_heaviest_12 : decode (mb 162) 12 = .ok (.iconst 0, 1) := by decide +kernel
theorem i_E_heaviest_13 : decode (mb 162) 13 = .ok (.lconst 0, 1) := by decide +kernel
theorem i_E_heaviest_14 : decode (mb 162) 14 = .ok (.lastore, 1) := by decide +kernel
theorem i_E_heaviest_15 : decode (mb 162) 15 = .ok (.iconst 1, 1) := by decide +kernel
theorem i_E_heaviest_16 : decode (mb 162) 16 = .ok (.istore 4, 2) := by decide +kernel
theorem i_E_heaviest_18 : decode (mb 162) 18 = .ok (.iload 4, 2) := by decide +kernel
theorem i_E_heaviest_20 : decode (mb 162) 20 = .ok (.iload_n 2, 1) := by decide +kernel
theorem i_E_heaviest_21 : decode (mb 162) 21 = .ok (.if_icmp .ge 65, 3) := by decide +kernel
theorem i_E_heaviest_24 : decode (mb 162) 24 = .ok (.aload_n 0, 1) := by decide +kernel
theorem i_E_heaviest_25 : decode (mb 162) 25 = .ok (.getfield 17, 3) := by decide +kernel
theorem i_E_heaviest_28 : decode (mb 162) 28 = .ok (.iload 4, 2) := by decide +kernel
theorem i_E_heaviest_30 : decode (mb 162) 30 = .ok (.aload_n 0, 1) := by decide +kernel
theorem i_E_heaviest_31 : decode (mb 162) 31 = .ok (.getfield 17, 3) := by decide +kernel
theorem i_E_heaviest_34 : decode (mb 162) 34 = .ok (.iload 4, 2) := by decide +kernel
theorem i_E_heaviest_36 : decode (mb 162) 36 = .ok (.iload 4, 2) := by decide +kernel
theorem i_E_heaviest_38 : decode (mb 162) 38 = .ok (.iconst 1, 1) := by decide +kernel
theorem i_E_heaviest_39 : decode (mb 162) 39 = .ok (.isub, 1) := by decide +kernel
theorem i_E_heaviest_40 : decode (mb 162) 40 = .ok (.iand, 1) := by decide +kernel
theorem i_E_heaviest_41 : decode (mb 162) 41 = .ok (.laload, 1) := by decide +kernel
theorem i_E_heaviest_42 : decode (mb 162) 42 = .ok (.aload_n 0, 1) := by decide +kernel
theorem i_E_heaviest_43 : decode (mb 162) 43 = .ok (.getfield 27, 3) := by decide +kernel
theorem i_E_heaviest_46 : decode (mb 162) 46 = .ok (.iload 4, 2) := by decide +kernel
theorem i_E_heaviest_48 : decode (mb 162) 48 = .ok (.invokestatic 97, 3) := by decide +kernel
theorem i_E_heaviest_51 : decode (mb 162) 51 = .ok (.invokestatic 102, 3) := by decide +kernel
theorem i_E_heaviest_54 : decode (mb 162) 54 = .ok (.i2l, 1) := by decide +kernel
theorem i_E_heaviest_55 : decode (mb 162) 55 = .ok (.ladd, 1) := by decide +kernel
theorem i_E_heaviest_56 : decode (mb 162) 56 = .ok (.lastore, 1) := by decide +kernel
theorem i_E_heaviest_57 : decode (mb 162) 57 = .ok (.aload_n 0, 1) := by decide +kernel
theorem i_E_heaviest_58 : decode (mb 162) 58 = .ok (.getfield 13, 3) := by decide +kernel
theorem i_E_heaviest_61 : decode (mb 162) 61 = .ok (.iload 4, 2) := by decide +kernel
theorem i_E_heaviest_63 : decode (mb 162) 63 = .ok (.baload, 1) := by decide +kernel
theorem i_E_heaviest_64 : decode (mb 162) 64 = .ok (.ifCond .eq 16, 3) := by decide +kernel
theorem i_E_heaviest_67 : decode (mb 162) 67 = .ok (.iload_n 3, 1) := by decide +kernel
theorem i_E_heaviest_68 : decode (mb 162) 68 = .ok (.aload_n 0, 1) := by decide +kernel
theorem i_E_heaviest_69 : decode (mb 162) 69 = .ok (.getfield 17, 3) := by decide +kernel
theorem i_E_heaviest_72 : decode (mb 162) 72 = .ok (.iload 4, 2) := by decide +kernel
theorem i_E_heaviest_74 : decode (mb 162) 74 = .ok (.laload, 1) := by decide +kernel
theorem i_E_heaviest_75 : decode (mb 162) 75 = .ok (.l2i, 1) := by decide +kernel
theorem i_E_heaviest_76 : decode (mb 162) 76 = .ok (.invokestatic 80, 3) := by decide +kernel
theorem i_E_heaviest_79 : decode (mb 162) 79 = .ok (.istore_n 3, 1) := by decide +kernel
theorem i_E_heaviest_80 : decode (mb 162) 80 = .ok (.iinc 4 1, 3) := by decide +kernel
theorem i_E_heaviest_83 : decode (mb 162) 83 = .ok (.goto (-65), 3) := by decide +kernel
theorem i_E_heaviest_86 : decode (mb 162) 86 = .ok (.iload_n 3, 1) := by decide +kernel
theorem i_E_heaviest_87 : decode (mb 162) 87 = .ok (.ireturn, 1) := by decide +kernel
theorem o_JM_max2 : (mn 163).cls = "java/lang/Math" := by decide +kernel
theorem l_JM_max2 : ml 163 = 2 := by decide +kernel
theorem t_JM_max2 : mr 163 = some (FieldType.int) := by decide +kernel
theorem i_JM_max2_0 : decode (mb 163) 0 = .ok (.iload_n 0, 1) := by decide +kernel
theorem i_JM_max2_1 : decode (mb 163) 1 = .ok (.iload_n 1, 1) := by decide +kernel
theorem i_JM_max2_2 : decode (mb 163) 2 = .ok (.if_icmp .lt 7, 3) := by decide +kernel
theorem i_JM_max2_5 : decode (mb 163) 5 = .ok (.iload_n 0, 1) := by decide +kernel
theorem i_JM_max2_6 : decode (mb 163) 6 = .ok (.goto 4, 3) := by decide +kernel
theorem i_JM_max2_9 : decode (mb 163) 9 = .ok (.iload_n 1, 1) := by decide +kernel
theorem i_JM_max2_10 : decode (mb 163) 10 = .ok (.ireturn, 1) := by decide +kernel
theorem o_N_cross : (mn 164).cls = "NeedsALoser" := by decide +kernel
theorem l_N_cross : ml 164 = 7 := by decide +kernel
theorem t_N_cross : mr 164 = some (FieldType.int) := by decide +kernel
theorem i_N_cross_0 : decode (mb 164) 0 = .ok (.aload_n 0, 1) := by decide +kernel
theorem i_N_cross_1 : decode (mb 164) 1 = .ok (.getfield 10, 3) := by decide +kernel
theorem i_N_cross_4 : decode (mb 164) 4 = .ok (.iload_n 1, 1) := by decide +kernel
theorem i_N_cross_5 : decode (mb 164) 5 = .ok (.iload_n 2, 1) := by decide +kernel
theorem i_N_cross_6 : decode (mb 164) 6 = .ok (.invokevirtual 145, 3) := by decide +kernel
theorem i_N_cross_9 : decode (mb 164) 9 = .ok (.ifCond .eq 11, 3) := by decide +kernel
theorem i_N_cross_12 : decode (mb 164) 12 = .ok (.iload_n 3, 1) := by decide +kernel
theorem i_N_cross_13 : decode (mb 164) 13 = .ok (.iconst 2, 1) := by decide +kernel
theorem i_N_cross_14 : decode (mb 164) 14 = .ok (.invokestatic 58, 3) := by decide +kernel
theorem i_N_cross_17 : decode (mb 164) 17 = .ok (.ifCond .ne 10, 3) := by decide +kernel
theorem i_N_cross_20 : decode (mb 164) 20 = .ok (.aload_n 0, 1) := by decide +kernel
theorem i_N_cross_21 : decode (mb 164) 21 = .ok (.bipush (-2), 2) := by decide +kernel
theorem i_N_cross_23 : decode (mb 164) 23 = .ok (.invokevirtual 212, 3) := by decide +kernel
theorem i_N_cross_26 : decode (mb 164) 26 = .ok (.ireturn, 1) := by decide +kernel
theorem i_N_cross_27 : decode (mb 164) 27 = .ok (.aload_n 0, 1) := by decide +kernel
theorem i_N_cross_28 : decode (mb 164) 28 = .ok (.getfield 10, 3) := by decide +kernel
theorem i_N_cross_31 : decode (mb 164) 31 = .ok (.iload_n 1, 1) := by decide +kernel
theorem i_N_cross_32 : decode (mb 164) 32 = .ok (.invokevirtual 218, 3) := by decide +kernel
theorem i_N_cross_35 : decode (mb 164) 35 = .ok (.aload_n 0, 1) := by decide +kernel
theorem i_N_cross_36 : decode (mb 164) 36 = .ok (.getfield 10, 3) := by decide +kernel
theorem i_N_cross_39 : decode (mb 164) 39 = .ok (.iload_n 2, 1) := by decide +kernel
theorem i_N_cross_40 : decode (mb 164) 40 = .ok (.invokevirtual 283, 3) := by decide +kernel
theorem i_N_cross_43 : decode (mb 164) 43 = .ok (.iand, 1) := by decide +kernel
theorem i_N_cross_44 : decode (mb 164) 44 = .ok (.istore 4, 2) := by decide +kernel
theorem i_N_cross_46 : decode (mb 164) 46 = .ok (.aload_n 0, 1) := by decide +kernel
theorem i_N_cross_47 : decode (mb 164) 47 = .ok (.getfield 10, 3) := by decide +kernel
theorem i_N_cross_50 : decode (mb 164) 50 = .ok (.iload_n 2, 1) := by decide +kernel
theorem i_N_cross_51 : decode (mb 164) 51 = .ok (.invokevirtual 218, 3) := by decide +kernel
theorem i_N_cross_54 : decode (mb 164) 54 = .ok (.aload_n 0, 1) := by decide +kernel
theorem i_N_cross_55 : decode (mb 164) 55 = .ok (.getfield 10, 3) := by decide +kernel
theorem i_N_cross_58 : decode (mb 164) 58 = .ok (.iload_n 1, 1) := by decide +kernel
theorem i_N_cross_59 : decode (mb 164) 59 = .ok (.invokevirtual 283, 3) := by decide +kernel
theorem i_N_cross_62 : decode (mb 164) 62 = .ok (.iand, 1) := by decide +kernel
theorem i_N_cross_63 : decode (mb 164) 63 = .ok (.istore 5, 2) := by decide +kernel
theorem i_N_cross_65 : decode (mb 164) 65 = .ok (.iload 4, 2) := by decide +kernel
theorem i_N_cross_67 : decode (mb 164) 67 = .ok (.ifCond .eq 12, 3) := by decide +kernel
theorem i_N_cross_70 : decode (mb 164) 70 = .ok (.iload 5, 2) := by decide +kernel
theorem i_N_cross_72 : decode (mb 164) 72 = .ok (.ifCond .eq 7, 3) := by decide +kernel
theorem i_N_cross_75 : decode (mb 164) 75 = .ok (.iconst 1, 1) := by decide +kernel
theorem i_N_cross_76 : decode (mb 164) 76 = .ok (.goto 4, 3) := by decide +kernel
theorem i_N_cross_79 : decode (mb 164) 79 = .ok (.iconst 0, 1) := by decide +kernel
theorem i_N_cross_80 : decode (mb 164) 80 = .ok (.istore 6, 2) := by decide +kernel
theorem i_N_cross_82 : decode (mb 164) 82 = .ok (.iload_n 3, 1) := by decide +kernel
theorem i_N_cross_83 : decode (mb 164) 83 = .ok (.ifCond .ne 14, 3) := by decide +kernel
theorem i_N_cross_86 : decode (mb 164) 86 = .ok (.iload 6, 2) := by decide +kernel
theorem i_N_cross_88 : decode (mb 164) 88 = .ok (.ifCond .eq 7, 3) := by decide +kernel
theorem i_N_cross_91 : decode (mb 164) 91 = .ok (.iconst 1, 1) := by decide +kernel
theorem i_N_cross_92 : decode (mb 164) 92 = .ok (.goto 4, 3) := by decide +kernel
theorem i_N_cross_95 : decode (mb 164) 95 = .ok (.iconst 0, 1) := by decide +kernel
theorem i_N_cross_96 : decode (mb 164) 96 = .ok (.ireturn, 1) := by decide +kernel
theorem i_N_cross_97 : decode (mb 164) 97 = .ok (.iload 6, 2) := by decide +kernel
theorem i_N_cross_99 : decode (mb 164) 99 = .ok (.ifCond .ne 10, 3) := by decide +kernel
theorem i_N_cross_102 : decode (mb 164) 102 = .ok (.aload_n 0, 1) := by decide +kernel
theorem i_N_cross_103 : decode (mb 164) 103 = .ok (.bipush (-5), 2) := by decide +kernel
theorem i_N_cross_105 : decode (mb 164) 105 = .ok (.invokevirtual 212, 3) := by decide +kernel
theorem i_N_cross_108 : decode (mb 164) 108 = .ok (.ireturn, 1) := by decide +kernel
theorem i_N_cross_109 : decode (mb 164) 109 = .ok (.aload_n 0, 1) := by decide +kernel
theorem i_N_cross_110 : decode (mb 164) 110 = .ok (.iload_n 1, 1) := by decide +kernel
theorem i_N_cross_111 : decode (mb 164) 111 = .ok (.iload 4, 2) := by decide +kernel
theorem i_N_cross_113 : decode (mb 164) 113 = .ok (.invokevirtual 286, 3) := by decide +kernel
theorem i_N_cross_116 : decode (mb 164) 116 = .ok (.aload_n 0, 1) := by decide +kernel
theorem i_N_cross_117 : decode (mb 164) 117 = .ok (.iload_n 2, 1) := by decide +kernel
theorem i_N_cross_118 : decode (mb 164) 118 = .ok (.iload 5, 2) := by decide +kernel
theorem i_N_cross_120 : decode (mb 164) 120 = .ok (.invokevirtual 286, 3) := by decide +kernel
theorem i_N_cross_123 : decode (mb 164) 123 = .ok (.iadd, 1) := by decide +kernel
theorem i_N_cross_124 : decode (mb 164) 124 = .ok (.ireturn, 1) := by decide +kernel
theorem o_T_partyBits : (mn 165).cls = "NeedsALoser$Town" := by decide +kernel
theorem l_T_partyBits : ml 165 = 2 := by decide +kernel
theorem t_T_partyBits : mr 165 = some (FieldType.int) := by decide +kernel
theorem i_T_partyBits_0 : decode (mb 165) 0 = .ok (.iconst 1, 1) := by decide +kernel
theorem i_T_partyBits_1 : decode (mb 165) 1 = .ok (.aload_n 0, 1) := by decide +kernel
theorem i_T_partyBits_2 : decode (mb 165) 2 = .ok (.getfield 46, 3) := by decide +kernel
theorem i_T_partyBits_5 : decode (mb 165) 5 = .ok (.iload_n 1, 1) := by decide +kernel
theorem i_T_partyBits_6 : decode (mb 165) 6 = .ok (.invokestatic 91, 3) := by decide +kernel
theorem i_T_partyBits_9 : decode (mb 165) 9 = .ok (.ishl, 1) := by decide +kernel
theorem i_T_partyBits_10 : decode (mb 165) 10 = .ok (.iconst 1, 1) := by decide +kernel
theorem i_T_partyBits_11 : decode (mb 165) 11 = .ok (.aload_n 0, 1) := by decide +kernel
theorem i_T_partyBits_12 : decode (mb 165) 12 = .ok (.getfield 49, 3) := by decide +kernel
theorem i_T_partyBits_15 : decode (mb 165) 15 = .ok (.iload_n 1, 1) := by decide +kernel
theorem i_T_partyBits_16 : decode (mb 165) 16 = .ok (.invokestatic 91, 3) := by decide +kernel
theorem i_T_partyBits_19 : decode (mb 165) 19 = .ok (.ishl, 1) := by decide +kernel
theorem i_T_partyBits_20 : decode (mb 165) 20 = .ok (.ior, 1) := by decide +kernel
theorem i_T_partyBits_21 : decode (mb 165) 21 = .ok (.ireturn, 1) := by decide +kernel
theorem o_N_greatestValue : (mn 166).cls = "NeedsALoser" := by decide +kernel
theorem l_N_greatestValue : ml 166 = 4 := by decide +kernel
theorem t_N_greatestValue : mr 166 = some (FieldType.int) := by decide +kernel
theorem i_N_greatestValue_0 : decode (mb 166) 0 = .ok (.aload_n 0, 1) := by decide +kernel
theorem i_N_greatestValue_1 : decode (mb 166) 1 = .ok (.getfield 10, 3) := by decide +kernel
theorem i_N_greatestValue_4 : decode (mb 166) 4 = .ok (.iconst 1, 1) := by decide +kernel
theorem i_N_greatestValue_5 : decode (mb 166) 5 = .ok (.iconst 0, 1) := by decide +kernel
theorem i_N_greatestValue_6 : decode (mb 166) 6 = .ok (.iload_n 1, 1) := by decide +kernel
theorem i_N_greatestValue_7 : decode (mb 166) 7 = .ok (.iload_n 2, 1) := by decide +kernel
theorem i_N_greatestValue_8 : decode (mb 166) 8 = .ok (.invokestatic 351, 3) := by decide +kernel
theorem i_N_greatestValue_11 : decode (mb 166) 11 = .ok (.istore_n 3, 1) := by decide +kernel
theorem i_N_greatestValue_12 : decode (mb 166) 12 = .ok (.aload_n 0, 1) := by decide +kernel
theorem i_N_greatestValue_13 : decode (mb 166) 13 = .ok (.getfield 10, 3) := by decide +kernel
theorem i_N_greatestValue_16 : decode (mb 166) 16 = .ok (.iload_n 1, 1) := by decide +kernel
theorem i_N_greatestValue_17 : decode (mb 166) 17 = .ok (.iload_n 3, 1) := by decide +kernel
theorem i_N_greatestValue_18 : decode (mb 166) 18 = .ok (.invokevirtual 224, 3) := by decide +kernel
theorem i_N_greatestValue_21 : decode (mb 166) 21 = .ok (.ireturn, 1) := by decide +kernel
theorem o_N_rings : (mn 167).cls = "NeedsALoser" := by decide +kernel
theorem l_N_rings : ml 167 = 5 := by decide +kernel
theorem t_N_rings : mr 167 = some (FieldType.int) := by decide +kernel
theorem i_N_rings_0 : decode (mb 167) 0 = .ok (.iconst 0, 1) := by decide +kernel
theorem i_N_rings_1 : decode (mb 167) 1 = .ok (.istore_n 1, 1) := by decide +kernel
theorem i_N_rings_2 : decode (mb 167) 2 = .ok (.iconst 0, 1) := by decide +kernel
theorem i_N_rings_3 : decode (mb 167) 3 = .ok (.istore_n 2, 1) := by decide +kernel
theorem i_N_rings_4 : decode (mb 167) 4 = .ok (.iload_n 2, 1) := by decide +kernel
theorem i_N_rings_5 : decode (mb 167) 5 = .ok (.aload_n 0, 1) := by decide +kernel
theorem i_N_rings_6 : decode (mb 167) 6 = .ok (.getfield 10, 3) := by decide +kernel
theorem i_N_rings_9 : decode (mb 167) 9 = .ok (.getfield 113, 3) := by decide +kernel
theorem i_N_rings_12 : decode (mb 167) 12 = .ok (.if_icmp .ge 78, 3) := by decide +kernel
theorem i_N_rings_15 : decode (mb 167) 15 = .ok (.iload_n 2, 1) := by decide +kernel
theorem i_N_rings_16 : decode (mb 167) 16 = .ok (.iconst 1, 1) := by decide +kernel
theorem i_N_rings_17 : decode (mb 167) 17 = .ok (.iadd, 1) := by decide +kernel
theorem i_N_rings_18 : decode (mb 167) 18 = .ok (.istore_n 3, 1) := by decide +kernel
theorem i_N_rings_19 : decode (mb 167) 19 = .ok (.iload_n 3, 1) := by decide +kernel
theorem i_N_rings_20 : decode (mb 167) 20 = .ok (.aload_n 0, 1) := by decide +kernel
theorem i_N_rings_21 : decode (mb 167) 21 = .ok (.getfield 10, 3) := by decide +kernel
theorem i_N_rings_24 : decode (mb 167) 24 = .ok (.getfield 113, 3) := by decide +kernel
theorem i_N_rings_27 : decode (mb 167) 27 = .ok (.if_icmp .ge 57, 3) := by decide +kernel
theorem i_N_rings_30 : decode (mb 167) 30 = .ok (.iload_n 3, 1) := by decide +kernel
theorem i_N_rings_31 : decode (mb 167) 31 = .ok (.iconst 1, 1) := by decide +kernel
theorem i_N_rings_32 : decode (mb 167) 32 = .ok (.iadd, 1) := by decide +kernel
theorem i_N_rings_33 : decode (mb 167) 33 = .ok (.istore 4, 2) := by decide +kernel
theorem i_N_rings_35 : decode (mb 167) 35 = .ok (.iload 4, 2) := by decide +kernel
theorem i_N_rings_37 : decode (mb 167) 37 = .ok (.aload_n 0, 1) := by decide +kernel
theorem i_N_rings_38 : decode (mb 167) 38 = .ok (.getfield 10, 3) := by decide +kernel
theorem i_N_rings_41 : decode (mb 167) 41 = .ok (.getfield 113, 3) := by decide +kernel
theorem i_N_rings_44 : decode (mb 167) 44 = .ok (.if_icmp .ge 34, 3) := by decide +kernel
theorem i_N_rings_47 : decode (mb 167) 47 = .ok (.aload_n 0, 1) := by decide +kernel
theorem i_N_rings_48 : decode (mb 167) 48 = .ok (.iload_n 2, 1) := by decide +kernel
theorem i_N_rings_49 : decode (mb 167) 49 = .ok (.iload_n 3, 1) := by decide +kernel
theorem i_N_rings_50 : decode (mb 167) 50 = .ok (.iload 4, 2) := by decide +kernel
theorem i_N_rings_52 : decode (mb 167) 52 = .ok (.invokevirtual 289, 3) := by decide +kernel
theorem i_N_rings_55 : decode (mb 167) 55 = .ok (.ifCond .ne 14, 3) := by decide +kernel
theorem i_N_rings_58 : decode (mb 167) 58 = .ok (.aload_n 0, 1) := by decide +kernel
theorem i_N_rings_59 : decode (mb 167) 59 = .ok (.iload_n 2, 1) := by decide +kernel
theorem i_N_rings_60 : decode (mb 167) 60 = .ok (.iload 4, 2) := by decide +kernel
theorem i_N_rings_62 : decode (mb 167) 62 = .ok (.iload_n 3, 1) := by decide +kernel
theorem i_N_rings_63 : decode (mb 167) 63 = .ok (.invokevirtual 289, 3) := by decide +kernel
theorem i_N_rings_66 : decode (mb 167) 66 = .ok (.ifCond .eq 6, 3) := by decide +kernel
theorem i_N_rings_69 : decode (mb 167) 69 = .ok (.iinc 1 1, 3) := by decide +kernel
theorem i_N_rings_72 : decode (mb 167) 72 = .ok (.iinc 4 1, 3) := by decide +kernel
theorem i_N_rings_75 : decode (mb 167) 75 = .ok (.goto (-40), 3) := by decide +kernel
theorem i_N_rings_78 : decode (mb 167) 78 = .ok (.iinc 3 1, 3) := by decide +kernel
theorem i_N_rings_81 : decode (mb 167) 81 = .ok (.goto (-62), 3) := by decide +kernel
theorem i_N_rings_84 : decode (mb 167) 84 = .ok (.iinc 2 1, 3) := by decide +kernel
theorem i_N_rings_87 : decode (mb 167) 87 = .ok (.goto (-83), 3) := by decide +kernel
theorem i_N_rings_90 : decode (mb 167) 90 = .ok (.iload_n 1, 1) := by decide +kernel
theorem i_N_rings_91 : decode (mb 167) 91 = .ok (.ireturn, 1) := by decide +kernel
theorem o_N_isRing : (mn 168).cls = "NeedsALoser" := by decide +kernel
theorem l_N_isRing : ml 168 = 4 := by decide +kernel
theorem t_N_isRing : mr 168 = some (FieldType.boolean) := by decide +kernel
theorem i_N_isRing_0 : decode (mb 168) 0 = .ok (.aload_n 0, 1) := by decide +kernel
theorem i_N_isRing_1 : decode (mb 168) 1 = .ok (.getfield 10, 3) := by decide +kernel
theorem i_N_isRing_4 : decode (mb 168) 4 = .ok (.iload_n 1, 1) := by decide +kernel
theorem i_N_isRing_5 : decode (mb 168) 5 = .ok (.invokevirtual 218, 3) := by decide +kernel
theorem i_N_isRing_8 : decode (mb 168) 8 = .ok (.aload_n 0, 1) := by decide +kernel
theorem i_N_isRing_9 : decode (mb 168) 9 = .ok (.getfield 10, 3) := by decide +kernel
theorem i_N_isRing_12 : decode (mb 168) 12 = .ok (.iload_n 2, 1) := by decide +kernel
theorem i_N_isRing_13 : decode (mb 168) 13 = .ok (.invokevirtual 283, 3) := by decide +kernel
theorem i_N_isRing_16 : decode (mb 168) 16 = .ok (.iand, 1) := by decide +kernel
theorem i_N_isRing_17 : decode (mb 168) 17 = .ok (.ifCond .eq 47, 3) := by decide +kernel
theorem i_N_isRing_20 : decode (mb 168) 20 = .ok (.aload_n 0, 1) := by decide +kernel
theorem i_N_isRing_21 : decode (mb 168) 21 = .ok (.getfield 10, 3) := by decide +kernel
theorem i_N_isRing_24 : decode (mb 168) 24 = .ok (.iload_n 2, 1) := by decide +kernel
theorem i_N_isRing_25 : decode (mb 168) 25 = .ok (.invokevirtual 218, 3) := by decide +kernel
theorem i_N_isRing_28 : decode (mb 168) 28 = .ok (.aload_n 0, 1) := by decide +kernel
theorem i_N_isRing_29 : decode (mb 168) 29 = .ok (.getfield 10, 3) := by decide +kernel
theorem i_N_isRing_32 : decode (mb 168) 32 = .ok (.iload_n 3, 1) := by decide +kernel
theorem i_N_isRing_33 : decode (mb 168) 33 = .ok (.invokevirtual 283, 3) := by decide +kernel
theorem i_N_isRing_36 : decode (mb 168) 36 = .ok (.iand, 1) := by decide +kernel
theorem i_N_isRing_37 : decode (mb 168) 37 = .ok (.ifCond .eq 27, 3) := by decide +kernel
theorem i_N_isRing_40 : decode (mb 168) 40 = .ok (.aload_n 0, 1) := by decide +kernel
theorem i_N_isRing_41 : decode (mb 168) 41 = .ok (.getfield 10, 3) := by decide +kernel
theorem i_N_isRing_44 : decode (mb 168) 44 = .ok (.iload_n 3, 1) := by decide +kernel
theorem i_N_isRing_45 : decode (mb 168) 45 = .ok (.invokevirtual 218, 3) := by decide +kernel
theorem i_N_isRing_48 : decode (mb 168) 48 = .ok (.aload_n 0, 1) := by decide +kernel
theorem i_N_isRing_49 : decode (mb 168) 49 = .ok (.getfield 10, 3) := by decide +kernel
theorem i_N_isRing_52 : decode (mb 168) 52 = .ok (.iload_n 1, 1) := by decide +kernel
theorem i_N_isRing_53 : decode (mb 168) 53 = .ok (.invokevirtual 283, 3) := by decide +kernel
theorem i_N_isRing_56 : decode (mb 168) 56 = .ok (.iand, 1) := by decide +kernel
theorem i_N_isRing_57 : decode (mb 168) 57 = .ok (.ifCond .eq 7, 3) := by decide +kernel
theorem i_N_isRing_60 : decode (mb 168) 60 = .ok (.iconst 1, 1) := by decide +kernel
theorem i_N_isRing_61 : decode (mb 168) 61 = .ok (.goto 4, 3) := by decide +kernel
theorem i_N_isRing_64 : decode (mb 168) 64 = .ok (.iconst 0, 1) := by decide +kernel
theorem i_N_isRing_65 : decode (mb 168) 65 = .ok (.ireturn, 1) := by decide +kernel
theorem o_N_harm : (mn 169).cls = "NeedsALoser" := by decide +kernel
theorem l_N_harm : ml 169 = 2 := by decide +kernel
theorem t_N_harm : mr 169 = some (FieldType.int) := by decide +kernel
theorem i_N_harm_0 : decode (mb 169) 0 = .ok (.aload_n 0, 1) := by decide +kernel
theorem i_N_harm_1 : decode (mb 169) 1 = .ok (.getfield 10, 3) := by decide +kernel
theorem i_N_harm_4 : decode (mb 169) 4 = .ok (.iload_n 1, 1) := by decide +kernel
theorem i_N_harm_5 : decode (mb 169) 5 = .ok (.invokevirtual 131, 3) := by decide +kernel
theorem i_N_harm_8 : decode (mb 169) 8 = .ok (.ifCond .eq 18, 3) := by decide +kernel
theorem i_N_harm_11 : decode (mb 169) 11 = .ok (.aload_n 0, 1) := by decide +kernel
theorem i_N_harm_12 : decode (mb 169) 12 = .ok (.getfield 50, 3) := by decide +kernel
theorem i_N_harm_15 : decode (mb 169) 15 = .ok (.aload_n 0, 1) := by decide +kernel
theorem i_N_harm_16 : decode (mb 169) 16 = .ok (.getfield 10, 3) := by decide +kernel
theorem i_N_harm_19 : decode (mb 169) 19 = .ok (.iload_n 1, 1) := by decide +kernel
theorem i_N_harm_20 : decode (mb 169) 20 = .ok (.invokevirtual 292, 3) := by decide +kernel
theorem i_N_harm_23 : decode (mb 169) 23 = .ok (.goto 9, 3) := by decide +kernel
theorem i_N_harm_26 : decode (mb 169) 26 = .ok (.aload_n 0, 1) := by decide +kernel
theorem i_N_harm_27 : decode (mb 169) 27 = .ok (.bipush (-2), 2) := by decide +kernel
theorem i_N_harm_29 : decode (mb 169) 29 = .ok (.invokevirtual 66, 3) := by decide +kernel
theorem i_N_harm_32 : decode (mb 169) 32 = .ok (.ireturn, 1) := by decide +kernel
theorem o_E_greatestHarm : (mn 170).cls = "NeedsALoser$Search" := by decide +kernel
theorem l_E_greatestHarm : ml 170 = 6 := by decide +kernel
theorem t_E_greatestHarm : mr 170 = some (FieldType.int) := by decide +kernel
theorem i_E_greatestHarm_0 : decode (mb 170) 0 = .ok (.iconst 0, 1) := by decide +kernel
theorem i_E_greatestHarm_1 : decode (mb 170) 1 = .ok (.istore_n 3, 1) := by decide +kernel
theorem i_E_greatestHarm_2 : decode (mb 170) 2 = .ok (.iconst 0, 1) := by decide +kernel
theorem i_E_greatestHarm_3 : decode (mb 170) 3 = .ok (.istore 4, 2) := by decide +kernel
theorem i_E_greatestHarm_5 : decode (mb 170) 5 = .ok (.iload 4, 2) := by decide +kernel
theorem i_E_greatestHarm_7 : decode (mb 170) 7 = .ok (.aload_n 1, 1) := by decide +kernel
theorem i_E_greatestHarm_8 : decode (mb 170) 8 = .ok (.getfield 57, 3) := by decide +kernel
theorem i_E_greatestHarm_11 : decode (mb 170) 11 = .ok (.if_icmp .ge 50, 3) := by decide +kernel
theorem i_E_greatestHarm_14 : decode (mb 170) 14 = .ok (.aload_n 1, 1) := by decide +kernel
theorem i_E_greatestHarm_15 : decode (mb 170) 15 = .ok (.iload 4, 2) := by decide +kernel
theorem i_E_greatestHarm_17 : decode (mb 170) 17 = .ok (.iload_n 2, 1) := by decide +kernel
theorem i_E_greatestHarm_18 : decode (mb 170) 18 = .ok (.invokevirtual 72, 3) := by decide +kernel
theorem i_E_greatestHarm_21 : decode (mb 170) 21 = .ok (.ifCond .eq 13, 3) := by decide +kernel
theorem i_E_greatestHarm_24 : decode (mb 170) 24 = .ok (.aload_n 1, 1) := by decide +kernel
theorem i_E_greatestHarm_25 : decode (mb 170) 25 = .ok (.iload 4, 2) := by decide +kernel
theorem i_E_greatestHarm_27 : decode (mb 170) 27 = .ok (.iload_n 2, 1) := by decide +kernel
theorem i_E_greatestHarm_28 : decode (mb 170) 28 = .ok (.invokevirtual 76, 3) := by decide +kernel
theorem i_E_greatestHarm_31 : decode (mb 170) 31 = .ok (.goto 4, 3) := by decide +kernel
theorem i_E_greatestHarm_34 : decode (mb 170) 34 = .ok (.iconst 0, 1) := by decide +kernel
theorem i_E_greatestHarm_35 : decode (mb 170) 35 = .ok (.istore 5, 2) := by decide +kernel
theorem i_E_greatestHarm_37 : decode (mb 170) 37 = .ok (.aload_n 0, 1) := by decide +kernel
theorem i_E_greatestHarm_38 : decode (mb 170) 38 = .ok (.getfield 27, 3) := by decide +kernel
theorem i_E_greatestHarm_41 : decode (mb 170) 41 = .ok (.iload 4, 2) := by decide +kernel
theorem i_E_greatestHarm_43 : decode (mb 170) 43 = .ok (.iload 5, 2) := by decide +kernel
theorem i_E_greatestHarm_45 : decode (mb 170) 45 = .ok (.invokestatic 64, 3) := by decide +kernel
theorem i_E_greatestHarm_48 : decode (mb 170) 48 = .ok (.iload_n 3, 1) := by decide +kernel
theorem i_E_greatestHarm_49 : decode (mb 170) 49 = .ok (.iload 5, 2) := by decide +kernel
theorem i_E_greatestHarm_51 : decode (mb 170) 51 = .ok (.invokestatic 80, 3) := by decide +kernel
theorem i_E_greatestHarm_54 : decode (mb 170) 54 = .ok (.istore_n 3, 1) := by decide +kernel
theorem i_E_greatestHarm_55 : decode (mb 170) 55 = .ok (.iinc 4 1, 3) := by decide +kernel
theorem i_E_greatestHarm_58 : decode (mb 170) 58 = .ok (.goto (-53), 3) := by decide +kernel
theorem i_E_greatestHarm_61 : decode (mb 170) 61 = .ok (.aload_n 1, 1) := by decide +kernel
theorem i_E_greatestHarm_62 : decode (mb 170) 62 = .ok (.getfield 85, 3) := by decide +kernel
theorem i_E_greatestHarm_65 : decode (mb 170) 65 = .ok (.iconst 1, 1) := by decide +kernel
theorem i_E_greatestHarm_66 : decode (mb 170) 66 = .ok (.if_icmp .ne 7, 3) := by decide +kernel
theorem i_E_greatestHarm_69 : decode (mb 170) 69 = .ok (.iload_n 3, 1) := by decide +kernel
theorem i_E_greatestHarm_70 : decode (mb 170) 70 = .ok (.goto 8, 3) := by decide +kernel
theorem i_E_greatestHarm_73 : decode (mb 170) 73 = .ok (.aload_n 0, 1) := by decide +kernel
theorem i_E_greatestHarm_74 : decode (mb 170) 74 = .ok (.aload_n 1, 1) := by decide +kernel
theorem i_E_greatestHarm_75 : decode (mb 170) 75 = .ok (.invokevirtual 68, 3) := by decide +kernel
theorem i_E_greatestHarm_78 : decode (mb 170) 78 = .ok (.ireturn, 1) := by decide +kernel
theorem o_N_worst : (mn 171).cls = "NeedsALoser" := by decide +kernel
theorem l_N_worst : ml 171 = 5 := by decide +kernel
theorem t_N_worst : mr 171 = some (FieldType.int) := by decide +kernel
theorem i_N_worst_0 : decode (mb 171) 0 = .ok (.iconst (-1), 1) := by decide +kernel
theorem i_N_worst_1 : decode (mb 171) 1 = .ok (.istore_n 1, 1) := by decide +kernel
theorem i_N_worst_2 : decode (mb 171) 2 = .ok (.iconst 0, 1) := by decide +kernel
theorem i_N_worst_3 : decode (mb 171) 3 = .ok (.istore_n 2, 1) := by decide +kernel
theorem i_N_worst_4 : decode (mb 171) 4 = .ok (.iconst 0, 1) := by decide +kernel
theorem i_N_worst_5 : decode (mb 171) 5 = .ok (.istore_n 3, 1) := by decide +kernel
theorem i_N_worst_6 : decode (mb 171) 6 = .ok (.iload_n 3, 1) := by decide +kernel
theorem i_N_worst_7 : decode (mb 171) 7 = .ok (.aload_n 0, 1) := by decide +kernel
theorem i_N_worst_8 : decode (mb 171) 8 = .ok (.getfield 10, 3) := by decide +kernel
theorem i_N_worst_11 : decode (mb 171) 11 = .ok (.getfield 124, 3) := by decide +kernel
theorem i_N_worst_14 : decode (mb 171) 14 = .ok (.if_icmp .ge 39, 3) := by decide +kernel
theorem i_N_worst_17 : decode (mb 171) 17 = .ok (.aload_n 0, 1) := by decide +kernel
theorem i_N_worst_18 : decode (mb 171) 18 = .ok (.getfield 50, 3) := by decide +kernel
theorem i_N_worst_21 : decode (mb 171) 21 = .ok (.aload_n 0, 1) := by decide +kernel
theorem i_N_worst_22 : decode (mb 171) 22 = .ok (.getfield 10, 3) := by decide +kernel
theorem i_N_worst_25 : decode (mb 171) 25 = .ok (.iload_n 3, 1) := by decide +kernel
theorem i_N_worst_26 : decode (mb 171) 26 = .ok (.invokevirtual 292, 3) := by decide +kernel
theorem i_N_worst_29 : decode (mb 171) 29 = .ok (.istore 4, 2) := by decide +kernel
theorem i_N_worst_31 : decode (mb 171) 31 = .ok (.iload_n 1, 1) := by decide +kernel
theorem i_N_worst_32 : decode (mb 171) 32 = .ok (.iconst (-1), 1) := by decide +kernel
theorem i_N_worst_33 : decode (mb 171) 33 = .ok (.if_icmp .eq 9, 3) := by decide +kernel
theorem i_N_worst_36 : decode (mb 171) 36 = .ok (.iload 4, 2) := by decide +kernel
theorem i_N_worst_38 : decode (mb 171) 38 = .ok (.iload_n 2, 1) := by decide +kernel
theorem i_N_worst_39 : decode (mb 171) 39 = .ok (.if_icmp .le 8, 3) := by decide +kernel
theorem i_N_worst_42 : decode (mb 171) 42 = .ok (.iload_n 3, 1) := by decide +kernel
theorem i_N_worst_43 : decode (mb 171) 43 = .ok (.istore_n 1, 1) := by decide +kernel
theorem i_N_worst_44 : decode (mb 171) 44 = .ok (.iload 4, 2) := by decide +kernel
theorem i_N_worst_46 : decode (mb 171) 46 = .ok (.istore_n 2, 1) := by decide +kernel
theorem i_N_worst_47 : decode (mb 171) 47 = .ok (.iinc 3 1, 3) := by decide +kernel
theorem i_N_worst_50 : decode (mb 171) 50 = .ok (.goto (-44), 3) := by decide +kernel
theorem i_N_worst_53 : decode (mb 171) 53 = .ok (.iload_n 1, 1) := by decide +kernel
theorem i_N_worst_54 : decode (mb 171) 54 = .ok (.iconst (-1), 1) := by decide +kernel
theorem i_N_worst_55 : decode (mb 171) 55 = .ok (.if_icmp .ne 12, 3) := by decide +kernel
theorem i_N_worst_58 : decode (mb 171) 58 = .ok (.aload_n 0, 1) := by decide +kernel
theorem i_N_worst_59 : decode (mb 171) 59 = .ok (.bipush (-5), 2) := by decide +kernel
theorem i_N_worst_61 : decode (mb 171) 61 = .ok (.invokevirtual 66, 3) := by decide +kernel
theorem i_N_worst_64 : decode (mb 171) 64 = .ok (.goto 4, 3) := by decide +kernel
theorem i_N_worst_67 : decode (mb 171) 67 = .ok (.iload_n 1, 1) := by decide +kernel
theorem i_N_worst_68 : decode (mb 171) 68 = .ok (.ireturn, 1) := by decide +kernel
theorem o_N_hated : (mn 172).cls = "NeedsALoser" := by decide +kernel
theorem l_N_hated : ml 172 = 5 := by decide +kernel
theorem t_N_hated : mr 172 = some (FieldType.int) := by decide +kernel
theorem i_N_hated_0 : decode (mb 172) 0 = .ok (.iconst (-1), 1) := by decide +kernel
theorem i_N_hated_1 : decode (mb 172) 1 = .ok (.istore_n 1, 1) := by decide +kernel
theorem i_N_hated_2 : decode (mb 172) 2 = .ok (.iconst 0, 1) := by decide +kernel
theorem i_N_hated_3 : decode (mb 172) 3 = .ok (.istore_n 2, 1) := by decide +kernel
theorem i_N_hated_4 : decode (mb 172) 4 = .ok (.iconst 0, 1) := by decide +kernel
theorem i_N_hated_5 : decode (mb 172) 5 = .ok (.istore_n 3, 1) := by decide +kernel
theorem i_N_hated_6 : decode (mb 172) 6 = .ok (.iload_n 3, 1) := by decide +kernel
theorem i_N_hated_7 : decode (mb 172) 7 = .ok (.aload_n 0, 1) := by decide +kernel
theorem i_N_hated_8 : decode (mb 172) 8 = .ok (.getfield 10, 3) := by decide +kernel
theorem i_N_hated_11 : decode (mb 172) 11 = .ok (.getfield 124, 3) := by decide +kernel
theorem i_N_hated_14 : decode (mb 172) 14 = .ok (.if_icmp .ge 38, 3) := by decide +kernel
theorem i_N_hated_17 : decode (mb 172) 17 = .ok (.aload_n 0, 1) := by decide +kernel
theorem i_N_hated_18 : decode (mb 172) 18 = .ok (.getfield 10, 3) := by decide +kernel
theorem i_N_hated_21 : decode (mb 172) 21 = .ok (.iload_n 3, 1) := by decide +kernel
theorem i_N_hated_22 : decode (mb 172) 22 = .ok (.invokevirtual 295, 3) := by decide +kernel
theorem i_N_hated_25 : decode (mb 172) 25 = .ok (.invokestatic 298, 3) := by decide +kernel
theorem i_N_hated_28 : decode (mb 172) 28 = .ok (.istore 4, 2) := by decide +kernel
theorem i_N_hated_30 : decode (mb 172) 30 = .ok (.iload_n 1, 1) := by decide +kernel
theorem i_N_hated_31 : decode (mb 172) 31 = .ok (.iconst (-1), 1) := by decide +kernel
theorem i_N_hated_32 : decode (mb 172) 32 = .ok (.if_icmp .eq 9, 3) := by decide +kernel
theorem i_N_hated_35 : decode (mb 172) 35 = .ok (.iload 4, 2) := by decide +kernel
theorem i_N_hated_37 : decode (mb 172) 37 = .ok (.iload_n 2, 1) := by decide +kernel
theorem i_N_hated_38 : decode (mb 172) 38 = .ok (.if_icmp .le 8, 3) := by decide +kernel
theorem i_N_hated_41 : decode (mb 172) 41 = .ok (.iload_n 3, 1) := by decide +kernel
theorem i_N_hated_42 : decode (mb 172) 42 = .ok (.istore_n 1, 1) := by decide +kernel
theorem i_N_hated_43 : decode (mb 172) 43 = .ok (.iload 4, 2) := by decide +kernel
theorem i_N_hated_45 : decode (mb 172) 45 = .ok (.istore_n 2, 1) := by decide +kernel
theorem i_N_hated_46 : decode (mb 172) 46 = .ok (.iinc 3 1, 3) := by decide +kernel
theorem i_N_hated_49 : decode (mb 172) 49 = .ok (.goto (-43), 3) := by decide +kernel
theorem i_N_hated_52 : decode (mb 172) 52 = .ok (.iload_n 1, 1) := by decide +kernel
theorem i_N_hated_53 : decode (mb 172) 53 = .ok (.iconst (-1), 1) := by decide +kernel
theorem i_N_hated_54 : decode (mb 172) 54 = .ok (.if_icmp .ne 12, 3) := by decide +kernel
theorem i_N_hated_57 : decode (mb 172) 57 = .ok (.aload_n 0, 1) := by decide +kernel
theorem i_N_hated_58 : decode (mb 172) 58 = .ok (.bipush (-5), 2) := by decide +kernel
theorem i_N_hated_60 : decode (mb 172) 60 = .ok (.invokevirtual 66, 3) := by decide +kernel
theorem i_N_hated_63 : decode (mb 172) 63 = .ok (.goto 4, 3) := by decide +kernel
theorem i_N_hated_66 : decode (mb 172) 66 = .ok (.iload_n 1, 1) := by decide +kernel
theorem i_N_hated_67 : decode (mb 172) 67 = .ok (.ireturn, 1) := by decide +kernel
theorem o_N_said : (mn 173).cls = "NeedsALoser" := by decide +kernel
theorem l_N_said : ml 173 = 3 := by decide +kernel
theorem t_N_said : mr 173 = some (FieldType.int) := by decide +kernel
theorem i_N_said_0 : decode (mb 173) 0 = .ok (.aload_n 0, 1) := by decide +kernel
theorem i_N_said_1 : decode (mb 173) 1 = .ok (.getfield 10, 3) := by decide +kernel
theorem i_N_said_4 : decode (mb 173) 4 = .ok (.iload_n 1, 1) := by decide +kernel
theorem i_N_said_5 : decode (mb 173) 5 = .ok (.iload_n 2, 1) := by decide +kernel
theorem i_N_said_6 : decode (mb 173) 6 = .ok (.invokevirtual 139, 3) := by decide +kernel
theorem i_N_said_9 : decode (mb 173) 9 = .ok (.ifCond .ne 10, 3) := by decide +kernel
theorem i_N_said_12 : decode (mb 173) 12 = .ok (.aload_n 0, 1) := by decide +kernel
theorem i_N_said_13 : decode (mb 173) 13 = .ok (.bipush (-2), 2) := by decide +kernel
theorem i_N_said_15 : decode (mb 173) 15 = .ok (.invokevirtual 212, 3) := by decide +kernel
theorem i_N_said_18 : decode (mb 173) 18 = .ok (.ireturn, 1) := by decide +kernel
theorem i_N_said_19 : decode (mb 173) 19 = .ok (.aload_n 0, 1) := by decide +kernel
theorem i_N_said_20 : decode (mb 173) 20 = .ok (.getfield 10, 3) := by decide +kernel
theorem i_N_said_23 : decode (mb 173) 23 = .ok (.iload_n 1, 1) := by decide +kernel
theorem i_N_said_24 : decode (mb 173) 24 = .ok (.iload_n 2, 1) := by decide +kernel
theorem i_N_said_25 : decode (mb 173) 25 = .ok (.invokevirtual 303, 3) := by decide +kernel
theorem i_N_said_28 : decode (mb 173) 28 = .ok (.ifCond .ne 10, 3) := by decide +kernel
theorem i_N_said_31 : decode (mb 173) 31 = .ok (.aload_n 0, 1) := by decide +kernel
theorem i_N_said_32 : decode (mb 173) 32 = .ok (.bipush (-5), 2) := by decide +kernel
theorem i_N_said_34 : decode (mb 173) 34 = .ok (.invokevirtual 212, 3) := by decide +kernel
theorem i_N_said_37 : decode (mb 173) 37 = .ok (.ireturn, 1) := by decide +kernel
theorem i_N_said_38 : decode (mb 173) 38 = .ok (.aload_n 0, 1) := by decide +kernel
theorem i_N_said_39 : decode (mb 173) 39 = .ok (.getfield 10, 3) := by decide +kernel
theorem i_N_said_42 : decode (mb 173) 42 = .ok (.iload_n 1, 1) := by decide +kernel
theorem i_N_said_43 : decode (mb 173) 43 = .ok (.iload_n 2, 1) := by decide +kernel
theorem i_N_said_44 : decode (mb 173) 44 = .ok (.invokevirtual 306, 3) := by decide +kernel
theorem i_N_said_47 : decode (mb 173) 47 = .ok (.aload_n 0, 1) := by decide +kernel
theorem i_N_said_48 : decode (mb 173) 48 = .ok (.getfield 10, 3) := by decide +kernel
theorem i_N_said_51 : decode (mb 173) 51 = .ok (.getfield 309, 3) := by decide +kernel
theorem i_N_said_54 : decode (mb 173) 54 = .ok (.aload_n 0, 1) := by decide +kernel
theorem i_N_said_55 : decode (mb 173) 55 = .ok (.getfield 10, 3) := by decide +kernel
theorem i_N_said_58 : decode (mb 173) 58 = .ok (.getfield 312, 3) := by decide +kernel
theorem i_N_said_61 : decode (mb 173) 61 = .ok (.imul, 1) := by decide +kernel
theorem i_N_said_62 : decode (mb 173) 62 = .ok (.isub, 1) := by decide +kernel
theorem i_N_said_63 : decode (mb 173) 63 = .ok (.ireturn, 1) := by decide +kernel
theorem o_T_canBeSaid : (mn 174).cls = "NeedsALoser$Town" := by decide +kernel
theorem l_T_canBeSaid : ml 174 = 3 := by decide +kernel
theorem t_T_canBeSaid : mr 174 = some (FieldType.boolean) := by decide +kernel
theorem i_T_canBeSaid_0 : decode (mb 174) 0 = .ok (.aload_n 0, 1) := by decide +kernel
theorem i_T_canBeSaid_1 : decode (mb 174) 1 = .ok (.iload_n 1, 1) := by decide +kernel
theorem i_T_canBeSaid_2 : decode (mb 174) 2 = .ok (.iload_n 2, 1) := by decide +kernel
theorem i_T_canBeSaid_3 : decode (mb 174) 3 = .ok (.invokevirtual 98, 3) := by decide +kernel
theorem i_T_canBeSaid_6 : decode (mb 174) 6 = .ok (.aload_n 0, 1) := by decide +kernel
theorem i_T_canBeSaid_7 : decode (mb 174) 7 = .ok (.getfield 18, 3) := by decide +kernel
theorem i_T_canBeSaid_10 : decode (mb 174) 10 = .ok (.if_icmp .ge 16, 3) := by decide +kernel
theorem i_T_canBeSaid_13 : decode (mb 174) 13 = .ok (.aload_n 0, 1) := by decide +kernel
theorem i_T_canBeSaid_14 : decode (mb 174) 14 = .ok (.iload_n 1, 1) := by decide +kernel
theorem i_T_canBeSaid_15 : decode (mb 174) 15 = .ok (.iload_n 2, 1) := by decide +kernel
theorem i_T_canBeSaid_16 : decode (mb 174) 16 = .ok (.invokevirtual 102, 3) := by decide +kernel
theorem i_T_canBeSaid_19 : decode (mb 174) 19 = .ok (.ifCond .ne 7, 3) := by decide +kernel
theorem i_T_canBeSaid_22 : decode (mb 174) 22 = .ok (.iconst 1, 1) := by decide +kernel
theorem i_T_canBeSaid_23 : decode (mb 174) 23 = .ok (.goto 4, 3) := by decide +kernel
theorem i_T_canBeSaid_26 : decode (mb 174) 26 = .ok (.iconst 0, 1) := by decide +kernel
theorem i_T_canBeSaid_27 : decode (mb 174) 27 = .ok (.ireturn, 1) := by decide +kernel
theorem o_T_shareOfSaid : (mn 175).cls = "NeedsALoser$Town" := by decide +kernel
theorem l_T_shareOfSaid : ml 175 = 3 := by decide +kernel
theorem t_T_shareOfSaid : mr 175 = some (FieldType.int) := by decide +kernel
theorem i_T_shareOfSaid_0 : decode (mb 175) 0 = .ok (.bipush 10, 2) := by decide +kernel
theorem i_T_shareOfSaid_2 : decode (mb 175) 2 = .ok (.aload_n 0, 1) := by decide +kernel
theorem i_T_shareOfSaid_3 : decode (mb 175) 3 = .ok (.getfield 24, 3) := by decide +kernel
theorem i_T_shareOfSaid_6 : decode (mb 175) 6 = .ok (.isub, 1) := by decide +kernel
theorem i_T_shareOfSaid_7 : decode (mb 175) 7 = .ok (.aload_n 0, 1) := by decide +kernel
theorem i_T_shareOfSaid_8 : decode (mb 175) 8 = .ok (.iload_n 1, 1) := by decide +kernel
theorem i_T_shareOfSaid_9 : decode (mb 175) 9 = .ok (.iload_n 2, 1) := by decide +kernel
theorem i_T_shareOfSaid_10 : decode (mb 175) 10 = .ok (.invokevirtual 111, 3) := by decide +kernel
theorem i_T_shareOfSaid_13 : decode (mb 175) 13 = .ok (.imul, 1) := by decide +kernel
theorem i_T_shareOfSaid_14 : decode (mb 175) 14 = .ok (.ireturn, 1) := by decide +kernel
theorem o_N_dares : (mn 176).cls = "NeedsALoser" := by decide +kernel
theorem l_N_dares : ml 176 = 4 := by decide +kernel
theorem t_N_dares : mr 176 = some (FieldType.int) := by decide +kernel
theorem i_N_dares_0 : decode (mb 176) 0 = .ok (.iconst 0, 1) := by decide +kernel
theorem i_N_dares_1 : decode (mb 176) 1 = .ok (.istore_n 1, 1) := by decide +kernel
theorem i_N_dares_2 : decode (mb 176) 2 = .ok (.iconst 0, 1) := by decide +kernel
theorem i_N_dares_3 : decode (mb 176) 3 = .ok (.istore_n 2, 1) := by decide +kernel
theorem i_N_dares_4 : decode (mb 176) 4 = .ok (.iload_n 2, 1) := by decide +kernel
theorem i_N_dares_5 : decode (mb 176) 5 = .ok (.aload_n 0, 1) := by decide +kernel
theorem i_N_dares_6 : decode (mb 176) 6 = .ok (.getfield 10, 3) := by decide +kernel
theorem i_N_dares_9 : decode (mb 176) 9 = .ok (.getfield 113, 3) := by decide +kernel
theorem i_N_dares_12 : decode (mb 176) 12 = .ok (.if_icmp .ge 70, 3) := by decide +kernel
theorem i_N_dares_15 : decode (mb 176) 15 = .ok (.iconst 0, 1) := by decide +kernel
theorem i_N_dares_16 : decode (mb 176) 16 = .ok (.istore_n 3, 1) := by decide +kernel
theorem i_N_dares_17 : decode (mb 176) 17 = .ok (.iload_n 3, 1) := by decide +kernel
theorem i_N_dares_18 : decode (mb 176) 18 = .ok (.aload_n 0, 1) := by decide +kernel
theorem i_N_dares_19 : decode (mb 176) 19 = .ok (.getfield 10, 3) := by decide +kernel
theorem i_N_dares_22 : decode (mb 176) 22 = .ok (.getfield 124, 3) := by decide +kernel
theorem i_N_dares_25 : decode (mb 176) 25 = .ok (.if_icmp .ge 51, 3) := by decide +kernel
theorem i_N_dares_28 : decode (mb 176) 28 = .ok (.aload_n 0, 1) := by decide +kernel
theorem i_N_dares_29 : decode (mb 176) 29 = .ok (.getfield 10, 3) := by decide +kernel
theorem i_N_dares_32 : decode (mb 176) 32 = .ok (.iload_n 2, 1) := by decide +kernel
theorem i_N_dares_33 : decode (mb 176) 33 = .ok (.iload_n 3, 1) := by decide +kernel
theorem i_N_dares_34 : decode (mb 176) 34 = .ok (.invokevirtual 303, 3) := by decide +kernel
theorem i_N_dares_37 : decode (mb 176) 37 = .ok (.ifCond .eq 33, 3) := by decide +kernel
theorem i_N_dares_40 : decode (mb 176) 40 = .ok (.aload_n 0, 1) := by decide +kernel
theorem i_N_dares_41 : decode (mb 176) 41 = .ok (.getfield 10, 3) := by decide +kernel
theorem i_N_dares_44 : decode (mb 176) 44 = .ok (.iload_n 2, 1) := by decide +kernel
theorem i_N_dares_45 : decode (mb 176) 45 = .ok (.iload_n 3, 1) := by decide +kernel
theorem i_N_dares_46 : decode (mb 176) 46 = .ok (.invokevirtual 306, 3) := by decide +kernel
theorem i_N_dares_49 : decode (mb 176) 49 = .ok (.aload_n 0, 1) := by decide +kernel
theorem i_N_dares_50 : decode (mb 176) 50 = .ok (.getfield 10, 3) := by decide +kernel
theorem i_N_dares_53 : decode (mb 176) 53 = .ok (.getfield 309, 3) := by decide +kernel
theorem i_N_dares_56 : decode (mb 176) 56 = .ok (.aload_n 0, 1) := by decide +kernel
theorem i_N_dares_57 : decode (mb 176) 57 = .ok (.getfield 10, 3) := by decide +kernel
theorem i_N_dares_60 : decode (mb 176) 60 = .ok (.getfield 312, 3) := by decide +kernel
theorem i_N_dares_63 : decode (mb 176) 63 = .ok (.imul, 1) := by decide +kernel
theorem i_N_dares_64 : decode (mb 176) 64 = .ok (.if_icmp .le 6, 3) := by decide +kernel
theorem i_N_dares_67 : decode (mb 176) 67 = .ok (.iinc 1 1, 3) := by decide +kernel
theorem i_N_dares_70 : decode (mb 176) 70 = .ok (.iinc 3 1, 3) := by decide +kernel
theorem i_N_dares_73 : decode (mb 176) 73 = .ok (.goto (-56), 3) := by decide +kernel
theorem i_N_dares_76 : decode (mb 176) 76 = .ok (.iinc 2 1, 3) := by decide +kernel
theorem i_N_dares_79 : decode (mb 176) 79 = .ok (.goto (-75), 3) := by decide +kernel
theorem i_N_dares_82 : decode (mb 176) 82 = .ok (.iload_n 1, 1) := by decide +kernel
theorem i_N_dares_83 : decode (mb 176) 83 = .ok (.ireturn, 1) := by decide +kernel
theorem o_N_deters : (mn 177).cls = "NeedsALoser" := by decide +kernel
theorem l_N_deters : ml 177 = 4 := by decide +kernel
theorem t_N_deters : mr 177 = some (FieldType.int) := by decide +kernel
theorem i_N_deters_0 : decode (mb 177) 0 = .ok (.iconst 0, 1) := by decide +kernel
theorem i_N_deters_1 : decode (mb 177) 1 = .ok (.istore_n 1, 1) := by decide +kernel
theorem i_N_deters_2 : decode (mb 177) 2 = .ok (.iconst 0, 1) := by decide +kernel
theorem i_N_deters_3 : decode (mb 177) 3 = .ok (.istore_n 2, 1) := by decide +kernel
theorem i_N_deters_4 : decode (mb 177) 4 = .ok (.iload_n 2, 1) := by decide +kernel
theorem i_N_deters_5 : decode (mb 177) 5 = .ok (.aload_n 0, 1) := by decide +kernel
theorem i_N_deters_6 : decode (mb 177) 6 = .ok (.getfield 10, 3) := by decide +kernel
theorem i_N_deters_9 : decode (mb 177) 9 = .ok (.getfield 113, 3) := by decide +kernel
theorem i_N_deters_12 : decode (mb 177) 12 = .ok (.if_icmp .ge 54, 3) := by decide +kernel
theorem i_N_deters_15 : decode (mb 177) 15 = .ok (.iconst 0, 1) := by decide +kernel
theorem i_N_deters_16 : decode (mb 177) 16 = .ok (.istore_n 3, 1) := by decide +kernel
theorem i_N_deters_17 : decode (mb 177) 17 = .ok (.iload_n 3, 1) := by decide +kernel
theorem i_N_deters_18 : decode (mb 177) 18 = .ok (.aload_n 0, 1) := by decide +kernel
theorem i_N_deters_19 : decode (mb 177) 19 = .ok (.getfield 10, 3) := by decide +kernel
theorem i_N_deters_22 : decode (mb 177) 22 = .ok (.getfield 124, 3) := by decide +kernel
theorem i_N_deters_25 : decode (mb 177) 25 = .ok (.if_icmp .ge 35, 3) := by decide +kernel
theorem i_N_deters_28 : decode (mb 177) 28 = .ok (.aload_n 0, 1) := by decide +kernel
theorem i_N_deters_29 : decode (mb 177) 29 = .ok (.getfield 10, 3) := by decide +kernel
theorem i_N_deters_32 : decode (mb 177) 32 = .ok (.iload_n 2, 1) := by decide +kernel
theorem i_N_deters_33 : decode (mb 177) 33 = .ok (.iload_n 3, 1) := by decide +kernel
theorem i_N_deters_34 : decode (mb 177) 34 = .ok (.invokevirtual 303, 3) := by decide +kernel
theorem i_N_deters_37 : decode (mb 177) 37 = .ok (.ifCond .eq 17, 3) := by decide +kernel
theorem i_N_deters_40 : decode (mb 177) 40 = .ok (.iload_n 1, 1) := by decide +kernel
theorem i_N_deters_41 : decode (mb 177) 41 = .ok (.aload_n 0, 1) := by decide +kernel
theorem i_N_deters_42 : decode (mb 177) 42 = .ok (.getfield 10, 3) := by decide +kernel
theorem i_N_deters_45 : decode (mb 177) 45 = .ok (.iload_n 2, 1) := by decide +kernel
theorem i_N_deters_46 : decode (mb 177) 46 = .ok (.iload_n 3, 1) := by decide +kernel
theorem i_N_deters_47 : decode (mb 177) 47 = .ok (.invokevirtual 306, 3) := by decide +kernel
theorem i_N_deters_50 : decode (mb 177) 50 = .ok (.invokestatic 315, 3) := by decide +kernel
theorem i_N_deters_53 : decode (mb 177) 53 = .ok (.istore_n 1, 1) := by decide +kernel
theorem i_N_deters_54 : decode (mb 177) 54 = .ok (.iinc 3 1, 3) := by decide +kernel
theorem i_N_deters_57 : decode (mb 177) 57 = .ok (.goto (-40), 3) := by decide +kernel
theorem i_N_deters_60 : decode (mb 177) 60 = .ok (.iinc 2 1, 3) := by decide +kernel
theorem i_N_deters_63 : decode (mb 177) 63 = .ok (.goto (-59), 3) := by decide +kernel
theorem i_N_deters_66 : decode (mb 177) 66 = .ok (.iload_n 1, 1) := by decide +kernel
theorem i_N_deters_67 : decode (mb 177) 67 = .ok (.ifCond .ne 5, 3) := by decide +kernel
theorem i_N_deters_70 : decode (mb 177) 70 = .ok (.iconst 0, 1) := by decide +kernel
theorem i_N_deters_71 : decode (mb 177) 71 = .ok (.ireturn, 1) := by decide +kernel
theorem i_N_deters_72 : decode (mb 177) 72 = .ok (.aload_n 0, 1) := by decide +kernel
theorem i_N_deters_73 : decode (mb 177) 73 = .ok (.getfield 10, 3) := by decide +kernel
theorem i_N_deters_76 : decode (mb 177) 76 = .ok (.getfield 309, 3) := by decide +kernel
theorem i_N_deters_79 : decode (mb 177) 79 = .ok (.ifCond .ne 5, 3) := by decide +kernel
theorem i_N_deters_82 : decode (mb 177) 82 = .ok (.iconst (-1), 1) := by decide +kernel
theorem i_N_deters_83 : decode (mb 177) 83 = .ok (.ireturn, 1) := by decide +kernel
theorem i_N_deters_84 : decode (mb 177) 84 = .ok (.iload_n 1, 1) := by decide +kernel
theorem i_N_deters_85 : decode (mb 177) 85 = .ok (.aload_n 0, 1) := by decide +kernel
theorem i_N_deters_86 : decode (mb 177) 86 = .ok (.getfield 10, 3) := by decide +kernel
theorem i_N_deters_89 : decode (mb 177) 89 = .ok (.getfield 309, 3) := by decide +kernel
theorem i_N_deters_92 : decode (mb 177) 92 = .ok (.iadd, 1) := by decide +kernel
theorem i_N_deters_93 : decode (mb 177) 93 = .ok (.iconst 1, 1) := by decide +kernel
theorem i_N_deters_94 : decode (mb 177) 94 = .ok (.isub, 1) := by decide +kernel
theorem i_N_deters_95 : decode (mb 177) 95 = .ok (.aload_n 0, 1) := by decide +kernel
theorem i_N_deters_96 : decode (mb 177) 96 = .ok (.getfield 10, 3) := by decide +kernel
theorem i_N_deters_99 : decode (mb 177) 99 = .ok (.getfield 309, 3) := by decide +kernel
theorem i_N_deters_102 : decode (mb 177) 102 = .ok (.idiv, 1) := by decide +kernel
theorem i_N_deters_103 : decode (mb 177) 103 = .ok (.istore_n 2, 1) := by decide +kernel
theorem i_N_deters_104 : decode (mb 177) 104 = .ok (.iload_n 2, 1) := by decide +kernel
theorem i_N_deters_105 : decode (mb 177) 105 = .ok (.sipush 999, 3) := by decide +kernel
theorem i_N_deters_108 : decode (mb 177) 108 = .ok (.if_icmp .le 7, 3) := by decide +kernel
theorem i_N_deters_111 : decode (mb 177) 111 = .ok (.iconst (-1), 1) := by decide +kernel
theorem i_N_deters_112 : decode (mb 177) 112 = .ok (.goto 4, 3) := by decide +kernel
theorem i_N_deters_115 : decode (mb 177) 115 = .ok (.iload_n 2, 1) := by decide +kernel
theorem i_N_deters_116 : decode (mb 177) 116 = .ok (.ireturn, 1) := by decide +kernel
theorem o_N_under : (mn 178).cls = "NeedsALoser" := by decide +kernel
theorem l_N_under : ml 178 = 2 := by decide +kernel
theorem t_N_under : mr 178 = some (FieldType.int) := by decide +kernel
theorem i_N_under_0 : decode (mb 178) 0 = .ok (.iload_n 1, 1) := by decide +kernel
theorem i_N_under_1 : decode (mb 178) 1 = .ok (.iconst 1, 1) := by decide +kernel
theorem i_N_under_2 : decode (mb 178) 2 = .ok (.bipush 99, 2) := by decide +kernel
theorem i_N_under_4 : decode (mb 178) 4 = .ok (.invokestatic 62, 3) := by decide +kernel
theorem i_N_under_7 : decode (mb 178) 7 = .ok (.ifCond .ne 10, 3) := by decide +kernel
theorem i_N_under_10 : decode (mb 178) 10 = .ok (.aload_n 0, 1) := by decide +kernel
theorem i_N_under_11 : decode (mb 178) 11 = .ok (.bipush (-2), 2) := by decide +kernel
theorem i_N_under_13 : decode (mb 178) 13 = .ok (.invokevirtual 66, 3) := by decide +kernel
theorem i_N_under_16 : decode (mb 178) 16 = .ok (.ireturn, 1) := by decide +kernel
theorem i_N_under_17 : decode (mb 178) 17 = .ok (.aload_n 0, 1) := by decide +kernel
theorem i_N_under_18 : decode (mb 178) 18 = .ok (.getfield 19, 3) := by decide +kernel
theorem i_N_under_21 : decode (mb 178) 21 = .ok (.aload_n 0, 1) := by decide +kernel
theorem i_N_under_22 : decode (mb 178) 22 = .ok (.getfield 10, 3) := by decide +kernel
theorem i_N_under_25 : decode (mb 178) 25 = .ok (.invokevirtual 181, 3) := by decide +kernel
theorem i_N_under_28 : decode (mb 178) 28 = .ok (.aload_n 0, 1) := by decide +kernel
theorem i_N_under_29 : decode (mb 178) 29 = .ok (.getfield 19, 3) := by decide +kernel
theorem i_N_under_32 : decode (mb 178) 32 = .ok (.iload_n 1, 1) := by decide +kernel
theorem i_N_under_33 : decode (mb 178) 33 = .ok (.putfield 318, 3) := by decide +kernel
theorem i_N_under_36 : decode (mb 178) 36 = .ok (.aload_n 0, 1) := by decide +kernel
theorem i_N_under_37 : decode (mb 178) 37 = .ok (.getfield 50, 3) := by decide +kernel
theorem i_N_under_40 : decode (mb 178) 40 = .ok (.aload_n 0, 1) := by decide +kernel
theorem i_N_under_41 : decode (mb 178) 41 = .ok (.getfield 19, 3) := by decide +kernel
theorem i_N_under_44 : decode (mb 178) 44 = .ok (.aload_n 0, 1) := by decide +kernel
theorem i_N_under_45 : decode (mb 178) 45 = .ok (.getfield 19, 3) := by decide +kernel
theorem i_N_under_48 : decode (mb 178) 48 = .ok (.invokevirtual 251, 3) := by decide +kernel
theorem i_N_under_51 : decode (mb 178) 51 = .ok (.invokevirtual 254, 3) := by decide +kernel
theorem i_N_under_54 : decode (mb 178) 54 = .ok (.ireturn, 1) := by decide +kernel
theorem o_N_bestLaw : (mn 179).cls = "NeedsALoser" := by decide +kernel
theorem l_N_bestLaw : ml 179 = 1 := by decide +kernel
theorem t_N_bestLaw : mr 179 = some (FieldType.int) := by decide +kernel
theorem i_N_bestLaw_0 : decode (mb 179) 0 = .ok (.iconst 1, 1) := by decide +kernel
theorem i_N_bestLaw_1 : decode (mb 179) 1 = .ok (.ireturn, 1) := by decide +kernel
theorem o_N_hiding : (mn 180).cls = "NeedsALoser" := by decide +kernel
theorem l_N_hiding : ml 180 = 3 := by decide +kernel
theorem t_N_hiding : mr 180 = some (FieldType.int) := by decide +kernel
theorem i_N_hiding_0 : decode (mb 180) 0 = .ok (.aload_n 0, 1) := by decide +kernel
theorem i_N_hiding_1 : decode (mb 180) 1 = .ok (.getfield 10, 3) := by decide +kernel
theorem i_N_hiding_4 : decode (mb 180) 4 = .ok (.iload_n 1, 1) := by decide +kernel
theorem i_N_hiding_5 : decode (mb 180) 5 = .ok (.iload_n 2, 1) := by decide +kernel
theorem i_N_hiding_6 : decode (mb 180) 6 = .ok (.invokevirtual 139, 3) := by decide +kernel
theorem i_N_hiding_9 : decode (mb 180) 9 = .ok (.ifCond .ne 10, 3) := by decide +kernel
theorem i_N_hiding_12 : decode (mb 180) 12 = .ok (.aload_n 0, 1) := by decide +kernel
theorem i_N_hiding_13 : decode (mb 180) 13 = .ok (.bipush (-2), 2) := by decide +kernel
theorem i_N_hiding_15 : decode (mb 180) 15 = .ok (.invokevirtual 66, 3) := by decide +kernel
theorem i_N_hiding_18 : decode (mb 180) 18 = .ok (.ireturn, 1) := by decide +kernel
theorem i_N_hiding_19 : decode (mb 180) 19 = .ok (.aload_n 0, 1) := by decide +kernel
theorem i_N_hiding_20 : decode (mb 180) 20 = .ok (.getfield 10, 3) := by decide +kernel
theorem i_N_hiding_23 : decode (mb 180) 23 = .ok (.iload_n 1, 1) := by decide +kernel
theorem i_N_hiding_24 : decode (mb 180) 24 = .ok (.iload_n 2, 1) := by decide +kernel
theorem i_N_hiding_25 : decode (mb 180) 25 = .ok (.invokevirtual 269, 3) := by decide +kernel
theorem i_N_hiding_28 : decode (mb 180) 28 = .ok (.ifCond .eq 10, 3) := by decide +kernel
theorem i_N_hiding_31 : decode (mb 180) 31 = .ok (.aload_n 0, 1) := by decide +kernel
theorem i_N_hiding_32 : decode (mb 180) 32 = .ok (.bipush (-5), 2) := by decide +kernel
theorem i_N_hiding_34 : decode (mb 180) 34 = .ok (.invokevirtual 66, 3) := by decide +kernel
theorem i_N_hiding_37 : decode (mb 180) 37 = .ok (.ireturn, 1) := by decide +kernel
theorem i_N_hiding_38 : decode (mb 180) 38 = .ok (.aload_n 0, 1) := by decide +kernel
theorem i_N_hiding_39 : decode (mb 180) 39 = .ok (.getfield 19, 3) := by decide +kernel
theorem i_N_hiding_42 : decode (mb 180) 42 = .ok (.aload_n 0, 1) := by decide +kernel
theorem i_N_hiding_43 : decode (mb 180) 43 = .ok (.getfield 10, 3) := by decide +kernel
theorem i_N_hiding_46 : decode (mb 180) 46 = .ok (.invokevirtual 181, 3) := by decide +kernel
theorem i_N_hiding_49 : decode (mb 180) 49 = .ok (.aload_n 0, 1) := by decide +kernel
theorem i_N_hiding_50 : decode (mb 180) 50 = .ok (.getfield 19, 3) := by decide +kernel
theorem i_N_hiding_53 : decode (mb 180) 53 = .ok (.iload_n 1, 1) := by decide +kernel
theorem i_N_hiding_54 : decode (mb 180) 54 = .ok (.iload_n 2, 1) := by decide +kernel
theorem i_N_hiding_55 : decode (mb 180) 55 = .ok (.aload_n 0, 1) := by decide +kernel
theorem i_N_hiding_56 : decode (mb 180) 56 = .ok (.getfield 10, 3) := by decide +kernel
theorem i_N_hiding_59 : decode (mb 180) 59 = .ok (.getfield 318, 3) := by decide +kernel
theorem i_N_hiding_62 : decode (mb 180) 62 = .ok (.invokevirtual 142, 3) := by decide +kernel
theorem i_N_hiding_65 : decode (mb 180) 65 = .ok (.aload_n 0, 1) := by decide +kernel
theorem i_N_hiding_66 : decode (mb 180) 66 = .ok (.getfield 50, 3) := by decide +kernel
theorem i_N_hiding_69 : decode (mb 180) 69 = .ok (.aload_n 0, 1) := by decide +kernel
theorem i_N_hiding_70 : decode (mb 180) 70 = .ok (.getfield 19, 3) := by decide +kernel
theorem i_N_hiding_73 : decode (mb 180) 73 = .ok (.aload_n 0, 1) := by decide +kernel
theorem i_N_hiding_74 : decode (mb 180) 74 = .ok (.getfield 19, 3) := by decide +kernel
theorem i_N_hiding_77 : decode (mb 180) 77 = .ok (.invokevirtual 251, 3) := by decide +kernel
theorem i_N_hiding_80 : decode (mb 180) 80 = .ok (.invokevirtual 254, 3) := by decide +kernel
theorem i_N_hiding_83 : decode (mb 180) 83 = .ok (.aload_n 0, 1) := by decide +kernel
theorem i_N_hiding_84 : decode (mb 180) 84 = .ok (.invokevirtual 260, 3) := by decide +kernel
theorem i_N_hiding_87 : decode (mb 180) 87 = .ok (.isub, 1) := by decide +kernel
theorem i_N_hiding_88 : decode (mb 180) 88 = .ok (.ireturn, 1) := by decide +kernel
theorem o_N_named : (mn 181).cls = "NeedsALoser" := by decide +kernel
theorem l_N_named : ml 181 = 2 := by decide +kernel
theorem t_N_named : mr 181 = some (FieldType.int) := by decide +kernel
theorem i_N_named_0 : decode (mb 181) 0 = .ok (.aload_n 0, 1) := by decide +kernel
theorem i_N_named_1 : decode (mb 181) 1 = .ok (.getfield 10, 3) := by decide +kernel
theorem i_N_named_4 : decode (mb 181) 4 = .ok (.iload_n 1, 1) := by decide +kernel
theorem i_N_named_5 : decode (mb 181) 5 = .ok (.invokevirtual 131, 3) := by decide +kernel
theorem i_N_named_8 : decode (mb 181) 8 = .ok (.ifCond .eq 17, 3) := by decide +kernel
theorem i_N_named_11 : decode (mb 181) 11 = .ok (.aload_n 0, 1) := by decide +kernel
theorem i_N_named_12 : decode (mb 181) 12 = .ok (.getfield 10, 3) := by decide +kernel
theorem i_N_named_15 : decode (mb 181) 15 = .ok (.getfield 272, 3) := by decide +kernel
theorem i_N_named_18 : decode (mb 181) 18 = .ok (.iload_n 1, 1) := by decide +kernel
theorem i_N_named_19 : decode (mb 181) 19 = .ok (.invokestatic 195, 3) := by decide +kernel
theorem i_N_named_22 : decode (mb 181) 22 = .ok (.goto 9, 3) := by decide +kernel
theorem i_N_named_25 : decode (mb 181) 25 = .ok (.aload_n 0, 1) := by decide +kernel
theorem i_N_named_26 : decode (mb 181) 26 = .ok (.bipush (-2), 2) := by decide +kernel
theorem i_N_named_28 : decode (mb 181) 28 = .ok (.invokevirtual 66, 3) := by decide +kernel
theorem i_N_named_31 : decode (mb 181) 31 = .ok (.ireturn, 1) := by decide +kernel
theorem o_N_seed : (mn 182).cls = "NeedsALoser" := by decide +kernel
theorem l_N_seed : ml 182 = 3 := by decide +kernel
theorem t_N_seed : mr 182 = some (FieldType.int) := by decide +kernel
theorem i_N_seed_0 : decode (mb 182) 0 = .ok (.aload_n 0, 1) := by decide +kernel
theorem i_N_seed_1 : decode (mb 182) 1 = .ok (.getfield 10, 3) := by decide +kernel
theorem i_N_seed_4 : decode (mb 182) 4 = .ok (.getfield 321, 3) := by decide +kernel
theorem i_N_seed_7 : decode (mb 182) 7 = .ok (.istore_n 2, 1) := by decide +kernel
theorem i_N_seed_8 : decode (mb 182) 8 = .ok (.aload_n 0, 1) := by decide +kernel
theorem i_N_seed_9 : decode (mb 182) 9 = .ok (.getfield 10, 3) := by decide +kernel
theorem i_N_seed_12 : decode (mb 182) 12 = .ok (.iload_n 1, 1) := by decide +kernel
theorem i_N_seed_13 : decode (mb 182) 13 = .ok (.putfield 321, 3) := by decide +kernel
theorem i_N_seed_16 : decode (mb 182) 16 = .ok (.iload_n 2, 1) := by decide +kernel
theorem i_N_seed_17 : decode (mb 182) 17 = .ok (.ireturn, 1) := by decide +kernel
theorem o_N_image : (mn 183).cls = "NeedsALoser" := by decide +kernel
theorem l_N_image : ml 183 = 1 := by decide +kernel
theorem t_N_image : mr 183 = some (FieldType.int) := by decide +kernel
theorem i_N_image_0 : decode (mb 183) 0 = .ok (.aload_n 0, 1) := by decide +kernel
theorem i_N_image_1 : decode (mb 183) 1 = .ok (.getfield 16, 3) := by decide +kernel
theorem i_N_image_4 : decode (mb 183) 4 = .ok (.aload_n 0, 1) := by decide +kernel
theorem i_N_image_5 : decode (mb 183) 5 = .ok (.getfield 10, 3) := by decide +kernel
theorem i_N_image_8 : decode (mb 183) 8 = .ok (.invokevirtual 181, 3) := by decide +kernel
theorem i_N_image_11 : decode (mb 183) 11 = .ok (.aload_n 0, 1) := by decide +kernel
theorem i_N_image_12 : decode (mb 183) 12 = .ok (.iconst 1, 1) := by decide +kernel
theorem i_N_image_13 : decode (mb 183) 13 = .ok (.putfield 22, 3) := by decide +kernel
theorem i_N_image_16 : decode (mb 183) 16 = .ok (.iconst 1, 1) := by decide +kernel
theorem i_N_image_17 : decode (mb 183) 17 = .ok (.ireturn, 1) := by decide +kernel
theorem o_N_back : (mn 184).cls = "NeedsALoser" := by decide +kernel
theorem l_N_back : ml 184 = 1 := by decide +kernel
theorem t_N_back : mr 184 = some (FieldType.int) := by decide +kernel
theorem i_N_back_0 : decode (mb 184) 0 = .ok (.aload_n 0, 1) := by decide +kernel
theorem i_N_back_1 : decode (mb 184) 1 = .ok (.getfield 22, 3) := by decide +kernel
theorem i_N_back_4 : decode (mb 184) 4 = .ok (.ifCond .ne 10, 3) := by decide +kernel
theorem i_N_back_7 : decode (mb 184) 7 = .ok (.aload_n 0, 1) := by decide +kernel
theorem i_N_back_8 : decode (mb 184) 8 = .ok (.bipush (-5), 2) := by decide +kernel
theorem i_N_back_10 : decode (mb 184) 10 = .ok (.invokevirtual 66, 3) := by decide +kernel
theorem i_N_back_13 : decode (mb 184) 13 = .ok (.ireturn, 1) := by decide +kernel
theorem i_N_back_14 : decode (mb 184) 14 = .ok (.aload_n 0, 1) := by decide +kernel
theorem i_N_back_15 : decode (mb 184) 15 = .ok (.getfield 10, 3) := by decide +kernel
theorem i_N_back_18 : decode (mb 184) 18 = .ok (.aload_n 0, 1) := by decide +kernel
theorem i_N_back_19 : decode (mb 184) 19 = .ok (.getfield 16, 3) := by decide +kernel
theorem i_N_back_22 : decode (mb 184) 22 = .ok (.invokevirtual 181, 3) := by decide +kernel
theorem i_N_back_25 : decode (mb 184) 25 = .ok (.iconst 1, 1) := by decide +kernel
theorem i_N_back_26 : decode (mb 184) 26 = .ok (.ireturn, 1) := by decide +kernel
theorem o_N_status : (mn 185).cls = "NeedsALoser" := by decide +kernel
theorem l_N_status : ml 185 = 2 := by decide +kernel
theorem t_N_status : mr 185 = some (FieldType.int) := by decide +kernel
theorem i_N_status_0 : decode (mb 185) 0 = .ok (.iload_n 1, 1) := by decide +kernel
theorem i_N_status_1 : decode (mb 185) 1 = .ok (.tableswitch 147 0 10 #[59, 67, 75, 83, 91, 99, 107, 115, 123, 131, 139], 59) := by decide +kernel
theorem i_N_status_60 : decode (mb 185) 60 = .ok (.aload_n 0, 1) := by decide +kernel
theorem i_N_status_61 : decode (mb 185) 61 = .ok (.getfield 10, 3) := by decide +kernel
theorem i_N_status_64 : decode (mb 185) 64 = .ok (.getfield 124, 3) := by decide +kernel
theorem i_N_status_67 : decode (mb 185) 67 = .ok (.ireturn, 1) := by decide +kernel
theorem i_N_status_68 : decode (mb 185) 68 = .ok (.aload_n 0, 1) := by decide +kernel
theorem i_N_status_69 : decode (mb 185) 69 = .ok (.getfield 10, 3) := by decide +kernel
theorem i_N_status_72 : decode (mb 185) 72 = .ok (.getfield 113, 3) := by decide +kernel
theorem i_N_status_75 : decode (mb 185) 75 = .ok (.ireturn, 1) := by decide +kernel
theorem i_N_status_76 : decode (mb 185) 76 = .ok (.aload_n 0, 1) := by decide +kernel
theorem i_N_status_77 : decode (mb 185) 77 = .ok (.getfield 10, 3) := by decide +kernel
theorem i_N_status_80 : decode (mb 185) 80 = .ok (.getfield 324, 3) := by decide +kernel
theorem i_N_status_83 : decode (mb 185) 83 = .ok (.ireturn, 1) := by decide +kernel
theorem i_N_status_84 : decode (mb 185) 84 = .ok (.aload_n 0, 1) := by decide +kernel
theorem i_N_status_85 : decode (mb 185) 85 = .ok (.getfield 10, 3) := by decide +kernel
theorem i_N_status_88 : decode (mb 185) 88 = .ok (.getfield 327, 3) := by decide +kernel
theorem i_N_status_91 : decode (mb 185) 91 = .ok (.ireturn, 1) := by decide +kernel
theorem i_N_status_92 : decode (mb 185) 92 = .ok (.aload_n 0, 1) := by decide +kernel
theorem i_N_status_93 : decode (mb 185) 93 = .ok (.getfield 10, 3) := by decide +kernel
theorem i_N_status_96 : decode (mb 185) 96 = .ok (.getfield 318, 3) := by decide +kernel
theorem i_N_status_99 : decode (mb 185) 99 = .ok (.ireturn, 1) := by decide +kernel
theorem i_N_status_100 : decode (mb 185) 100 = .ok (.aload_n 0, 1) := by decide +kernel
theorem i_N_status_101 : decode (mb 185) 101 = .ok (.getfield 10, 3) := by decide +kernel
theorem i_N_status_104 : decode (mb 185) 104 = .ok (.getfield 330, 3) := by decide +kernel
theorem i_N_status_107 : decode (mb 185) 107 = .ok (.ireturn, 1) := by decide +kernel
theorem i_N_status_108 : decode (mb 185) 108 = .ok (.aload_n 0, 1) := by decide +kernel
theorem i_N_status_109 : decode (mb 185) 109 = .ok (.getfield 10, 3) := by decide +kernel
theorem i_N_status_112 : decode (mb 185) 112 = .ok (.getfield 309, 3) := by decide +kernel
theorem i_N_status_115 : decode (mb 185) 115 = .ok (.ireturn, 1) := by decide +kernel
theorem i_N_status_116 : decode (mb 185) 116 = .ok (.aload_n 0, 1) := by decide +kernel
theorem i_N_status_117 : decode (mb 185) 117 = .ok (.getfield 10, 3) := by decide +kernel
theorem i_N_status_120 : decode (mb 185) 120 = .ok (.getfield 312, 3) := by decide +kernel
theorem i_N_status_123 : decode (mb 185) 123 = .ok (.ireturn, 1) := by decide +kernel
theorem i_N_status_124 : decode (mb 185) 124 = .ok (.aload_n 0, 1) := by decide +kernel
theorem i_N_status_125 : decode (mb 185) 125 = .ok (.getfield 36, 3) := by decide +kernel
theorem i_N_status_128 : decode (mb 185) 128 = .ok (.getfield 333, 3) := by decide +kernel
theorem i_N_status_131 : decode (mb 185) 131 = .ok (.ireturn, 1) := by decide +kernel
theorem i_N_status_132 : decode (mb 185) 132 = .ok (.aload_n 0, 1) := by decide +kernel
theorem i_N_status_133 : decode (mb 185) 133 = .ok (.getfield 10, 3) := by decide +kernel
theorem i_N_status_136 : decode (mb 185) 136 = .ok (.getfield 321, 3) := by decide +kernel
theorem i_N_status_139 : decode (mb 185) 139 = .ok (.ireturn, 1) := by decide +kernel
theorem i_N_status_140 : decode (mb 185) 140 = .ok (.aload_n 0, 1) := by decide +kernel
theorem i_N_status_141 : decode (mb 185) 141 = .ok (.getfield 29, 3) := by decide +kernel
theorem i_N_status_144 : decode (mb 185) 144 = .ok (.invokevirtual 336, 3) := by decide +kernel
theorem i_N_status_147 : decode (mb 185) 147 = .ok (.ireturn, 1) := by decide +kernel
theorem i_N_status_148 : decode (mb 185) 148 = .ok (.iload_n 1, 1) := by decide +kernel
theorem i_N_status_149 : decode (mb 185) 149 = .ok (.bipush 12, 2) := by decide +kernel
theorem i_N_status_151 : decode (mb 185) 151 = .ok (.bipush 16, 2) := by decide +kernel
theorem i_N_status_153 : decode (mb 185) 153 = .ok (.invokestatic 62, 3) := by decide +kernel
theorem i_N_status_156 : decode (mb 185) 156 = .ok (.ifCond .eq 17, 3) := by decide +kernel
theorem i_N_status_159 : decode (mb 185) 159 = .ok (.aload_n 0, 1) := by decide +kernel
theorem i_N_status_160 : decode (mb 185) 160 = .ok (.getfield 54, 3) := by decide +kernel
theorem i_N_status_163 : decode (mb 185) 163 = .ok (.iload_n 1, 1) := by decide +kernel
theorem i_N_status_164 : decode (mb 185) 164 = .ok (.bipush 12, 2) := by decide +kernel
theorem i_N_status_166 : decode (mb 185) 166 = .ok (.isub, 1) := by decide +kernel
theorem i_N_status_167 : decode (mb 185) 167 = .ok (.invokestatic 195, 3) := by decide +kernel
theorem i_N_status_170 : decode (mb 185) 170 = .ok (.goto 4, 3) := by decide +kernel
theorem i_N_status_173 : decode (mb 185) 173 = .ok (.iconst (-1), 1) := by decide +kernel
theorem i_N_status_174 : decode (mb 185) 174 = .ok (.ireturn, 1) := by decide +kernel
theorem o_S_countHeld : (mn 186).cls = "NeedsALoser$Shelves" := by decide +kernel
theorem l_S_countHeld : ml 186 = 3 := by decide +kernel
theorem t_S_countHeld : mr 186 = some (FieldType.int) := by decide +kernel
theorem i_S_countHeld_0 : decode (mb 186) 0 = .ok (.iconst 0, 1) := by decide +kernel
theorem i_S_countHeld_1 : decode (mb 186) 1 = .ok (.istore_n 1, 1) := by decide +kernel
theorem i_S_countHeld_2 : decode (mb 186) 2 = .ok (.iconst 0, 1) := by decide +kernel
theorem i_S_countHeld_3 : decode (mb 186) 3 = .ok (.istore_n 2, 1) := by decide +kernel
theorem i_S_countHeld_4 : decode (mb 186) 4 = .ok (.iload_n 2, 1) := by decide +kernel
theorem i_S_countHeld_5 : decode (mb 186) 5 = .ok (.bipush 8, 2) := by decide +kernel
theorem i_S_countHeld_7 : decode (mb 186) 7 = .ok (.if_icmp .ge 21, 3) := by decide +kernel
theorem i_S_countHeld_10 : decode (mb 186) 10 = .ok (.aload_n 0, 1) := by decide +kernel
theorem i_S_countHeld_11 : decode (mb 186) 11 = .ok (.iload_n 2, 1) := by decide +kernel
theorem i_S_countHeld_12 : decode (mb 186) 12 = .ok (.invokevirtual 33, 3) := by decide +kernel
theorem i_S_countHeld_15 : decode (mb 186) 15 = .ok (.iconst (-1), 1) := by decide +kernel
theorem i_S_countHeld_16 : decode (mb 186) 16 = .ok (.if_icmp .eq 6, 3) := by decide +kernel
theorem i_S_countHeld_19 : decode (mb 186) 19 = .ok (.iinc 1 1, 3) := by decide +kernel
theorem i_S_countHeld_22 : decode (mb 186) 22 = .ok (.iinc 2 1, 3) := by decide +kernel
theorem i_S_countHeld_25 : decode (mb 186) 25 = .ok (.goto (-21), 3) := by decide +kernel
theorem i_S_countHeld_28 : decode (mb 186) 28 = .ok (.iload_n 1, 1) := by decide +kernel
theorem i_S_countHeld_29 : decode (mb 186) 29 = .ok (.ireturn, 1) := by decide +kernel
