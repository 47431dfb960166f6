theorem o_M_noWeek : (mn 243).cls = "NeedsALoserModel" := by decide +kernel
theorem l_M_noWeek : ml 243 = 3 := by decide +kernel
theorem t_M_noWeek : mr 243 = some (FieldType.int) := by decide +kernel
theorem i_M_noWeek_0 : decode (mb 243) 0 = .ok (.aload_n 0, 1) := by decide +kernel
theorem i_M_noWeek_1 : decode (mb 243) 1 = .ok (.iload_n 1, 1) := by decide +kernel
theorem i_M_noWeek_2 : decode (mb 243) 2 = .ok (.invokevirtual 93, 3) := by decide +kernel
theorem i_M_noWeek_5 : decode (mb 243) 5 = .ok (.istore_n 2, 1) := by decide +kernel
theorem i_M_noWeek_6 : decode (mb 243) 6 = .ok (.iload_n 2, 1) := by decide +kernel
theorem i_M_noWeek_7 : decode (mb 243) 7 = .ok (.ifCond .eq 5, 3) := by decide +kernel
theorem i_M_noWeek_10 : decode (mb 243) 10 = .ok (.iload_n 2, 1) := by decide +kernel
theorem i_M_noWeek_11 : decode (mb 243) 11 = .ok (.ireturn, 1) := by decide +kernel
theorem i_M_noWeek_12 : decode (mb 243) 12 = .ok (.aload_n 0, 1) := by decide +kernel
theorem i_M_noWeek_13 : decode (mb 243) 13 = .ok (.getfield 16, 3) := by decide +kernel
theorem i_M_noWeek_16 : decode (mb 243) 16 = .ok (.iload_n 1, 1) := by decide +kernel
theorem i_M_noWeek_17 : decode (mb 243) 17 = .ok (.iaload, 1) := by decide +kernel
theorem i_M_noWeek_18 : decode (mb 243) 18 = .ok (.aload_n 0, 1) := by decide +kernel
theorem i_M_noWeek_19 : decode (mb 243) 19 = .ok (.getfield 80, 3) := by decide +kernel
theorem i_M_noWeek_22 : decode (mb 243) 22 = .ok (.if_icmp .ge 12, 3) := by decide +kernel
theorem i_M_noWeek_25 : decode (mb 243) 25 = .ok (.aload_n 0, 1) := by decide +kernel
theorem i_M_noWeek_26 : decode (mb 243) 26 = .ok (.bipush (-2), 2) := by decide +kernel
theorem i_M_noWeek_28 : decode (mb 243) 28 = .ok (.invokevirtual 89, 3) := by decide +kernel
theorem i_M_noWeek_31 : decode (mb 243) 31 = .ok (.goto 4, 3) := by decide +kernel
theorem i_M_noWeek_34 : decode (mb 243) 34 = .ok (.iconst 0, 1) := by decide +kernel
theorem i_M_noWeek_35 : decode (mb 243) 35 = .ok (.ireturn, 1) := by decide +kernel
theorem o_M_takeWeek : (mn 244).cls = "NeedsALoserModel" := by decide +kernel
theorem l_M_takeWeek : ml 244 = 6 := by decide +kernel
theorem t_M_takeWeek : mr 244 = some (FieldType.int) := by decide +kernel
theorem i_M_takeWeek_0 : decode (mb 244) 0 = .ok (.iconst 0, 1) := by decide +kernel
theorem i_M_takeWeek_1 : decode (mb 244) 1 = .ok (.istore_n 2, 1) := by decide +kernel
theorem i_M_takeWeek_2 : decode (mb 244) 2 = .ok (.iconst 0, 1) := by decide +kernel
theorem i_M_takeWeek_3 : decode (mb 244) 3 = .ok (.istore_n 3, 1) := by decide +kernel
theorem i_M_takeWeek_4 : decode (mb 244) 4 = .ok (.iconst 0, 1) := by decide +kernel
theorem i_M_takeWeek_5 : decode (mb 244) 5 = .ok (.istore 4, 2) := by decide +kernel
theorem i_M_takeWeek_7 : decode (mb 244) 7 = .ok (.iload 4, 2) := by decide +kernel
theorem i_M_takeWeek_9 : decode (mb 244) 9 = .ok (.aload_n 0, 1) := by decide +kernel
theorem i_M_takeWeek_10 : decode (mb 244) 10 = .ok (.getfield 80, 3) := by decide +kernel
theorem i_M_takeWeek_13 : decode (mb 244) 13 = .ok (.if_icmp .ge 99, 3) := by decide +kernel
theorem i_M_takeWeek_16 : decode (mb 244) 16 = .ok (.aload_n 0, 1) := by decide +kernel
theorem i_M_takeWeek_17 : decode (mb 244) 17 = .ok (.aload_n 0, 1) := by decide +kernel
theorem i_M_takeWeek_18 : decode (mb 244) 18 = .ok (.getfield 21, 3) := by decide +kernel
theorem i_M_takeWeek_21 : decode (mb 244) 21 = .ok (.iload_n 1, 1) := by decide +kernel
theorem i_M_takeWeek_22 : decode (mb 244) 22 = .ok (.aaload, 1) := by decide +kernel
theorem i_M_takeWeek_23 : decode (mb 244) 23 = .ok (.iload 4, 2) := by decide +kernel
theorem i_M_takeWeek_25 : decode (mb 244) 25 = .ok (.laload, 1) := by decide +kernel
theorem i_M_takeWeek_26 : decode (mb 244) 26 = .ok (.invokevirtual 112, 3) := by decide +kernel
theorem i_M_takeWeek_29 : decode (mb 244) 29 = .ok (.ifCond .eq 16, 3) := by decide +kernel
theorem i_M_takeWeek_32 : decode (mb 244) 32 = .ok (.aload_n 0, 1) := by decide +kernel
theorem i_M_takeWeek_33 : decode (mb 244) 33 = .ok (.getfield 21, 3) := by decide +kernel
theorem i_M_takeWeek_36 : decode (mb 244) 36 = .ok (.iload_n 1, 1) := by decide +kernel
theorem i_M_takeWeek_37 : decode (mb 244) 37 = .ok (.aaload, 1) := by decide +kernel
theorem i_M_takeWeek_38 : decode (mb 244) 38 = .ok (.iload 4, 2) := by decide +kernel
theorem i_M_takeWeek_40 : decode (mb 244) 40 = .ok (.laload, 1) := by decide +kernel
theorem i_M_takeWeek_41 : decode (mb 244) 41 = .ok (.l2i, 1) := by decide +kernel
theorem i_M_takeWeek_42 : decode (mb 244) 42 = .ok (.goto 4, 3) := by decide +kernel
theorem i_M_takeWeek_45 : decode (mb 244) 45 = .ok (.iconst (-1), 1) := by decide +kernel
theorem i_M_takeWeek_46 : decode (mb 244) 46 = .ok (.istore 5, 2) := by decide +kernel
theorem i_M_takeWeek_48 : decode (mb 244) 48 = .ok (.aload_n 0, 1) := by decide +kernel
theorem i_M_takeWeek_49 : decode (mb 244) 49 = .ok (.getfield 64, 3) := by decide +kernel
theorem i_M_takeWeek_52 : decode (mb 244) 52 = .ok (.iload 4, 2) := by decide +kernel
theorem i_M_takeWeek_54 : decode (mb 244) 54 = .ok (.iload 5, 2) := by decide +kernel
theorem i_M_takeWeek_56 : decode (mb 244) 56 = .ok (.iastore, 1) := by decide +kernel
theorem i_M_takeWeek_57 : decode (mb 244) 57 = .ok (.iload 5, 2) := by decide +kernel
theorem i_M_takeWeek_59 : decode (mb 244) 59 = .ok (.iconst (-1), 1) := by decide +kernel
theorem i_M_takeWeek_60 : decode (mb 244) 60 = .ok (.if_icmp .eq 46, 3) := by decide +kernel
theorem i_M_takeWeek_63 : decode (mb 244) 63 = .ok (.aload_n 0, 1) := by decide +kernel
theorem i_M_takeWeek_64 : decode (mb 244) 64 = .ok (.iload 4, 2) := by decide +kernel
theorem i_M_takeWeek_66 : decode (mb 244) 66 = .ok (.iload 5, 2) := by decide +kernel
theorem i_M_takeWeek_68 : decode (mb 244) 68 = .ok (.iload_n 3, 1) := by decide +kernel
theorem i_M_takeWeek_69 : decode (mb 244) 69 = .ok (.invokevirtual 255, 3) := by decide +kernel
theorem i_M_takeWeek_72 : decode (mb 244) 72 = .ok (.ifCond .eq 17, 3) := by decide +kernel
theorem i_M_takeWeek_75 : decode (mb 244) 75 = .ok (.aload_n 0, 1) := by decide +kernel
theorem i_M_takeWeek_76 : decode (mb 244) 76 = .ok (.getfield 48, 3) := by decide +kernel
theorem i_M_takeWeek_79 : decode (mb 244) 79 = .ok (.iload 4, 2) := by decide +kernel
theorem i_M_takeWeek_81 : decode (mb 244) 81 = .ok (.aaload, 1) := by decide +kernel
theorem i_M_takeWeek_82 : decode (mb 244) 82 = .ok (.iconst 4, 1) := by decide +kernel
theorem i_M_takeWeek_83 : decode (mb 244) 83 = .ok (.iaload, 1) := by decide +kernel
theorem i_M_takeWeek_84 : decode (mb 244) 84 = .ok (.iload_n 2, 1) := by decide +kernel
theorem i_M_takeWeek_85 : decode (mb 244) 85 = .ok (.iand, 1) := by decide +kernel
theorem i_M_takeWeek_86 : decode (mb 244) 86 = .ok (.ifCond .eq 6, 3) := by decide +kernel
theorem i_M_takeWeek_89 : decode (mb 244) 89 = .ok (.iload 4, 2) := by decide +kernel
theorem i_M_takeWeek_91 : decode (mb 244) 91 = .ok (.ireturn, 1) := by decide +kernel
theorem i_M_takeWeek_92 : decode (mb 244) 92 = .ok (.iload_n 2, 1) := by decide +kernel
theorem i_M_takeWeek_93 : decode (mb 244) 93 = .ok (.iconst 1, 1) := by decide +kernel
theorem i_M_takeWeek_94 : decode (mb 244) 94 = .ok (.iload 4, 2) := by decide +kernel
theorem i_M_takeWeek_96 : decode (mb 244) 96 = .ok (.ishl, 1) := by decide +kernel
theorem i_M_takeWeek_97 : decode (mb 244) 97 = .ok (.ior, 1) := by decide +kernel
theorem i_M_takeWeek_98 : decode (mb 244) 98 = .ok (.istore_n 2, 1) := by decide +kernel
theorem i_M_takeWeek_99 : decode (mb 244) 99 = .ok (.iload_n 3, 1) := by decide +kernel
theorem i_M_takeWeek_100 : decode (mb 244) 100 = .ok (.iconst 1, 1) := by decide +kernel
theorem i_M_takeWeek_101 : decode (mb 244) 101 = .ok (.iload 5, 2) := by decide +kernel
theorem i_M_takeWeek_103 : decode (mb 244) 103 = .ok (.ishl, 1) := by decide +kernel
theorem i_M_takeWeek_104 : decode (mb 244) 104 = .ok (.ior, 1) := by decide +kernel
theorem i_M_takeWeek_105 : decode (mb 244) 105 = .ok (.istore_n 3, 1) := by decide +kernel
theorem i_M_takeWeek_106 : decode (mb 244) 106 = .ok (.iinc 4 1, 3) := by decide +kernel
theorem i_M_takeWeek_109 : decode (mb 244) 109 = .ok (.goto (-102), 3) := by decide +kernel
theorem i_M_takeWeek_112 : decode (mb 244) 112 = .ok (.iconst (-1), 1) := by decide +kernel
theorem i_M_takeWeek_113 : decode (mb 244) 113 = .ok (.ireturn, 1) := by decide +kernel
theorem o_M_told : (mn 245).cls = "NeedsALoserModel" := by decide +kernel
theorem l_M_told : ml 245 = 4 := by decide +kernel
theorem t_M_told : mr 245 = some (FieldType.int) := by decide +kernel
theorem i_M_told_0 : decode (mb 245) 0 = .ok (.iload_n 2, 1) := by decide +kernel
theorem i_M_told_1 : decode (mb 245) 1 = .ok (.i2l, 1) := by decide +kernel
theorem i_M_told_2 : decode (mb 245) 2 = .ok (.lconst 0, 1) := by decide +kernel
theorem i_M_told_3 : decode (mb 245) 3 = .ok (.ldc2_w 270, 3) := by decide +kernel
theorem i_M_told_6 : decode (mb 245) 6 = .ok (.invokestatic 76, 3) := by decide +kernel
theorem i_M_told_9 : decode (mb 245) 9 = .ok (.ifCond .ne 13, 3) := by decide +kernel
theorem i_M_told_12 : decode (mb 245) 12 = .ok (.ldc 239, 2) := by decide +kernel
theorem i_M_told_14 : decode (mb 245) 14 = .ok (.aload_n 0, 1) := by decide +kernel
theorem i_M_told_15 : decode (mb 245) 15 = .ok (.bipush (-2), 2) := by decide +kernel
theorem i_M_told_17 : decode (mb 245) 17 = .ok (.invokevirtual 89, 3) := by decide +kernel
theorem i_M_told_20 : decode (mb 245) 20 = .ok (.iadd, 1) := by decide +kernel
theorem i_M_told_21 : decode (mb 245) 21 = .ok (.ireturn, 1) := by decide +kernel
theorem i_M_told_22 : decode (mb 245) 22 = .ok (.aload_n 0, 1) := by decide +kernel
theorem i_M_told_23 : decode (mb 245) 23 = .ok (.iload_n 1, 1) := by decide +kernel
theorem i_M_told_24 : decode (mb 245) 24 = .ok (.invokevirtual 264, 3) := by decide +kernel
theorem i_M_told_27 : decode (mb 245) 27 = .ok (.istore_n 3, 1) := by decide +kernel
theorem i_M_told_28 : decode (mb 245) 28 = .ok (.iload_n 3, 1) := by decide +kernel
theorem i_M_told_29 : decode (mb 245) 29 = .ok (.ifCond .eq 8, 3) := by decide +kernel
theorem i_M_told_32 : decode (mb 245) 32 = .ok (.ldc 239, 2) := by decide +kernel
theorem i_M_told_34 : decode (mb 245) 34 = .ok (.iload_n 3, 1) := by decide +kernel
theorem i_M_told_35 : decode (mb 245) 35 = .ok (.iadd, 1) := by decide +kernel
theorem i_M_told_36 : decode (mb 245) 36 = .ok (.ireturn, 1) := by decide +kernel
theorem i_M_told_37 : decode (mb 245) 37 = .ok (.aload_n 0, 1) := by decide +kernel
theorem i_M_told_38 : decode (mb 245) 38 = .ok (.iload_n 1, 1) := by decide +kernel
theorem i_M_told_39 : decode (mb 245) 39 = .ok (.invokevirtual 267, 3) := by decide +kernel
theorem i_M_told_42 : decode (mb 245) 42 = .ok (.iconst (-1), 1) := by decide +kernel
theorem i_M_told_43 : decode (mb 245) 43 = .ok (.if_icmp .ne 11, 3) := by decide +kernel
theorem i_M_told_46 : decode (mb 245) 46 = .ok (.aload_n 0, 1) := by decide +kernel
theorem i_M_told_47 : decode (mb 245) 47 = .ok (.iload_n 2, 1) := by decide +kernel
theorem i_M_told_48 : decode (mb 245) 48 = .ok (.invokevirtual 272, 3) := by decide +kernel
theorem i_M_told_51 : decode (mb 245) 51 = .ok (.goto 12, 3) := by decide +kernel
theorem i_M_told_54 : decode (mb 245) 54 = .ok (.ldc 239, 2) := by decide +kernel
theorem i_M_told_56 : decode (mb 245) 56 = .ok (.aload_n 0, 1) := by decide +kernel
theorem i_M_told_57 : decode (mb 245) 57 = .ok (.bipush (-5), 2) := by decide +kernel
theorem i_M_told_59 : decode (mb 245) 59 = .ok (.invokevirtual 89, 3) := by decide +kernel
theorem i_M_told_62 : decode (mb 245) 62 = .ok (.iadd, 1) := by decide +kernel
theorem i_M_told_63 : decode (mb 245) 63 = .ok (.ireturn, 1) := by decide +kernel
theorem o_M_ofWeek : (mn 246).cls = "NeedsALoserModel" := by decide +kernel
theorem l_M_ofWeek : ml 246 = 6 := by decide +kernel
theorem t_M_ofWeek : mr 246 = some (FieldType.int) := by decide +kernel
theorem i_M_ofWeek_0 : decode (mb 246) 0 = .ok (.iconst 0, 1) := by decide +kernel
theorem i_M_ofWeek_1 : decode (mb 246) 1 = .ok (.istore_n 2, 1) := by decide +kernel
theorem i_M_ofWeek_2 : decode (mb 246) 2 = .ok (.iconst 0, 1) := by decide +kernel
theorem i_M_ofWeek_3 : decode (mb 246) 3 = .ok (.istore_n 3, 1) := by decide +kernel
theorem i_M_ofWeek_4 : decode (mb 246) 4 = .ok (.iconst 0, 1) := by decide +kernel
theorem i_M_ofWeek_5 : decode (mb 246) 5 = .ok (.istore 4, 2) := by decide +kernel
theorem i_M_ofWeek_7 : decode (mb 246) 7 = .ok (.iconst 0, 1) := by decide +kernel
theorem i_M_ofWeek_8 : decode (mb 246) 8 = .ok (.istore 5, 2) := by decide +kernel
theorem i_M_ofWeek_10 : decode (mb 246) 10 = .ok (.iload 5, 2) := by decide +kernel
theorem i_M_ofWeek_12 : decode (mb 246) 12 = .ok (.aload_n 0, 1) := by decide +kernel
theorem i_M_ofWeek_13 : decode (mb 246) 13 = .ok (.getfield 80, 3) := by decide +kernel
theorem i_M_ofWeek_16 : decode (mb 246) 16 = .ok (.if_icmp .ge 53, 3) := by decide +kernel
theorem i_M_ofWeek_19 : decode (mb 246) 19 = .ok (.aload_n 0, 1) := by decide +kernel
theorem i_M_ofWeek_20 : decode (mb 246) 20 = .ok (.getfield 64, 3) := by decide +kernel
theorem i_M_ofWeek_23 : decode (mb 246) 23 = .ok (.iload 5, 2) := by decide +kernel
theorem i_M_ofWeek_25 : decode (mb 246) 25 = .ok (.iaload, 1) := by decide +kernel
theorem i_M_ofWeek_26 : decode (mb 246) 26 = .ok (.iconst (-1), 1) := by decide +kernel
theorem i_M_ofWeek_27 : decode (mb 246) 27 = .ok (.if_icmp .eq 36, 3) := by decide +kernel
theorem i_M_ofWeek_30 : decode (mb 246) 30 = .ok (.iload_n 2, 1) := by decide +kernel
theorem i_M_ofWeek_31 : decode (mb 246) 31 = .ok (.aload_n 0, 1) := by decide +kernel
theorem i_M_ofWeek_32 : decode (mb 246) 32 = .ok (.iload 5, 2) := by decide +kernel
theorem i_M_ofWeek_34 : decode (mb 246) 34 = .ok (.aload_n 0, 1) := by decide +kernel
theorem i_M_ofWeek_35 : decode (mb 246) 35 = .ok (.getfield 64, 3) := by decide +kernel
theorem i_M_ofWeek_38 : decode (mb 246) 38 = .ok (.iload 5, 2) := by decide +kernel
theorem i_M_ofWeek_40 : decode (mb 246) 40 = .ok (.iaload, 1) := by decide +kernel
theorem i_M_ofWeek_41 : decode (mb 246) 41 = .ok (.invokevirtual 251, 3) := by decide +kernel
theorem i_M_ofWeek_44 : decode (mb 246) 44 = .ok (.iadd, 1) := by decide +kernel
theorem i_M_ofWeek_45 : decode (mb 246) 45 = .ok (.istore_n 2, 1) := by decide +kernel
theorem i_M_ofWeek_46 : decode (mb 246) 46 = .ok (.iinc 3 1, 3) := by decide +kernel
theorem i_M_ofWeek_49 : decode (mb 246) 49 = .ok (.iload 4, 2) := by decide +kernel
theorem i_M_ofWeek_51 : decode (mb 246) 51 = .ok (.iconst 1, 1) := by decide +kernel
theorem i_M_ofWeek_52 : decode (mb 246) 52 = .ok (.aload_n 0, 1) := by decide +kernel
theorem i_M_ofWeek_53 : decode (mb 246) 53 = .ok (.getfield 64, 3) := by decide +kernel
theorem i_M_ofWeek_56 : decode (mb 246) 56 = .ok (.iload 5, 2) := by decide +kernel
theorem i_M_ofWeek_58 : decode (mb 246) 58 = .ok (.iaload, 1) := by decide +kernel
theorem i_M_ofWeek_59 : decode (mb 246) 59 = .ok (.ishl, 1) := by decide +kernel
theorem i_M_ofWeek_60 : decode (mb 246) 60 = .ok (.ior, 1) := by decide +kernel
theorem i_M_ofWeek_61 : decode (mb 246) 61 = .ok (.istore 4, 2) := by decide +kernel
theorem i_M_ofWeek_63 : decode (mb 246) 63 = .ok (.iinc 5 1, 3) := by decide +kernel
theorem i_M_ofWeek_66 : decode (mb 246) 66 = .ok (.goto (-56), 3) := by decide +kernel
theorem i_M_ofWeek_69 : decode (mb 246) 69 = .ok (.iload_n 1, 1) := by decide +kernel
theorem i_M_ofWeek_70 : decode (mb 246) 70 = .ok (.ifCond .ne 7, 3) := by decide +kernel
theorem i_M_ofWeek_73 : decode (mb 246) 73 = .ok (.iload_n 2, 1) := by decide +kernel
theorem i_M_ofWeek_74 : decode (mb 246) 74 = .ok (.goto 14, 3) := by decide +kernel
theorem i_M_ofWeek_77 : decode (mb 246) 77 = .ok (.iload_n 1, 1) := by decide +kernel
theorem i_M_ofWeek_78 : decode (mb 246) 78 = .ok (.iconst 1, 1) := by decide +kernel
theorem i_M_ofWeek_79 : decode (mb 246) 79 = .ok (.if_icmp .ne 7, 3) := by decide +kernel
theorem i_M_ofWeek_82 : decode (mb 246) 82 = .ok (.iload_n 3, 1) := by decide +kernel
theorem i_M_ofWeek_83 : decode (mb 246) 83 = .ok (.goto 5, 3) := by decide +kernel
theorem i_M_ofWeek_86 : decode (mb 246) 86 = .ok (.iload 4, 2) := by decide +kernel
theorem i_M_ofWeek_88 : decode (mb 246) 88 = .ok (.ireturn, 1) := by decide +kernel
theorem o_M_by : (mn 247).cls = "NeedsALoserModel" := by decide +kernel
theorem l_M_by : ml 247 = 4 := by decide +kernel
theorem t_M_by : mr 247 = some (FieldType.int) := by decide +kernel
theorem i_M_by_0 : decode (mb 247) 0 = .ok (.iload_n 1, 1) := by decide +kernel
theorem i_M_by_1 : decode (mb 247) 1 = .ok (.i2l, 1) := by decide +kernel
theorem i_M_by_2 : decode (mb 247) 2 = .ok (.lconst 0, 1) := by decide +kernel
theorem i_M_by_3 : decode (mb 247) 3 = .ok (.ldc2_w 83, 3) := by decide +kernel
theorem i_M_by_6 : decode (mb 247) 6 = .ok (.invokestatic 76, 3) := by decide +kernel
theorem i_M_by_9 : decode (mb 247) 9 = .ok (.ifCond .eq 15, 3) := by decide +kernel
theorem i_M_by_12 : decode (mb 247) 12 = .ok (.iload_n 2, 1) := by decide +kernel
theorem i_M_by_13 : decode (mb 247) 13 = .ok (.i2l, 1) := by decide +kernel
theorem i_M_by_14 : decode (mb 247) 14 = .ok (.lconst 0, 1) := by decide +kernel
theorem i_M_by_15 : decode (mb 247) 15 = .ok (.ldc2_w 270, 3) := by decide +kernel
theorem i_M_by_18 : decode (mb 247) 18 = .ok (.invokestatic 76, 3) := by decide +kernel
theorem i_M_by_21 : decode (mb 247) 21 = .ok (.ifCond .ne 13, 3) := by decide +kernel
theorem i_M_by_24 : decode (mb 247) 24 = .ok (.ldc 239, 2) := by decide +kernel
theorem i_M_by_26 : decode (mb 247) 26 = .ok (.aload_n 0, 1) := by decide +kernel
theorem i_M_by_27 : decode (mb 247) 27 = .ok (.bipush (-2), 2) := by decide +kernel
theorem i_M_by_29 : decode (mb 247) 29 = .ok (.invokevirtual 89, 3) := by decide +kernel
theorem i_M_by_32 : decode (mb 247) 32 = .ok (.iadd, 1) := by decide +kernel
theorem i_M_by_33 : decode (mb 247) 33 = .ok (.ireturn, 1) := by decide +kernel
theorem i_M_by_34 : decode (mb 247) 34 = .ok (.aload_n 0, 1) := by decide +kernel
theorem i_M_by_35 : decode (mb 247) 35 = .ok (.iload_n 1, 1) := by decide +kernel
theorem i_M_by_36 : decode (mb 247) 36 = .ok (.invokevirtual 261, 3) := by decide +kernel
theorem i_M_by_39 : decode (mb 247) 39 = .ok (.istore_n 3, 1) := by decide +kernel
theorem i_M_by_40 : decode (mb 247) 40 = .ok (.iload_n 3, 1) := by decide +kernel
theorem i_M_by_41 : decode (mb 247) 41 = .ok (.ifCond .eq 8, 3) := by decide +kernel
theorem i_M_by_44 : decode (mb 247) 44 = .ok (.ldc 239, 2) := by decide +kernel
theorem i_M_by_46 : decode (mb 247) 46 = .ok (.iload_n 3, 1) := by decide +kernel
theorem i_M_by_47 : decode (mb 247) 47 = .ok (.iadd, 1) := by decide +kernel
theorem i_M_by_48 : decode (mb 247) 48 = .ok (.ireturn, 1) := by decide +kernel
theorem i_M_by_49 : decode (mb 247) 49 = .ok (.aload_n 0, 1) := by decide +kernel
theorem i_M_by_50 : decode (mb 247) 50 = .ok (.iload_n 1, 1) := by decide +kernel
theorem i_M_by_51 : decode (mb 247) 51 = .ok (.invokevirtual 275, 3) := by decide +kernel
theorem i_M_by_54 : decode (mb 247) 54 = .ok (.aload_n 0, 1) := by decide +kernel
theorem i_M_by_55 : decode (mb 247) 55 = .ok (.iload_n 2, 1) := by decide +kernel
theorem i_M_by_56 : decode (mb 247) 56 = .ok (.invokevirtual 272, 3) := by decide +kernel
theorem i_M_by_59 : decode (mb 247) 59 = .ok (.ireturn, 1) := by decide +kernel
theorem o_M_weekBy : (mn 248).cls = "NeedsALoserModel" := by decide +kernel
theorem l_M_weekBy : ml 248 = 5 := by decide +kernel
theorem t_M_weekBy : mr 248 = none := by decide +kernel
theorem i_M_weekBy_0 : decode (mb 248) 0 = .ok (.iconst 0, 1) := by decide +kernel
theorem i_M_weekBy_1 : decode (mb 248) 1 = .ok (.istore_n 2, 1) := by decide +kernel
theorem i_M_weekBy_2 : decode (mb 248) 2 = .ok (.iconst 0, 1) := by decide +kernel
theorem i_M_weekBy_3 : decode (mb 248) 3 = .ok (.istore_n 3, 1) := by decide +kernel
theorem i_M_weekBy_4 : decode (mb 248) 4 = .ok (.iconst 0, 1) := by decide +kernel
theorem i_M_weekBy_5 : decode (mb 248) 5 = .ok (.istore 4, 2) := by decide +kernel
theorem i_M_weekBy_7 : decode (mb 248) 7 = .ok (.iload 4, 2) := by decide +kernel
theorem i_M_weekBy_9 : decode (mb 248) 9 = .ok (.aload_n 0, 1) := by decide +kernel
theorem i_M_weekBy_10 : decode (mb 248) 10 = .ok (.getfield 80, 3) := by decide +kernel
theorem i_M_weekBy_13 : decode (mb 248) 13 = .ok (.if_icmp .ge 102, 3) := by decide +kernel
theorem i_M_weekBy_16 : decode (mb 248) 16 = .ok (.aload_n 0, 1) := by decide +kernel
theorem i_M_weekBy_17 : decode (mb 248) 17 = .ok (.getfield 64, 3) := by decide +kernel
theorem i_M_weekBy_20 : decode (mb 248) 20 = .ok (.iload 4, 2) := by decide +kernel
theorem i_M_weekBy_22 : decode (mb 248) 22 = .ok (.aload_n 0, 1) := by decide +kernel
theorem i_M_weekBy_23 : decode (mb 248) 23 = .ok (.getfield 48, 3) := by decide +kernel
theorem i_M_weekBy_26 : decode (mb 248) 26 = .ok (.iload 4, 2) := by decide +kernel
theorem i_M_weekBy_28 : decode (mb 248) 28 = .ok (.aaload, 1) := by decide +kernel
theorem i_M_weekBy_29 : decode (mb 248) 29 = .ok (.iconst 4, 1) := by decide +kernel
theorem i_M_weekBy_30 : decode (mb 248) 30 = .ok (.iaload, 1) := by decide +kernel
theorem i_M_weekBy_31 : decode (mb 248) 31 = .ok (.iload_n 2, 1) := by decide +kernel
theorem i_M_weekBy_32 : decode (mb 248) 32 = .ok (.iand, 1) := by decide +kernel
theorem i_M_weekBy_33 : decode (mb 248) 33 = .ok (.ifCond .eq 7, 3) := by decide +kernel
theorem i_M_weekBy_36 : decode (mb 248) 36 = .ok (.iconst (-1), 1) := by decide +kernel
theorem i_M_weekBy_37 : decode (mb 248) 37 = .ok (.goto 22, 3) := by decide +kernel
theorem i_M_weekBy_40 : decode (mb 248) 40 = .ok (.aload_n 0, 1) := by decide +kernel
theorem i_M_weekBy_41 : decode (mb 248) 41 = .ok (.aload_n 0, 1) := by decide +kernel
theorem i_M_weekBy_42 : decode (mb 248) 42 = .ok (.getfield 28, 3) := by decide +kernel
theorem i_M_weekBy_45 : decode (mb 248) 45 = .ok (.iload_n 1, 1) := by decide +kernel
theorem i_M_weekBy_46 : decode (mb 248) 46 = .ok (.iaload, 1) := by decide +kernel
theorem i_M_weekBy_47 : decode (mb 248) 47 = .ok (.aload_n 0, 1) := by decide +kernel
theorem i_M_weekBy_48 : decode (mb 248) 48 = .ok (.getfield 31, 3) := by decide +kernel
theorem i_M_weekBy_51 : decode (mb 248) 51 = .ok (.iload_n 1, 1) := by decide +kernel
theorem i_M_weekBy_52 : decode (mb 248) 52 = .ok (.iaload, 1) := by decide +kernel
theorem i_M_weekBy_53 : decode (mb 248) 53 = .ok (.iload 4, 2) := by decide +kernel
theorem i_M_weekBy_55 : decode (mb 248) 55 = .ok (.iload_n 3, 1) := by decide +kernel
theorem i_M_weekBy_56 : decode (mb 248) 56 = .ok (.invokevirtual 108, 3) := by decide +kernel
theorem i_M_weekBy_59 : decode (mb 248) 59 = .ok (.iastore, 1) := by decide +kernel
theorem i_M_weekBy_60 : decode (mb 248) 60 = .ok (.iload_n 2, 1) := by decide +kernel
theorem i_M_weekBy_61 : decode (mb 248) 61 = .ok (.aload_n 0, 1) := by decide +kernel
theorem i_M_weekBy_62 : decode (mb 248) 62 = .ok (.getfield 64, 3) := by decide +kernel
theorem i_M_weekBy_65 : decode (mb 248) 65 = .ok (.iload 4, 2) := by decide +kernel
theorem i_M_weekBy_67 : decode (mb 248) 67 = .ok (.iaload, 1) := by decide +kernel
theorem i_M_weekBy_68 : decode (mb 248) 68 = .ok (.iconst (-1), 1) := by decide +kernel
theorem i_M_weekBy_69 : decode (mb 248) 69 = .ok (.if_icmp .eq 10, 3) := by decide +kernel
theorem i_M_weekBy_72 : decode (mb 248) 72 = .ok (.iconst 1, 1) := by decide +kernel
theorem i_M_weekBy_73 : decode (mb 248) 73 = .ok (.iload 4, 2) := by decide +kernel
theorem i_M_weekBy_75 : decode (mb 248) 75 = .ok (.ishl, 1) := by decide +kernel
theorem i_M_weekBy_76 : decode (mb 248) 76 = .ok (.goto 4, 3) := by decide +kernel
theorem i_M_weekBy_79 : decode (mb 248) 79 = .ok (.iconst 0, 1) := by decide +kernel
theorem i_M_weekBy_80 : decode (mb 248) 80 = .ok (.ior, 1) := by decide +kernel
theorem i_M_weekBy_81 : decode (mb 248) 81 = .ok (.istore_n 2, 1) := by decide +kernel
theorem i_M_weekBy_82 : decode (mb 248) 82 = .ok (.iload_n 3, 1) := by decide +kernel
theorem i_M_weekBy_83 : decode (mb 248) 83 = .ok (.aload_n 0, 1) := by decide +kernel
theorem i_M_weekBy_84 : decode (mb 248) 84 = .ok (.getfield 64, 3) := by decide +kernel
theorem i_M_weekBy_87 : decode (mb 248) 87 = .ok (.iload 4, 2) := by decide +kernel
theorem i_M_weekBy_89 : decode (mb 248) 89 = .ok (.iaload, 1) := by decide +kernel
theorem i_M_weekBy_90 : decode (mb 248) 90 = .ok (.iconst (-1), 1) := by decide +kernel
theorem i_M_weekBy_91 : decode (mb 248) 91 = .ok (.if_icmp .eq 15, 3) := by decide +kernel
theorem i_M_weekBy_94 : decode (mb 248) 94 = .ok (.iconst 1, 1) := by decide +kernel
theorem i_M_weekBy_95 : decode (mb 248) 95 = .ok (.aload_n 0, 1) := by decide +kernel
theorem i_M_weekBy_96 : decode (mb 248) 96 = .ok (.getfield 64, 3) := by decide +kernel
theorem i_M_weekBy_99 : decode (mb 248) 99 = .ok (.iload 4, 2) := by decide +kernel
theorem i_M_weekBy_101 : decode (mb 248) 101 = .ok (.iaload, 1) := by decide +kernel
theorem i_M_weekBy_102 : decode (mb 248) 102 = .ok (.ishl, 1) := by decide +kernel
theorem i_M_weekBy_103 : decode (mb 248) 103 = .ok (.goto 4, 3) := by decide +kernel
theorem i_M_weekBy_106 : decode (mb 248) 106 = .ok (.iconst 0, 1) := by decide +kernel
theorem i_M_weekBy_107 : decode (mb 248) 107 = .ok (.ior, 1) := by decide +kernel
theorem i_M_weekBy_108 : decode (mb 248) 108 = .ok (.istore_n 3, 1) := by decide +kernel
theorem i_M_weekBy_109 : decode (mb 248) 109 = .ok (.iinc 4 1, 3) := by decide +kernel
theorem i_M_weekBy_112 : decode (mb 248) 112 = .ok (.goto (-105), 3) := by decide +kernel
theorem i_M_weekBy_115 : decode (mb 248) 115 = .ok (.return_, 1) := by decide +kernel
theorem o_M_head : (mn 249).cls = "NeedsALoserModel" := by decide +kernel
theorem l_M_head : ml 249 = 5 := by decide +kernel
theorem t_M_head : mr 249 = some (FieldType.int) := by decide +kernel
theorem i_M_head_0 : decode (mb 249) 0 = .ok (.iconst (-1), 1) := by decide +kernel
theorem i_M_head_1 : decode (mb 249) 1 = .ok (.istore_n 1, 1) := by decide +kernel
theorem i_M_head_2 : decode (mb 249) 2 = .ok (.iconst 0, 1) := by decide +kernel
theorem i_M_head_3 : decode (mb 249) 3 = .ok (.istore_n 2, 1) := by decide +kernel
theorem i_M_head_4 : decode (mb 249) 4 = .ok (.iconst 0, 1) := by decide +kernel
theorem i_M_head_5 : decode (mb 249) 5 = .ok (.istore_n 3, 1) := by decide +kernel
theorem i_M_head_6 : decode (mb 249) 6 = .ok (.iload_n 3, 1) := by decide +kernel
theorem i_M_head_7 : decode (mb 249) 7 = .ok (.bipush 8, 2) := by decide +kernel
theorem i_M_head_9 : decode (mb 249) 9 = .ok (.if_icmp .ge 47, 3) := by decide +kernel
theorem i_M_head_12 : decode (mb 249) 12 = .ok (.aload_n 0, 1) := by decide +kernel
theorem i_M_head_13 : decode (mb 249) 13 = .ok (.getfield 7, 3) := by decide +kernel
theorem i_M_head_16 : decode (mb 249) 16 = .ok (.iload_n 3, 1) := by decide +kernel
theorem i_M_head_17 : decode (mb 249) 17 = .ok (.iaload, 1) := by decide +kernel
theorem i_M_head_18 : decode (mb 249) 18 = .ok (.iconst 2, 1) := by decide +kernel
theorem i_M_head_19 : decode (mb 249) 19 = .ok (.if_icmp .ne 31, 3) := by decide +kernel
theorem i_M_head_22 : decode (mb 249) 22 = .ok (.aload_n 0, 1) := by decide +kernel
theorem i_M_head_23 : decode (mb 249) 23 = .ok (.iload_n 3, 1) := by decide +kernel
theorem i_M_head_24 : decode (mb 249) 24 = .ok (.invokevirtual 275, 3) := by decide +kernel
theorem i_M_head_27 : decode (mb 249) 27 = .ok (.aload_n 0, 1) := by decide +kernel
theorem i_M_head_28 : decode (mb 249) 28 = .ok (.iconst 0, 1) := by decide +kernel
theorem i_M_head_29 : decode (mb 249) 29 = .ok (.invokevirtual 272, 3) := by decide +kernel
theorem i_M_head_32 : decode (mb 249) 32 = .ok (.istore 4, 2) := by decide +kernel
theorem i_M_head_34 : decode (mb 249) 34 = .ok (.iload_n 1, 1) := by decide +kernel
theorem i_M_head_35 : decode (mb 249) 35 = .ok (.iconst (-1), 1) := by decide +kernel
theorem i_M_head_36 : decode (mb 249) 36 = .ok (.if_icmp .eq 9, 3) := by decide +kernel
theorem i_M_head_39 : decode (mb 249) 39 = .ok (.iload 4, 2) := by decide +kernel
theorem i_M_head_41 : decode (mb 249) 41 = .ok (.iload_n 2, 1) := by decide +kernel
theorem i_M_head_42 : decode (mb 249) 42 = .ok (.if_icmp .le 8, 3) := by decide +kernel
theorem i_M_head_45 : decode (mb 249) 45 = .ok (.iload_n 3, 1) := by decide +kernel
theorem i_M_head_46 : decode (mb 249) 46 = .ok (.istore_n 1, 1) := by decide +kernel
theorem i_M_head_47 : decode (mb 249) 47 = .ok (.iload 4, 2) := by decide +kernel
theorem i_M_head_49 : decode (mb 249) 49 = .ok (.istore_n 2, 1) := by decide +kernel
theorem i_M_head_50 : decode (mb 249) 50 = .ok (.iinc 3 1, 3) := by decide +kernel
theorem i_M_head_53 : decode (mb 249) 53 = .ok (.goto (-47), 3) := by decide +kernel
theorem i_M_head_56 : decode (mb 249) 56 = .ok (.iload_n 1, 1) := by decide +kernel
theorem i_M_head_57 : decode (mb 249) 57 = .ok (.iconst (-1), 1) := by decide +kernel
theorem i_M_head_58 : decode (mb 249) 58 = .ok (.if_icmp .ne 12, 3) := by decide +kernel
theorem i_M_head_61 : decode (mb 249) 61 = .ok (.aload_n 0, 1) := by decide +kernel
theorem i_M_head_62 : decode (mb 249) 62 = .ok (.bipush (-5), 2) := by decide +kernel
theorem i_M_head_64 : decode (mb 249) 64 = .ok (.invokevirtual 89, 3) := by decide +kernel
theorem i_M_head_67 : decode (mb 249) 67 = .ok (.goto 4, 3) := by decide +kernel
theorem i_M_head_70 : decode (mb 249) 70 = .ok (.iload_n 1, 1) := by decide +kernel
theorem i_M_head_71 : decode (mb 249) 71 = .ok (.ireturn, 1) := by decide +kernel
theorem o_M_lives : (mn 250).cls = "NeedsALoserModel" := by decide +kernel
theorem l_M_lives : ml 250 = 3 := by decide +kernel
theorem t_M_lives : mr 250 = some (FieldType.int) := by decide +kernel
theorem i_M_lives_0 : decode (mb 250) 0 = .ok (.aload_n 0, 1) := by decide +kernel
theorem i_M_lives_1 : decode (mb 250) 1 = .ok (.iload_n 1, 1) := by decide +kernel
theorem i_M_lives_2 : decode (mb 250) 2 = .ok (.invokevirtual 261, 3) := by decide +kernel
theorem i_M_lives_5 : decode (mb 250) 5 = .ok (.istore_n 2, 1) := by decide +kernel
theorem i_M_lives_6 : decode (mb 250) 6 = .ok (.iload_n 2, 1) := by decide +kernel
theorem i_M_lives_7 : decode (mb 250) 7 = .ok (.ifCond .eq 5, 3) := by decide +kernel
theorem i_M_lives_10 : decode (mb 250) 10 = .ok (.iload_n 2, 1) := by decide +kernel
theorem i_M_lives_11 : decode (mb 250) 11 = .ok (.ireturn, 1) := by decide +kernel
theorem i_M_lives_12 : decode (mb 250) 12 = .ok (.aload_n 0, 1) := by decide +kernel
theorem i_M_lives_13 : decode (mb 250) 13 = .ok (.iload_n 1, 1) := by decide +kernel
theorem i_M_lives_14 : decode (mb 250) 14 = .ok (.invokevirtual 275, 3) := by decide +kernel
theorem i_M_lives_17 : decode (mb 250) 17 = .ok (.aload_n 0, 1) := by decide +kernel
theorem i_M_lives_18 : decode (mb 250) 18 = .ok (.invokevirtual 285, 3) := by decide +kernel
theorem i_M_lives_21 : decode (mb 250) 21 = .ok (.ireturn, 1) := by decide +kernel
theorem o_M_comes : (mn 251).cls = "NeedsALoserModel" := by decide +kernel
theorem l_M_comes : ml 251 = 2 := by decide +kernel
theorem t_M_comes : mr 251 = some (FieldType.int) := by decide +kernel
theorem i_M_comes_0 : decode (mb 251) 0 = .ok (.iconst 0, 1) := by decide +kernel
theorem i_M_comes_1 : decode (mb 251) 1 = .ok (.istore_n 1, 1) := by decide +kernel
theorem i_M_comes_2 : decode (mb 251) 2 = .ok (.iload_n 1, 1) := by decide +kernel
theorem i_M_comes_3 : decode (mb 251) 3 = .ok (.aload_n 0, 1) := by decide +kernel
theorem i_M_comes_4 : decode (mb 251) 4 = .ok (.getfield 80, 3) := by decide +kernel
theorem i_M_comes_7 : decode (mb 251) 7 = .ok (.if_icmp .ge 109, 3) := by decide +kernel
theorem i_M_comes_10 : decode (mb 251) 10 = .ok (.aload_n 0, 1) := by decide +kernel
theorem i_M_comes_11 : decode (mb 251) 11 = .ok (.getfield 64, 3) := by decide +kernel
theorem i_M_comes_14 : decode (mb 251) 14 = .ok (.iload_n 1, 1) := by decide +kernel
theorem i_M_comes_15 : decode (mb 251) 15 = .ok (.iaload, 1) := by decide +kernel
theorem i_M_comes_16 : decode (mb 251) 16 = .ok (.iconst (-1), 1) := by decide +kernel
theorem i_M_comes_17 : decode (mb 251) 17 = .ok (.if_icmp .eq 93, 3) := by decide +kernel
theorem i_M_comes_20 : decode (mb 251) 20 = .ok (.aload_n 0, 1) := by decide +kernel
theorem i_M_comes_21 : decode (mb 251) 21 = .ok (.getfield 40, 3) := by decide +kernel
theorem i_M_comes_24 : decode (mb 251) 24 = .ok (.aload_n 0, 1) := by decide +kernel
theorem i_M_comes_25 : decode (mb 251) 25 = .ok (.getfield 48, 3) := by decide +kernel
theorem i_M_comes_28 : decode (mb 251) 28 = .ok (.iload_n 1, 1) := by decide +kernel
theorem i_M_comes_29 : decode (mb 251) 29 = .ok (.aaload, 1) := by decide +kernel
theorem i_M_comes_30 : decode (mb 251) 30 = .ok (.iconst 0, 1) := by decide +kernel
theorem i_M_comes_31 : decode (mb 251) 31 = .ok (.iaload, 1) := by decide +kernel
theorem i_M_comes_32 : decode (mb 251) 32 = .ok (.dup2, 1) := by decide +kernel
theorem i_M_comes_33 : decode (mb 251) 33 = .ok (.iaload, 1) := by decide +kernel
theorem i_M_comes_34 : decode (mb 251) 34 = .ok (.aload_n 0, 1) := by decide +kernel
theorem i_M_comes_35 : decode (mb 251) 35 = .ok (.getfield 48, 3) := by decide +kernel
theorem i_M_comes_38 : decode (mb 251) 38 = .ok (.iload_n 1, 1) := by decide +kernel
theorem i_M_comes_39 : decode (mb 251) 39 = .ok (.aaload, 1) := by decide +kernel
theorem i_M_comes_40 : decode (mb 251) 40 = .ok (.iconst 2, 1) := by decide +kernel
theorem i_M_comes_41 : decode (mb 251) 41 = .ok (.iaload, 1) := by decide +kernel
theorem i_M_comes_42 : decode (mb 251) 42 = .ok (.iadd, 1) := by decide +kernel
theorem i_M_comes_43 : decode (mb 251) 43 = .ok (.iastore, 1) := by decide +kernel
theorem i_M_comes_44 : decode (mb 251) 44 = .ok (.aload_n 0, 1) := by decide +kernel
theorem i_M_comes_45 : decode (mb 251) 45 = .ok (.getfield 40, 3) := by decide +kernel
theorem i_M_comes_48 : decode (mb 251) 48 = .ok (.aload_n 0, 1) := by decide +kernel
theorem i_M_comes_49 : decode (mb 251) 49 = .ok (.getfield 48, 3) := by decide +kernel
theorem i_M_comes_52 : decode (mb 251) 52 = .ok (.iload_n 1, 1) := by decide +kernel
theorem i_M_comes_53 : decode (mb 251) 53 = .ok (.aaload, 1) := by decide +kernel
theorem i_M_comes_54 : decode (mb 251) 54 = .ok (.iconst 1, 1) := by decide +kernel
theorem i_M_comes_55 : decode (mb 251) 55 = .ok (.iaload, 1) := by decide +kernel
theorem i_M_comes_56 : decode (mb 251) 56 = .ok (.dup2, 1) := by decide +kernel
theorem i_M_comes_57 : decode (mb 251) 57 = .ok (.iaload, 1) := by decide +kernel
theorem i_M_comes_58 : decode (mb 251) 58 = .ok (.aload_n 0, 1) := by decide +kernel
theorem i_M_comes_59 : decode (mb 251) 59 = .ok (.getfield 48, 3) := by decide +kernel
theorem i_M_comes_62 : decode (mb 251) 62 = .ok (.iload_n 1, 1) := by decide +kernel
theorem i_M_comes_63 : decode (mb 251) 63 = .ok (.aaload, 1) := by decide +kernel
theorem i_M_comes_64 : decode (mb 251) 64 = .ok (.iconst 3, 1) := by decide +kernel
theorem i_M_comes_65 : decode (mb 251) 65 = .ok (.iaload, 1) := by decide +kernel
theorem i_M_comes_66 : decode (mb 251) 66 = .ok (.iadd, 1) := by decide +kernel
theorem i_M_comes_67 : decode (mb 251) 67 = .ok (.iastore, 1) := by decide +kernel
theorem i_M_comes_68 : decode (mb 251) 68 = .ok (.aload_n 0, 1) := by decide +kernel
theorem i_M_comes_69 : decode (mb 251) 69 = .ok (.getfield 40, 3) := by decide +kernel
theorem i_M_comes_72 : decode (mb 251) 72 = .ok (.aload_n 0, 1) := by decide +kernel
theorem i_M_comes_73 : decode (mb 251) 73 = .ok (.getfield 64, 3) := by decide +kernel
theorem i_M_comes_76 : decode (mb 251) 76 = .ok (.iload_n 1, 1) := by decide +kernel
theorem i_M_comes_77 : decode (mb 251) 77 = .ok (.iaload, 1) := by decide +kernel
theorem i_M_comes_78 : decode (mb 251) 78 = .ok (.dup2, 1) := by decide +kernel
theorem i_M_comes_79 : decode (mb 251) 79 = .ok (.iaload, 1) := by decide +kernel
theorem i_M_comes_80 : decode (mb 251) 80 = .ok (.aload_n 0, 1) := by decide +kernel
theorem i_M_comes_81 : decode (mb 251) 81 = .ok (.getfield 51, 3) := by decide +kernel
theorem i_M_comes_84 : decode (mb 251) 84 = .ok (.iload_n 1, 1) := by decide +kernel
theorem i_M_comes_85 : decode (mb 251) 85 = .ok (.aaload, 1) := by decide +kernel
theorem i_M_comes_86 : decode (mb 251) 86 = .ok (.aload_n 0, 1) := by decide +kernel
theorem i_M_comes_87 : decode (mb 251) 87 = .ok (.getfield 64, 3) := by decide +kernel
theorem i_M_comes_90 : decode (mb 251) 90 = .ok (.iload_n 1, 1) := by decide +kernel
theorem i_M_comes_91 : decode (mb 251) 91 = .ok (.iaload, 1) := by decide +kernel
theorem i_M_comes_92 : decode (mb 251) 92 = .ok (.iaload, 1) := by decide +kernel
theorem i_M_comes_93 : decode (mb 251) 93 = .ok (.isub, 1) := by decide +kernel
theorem i_M_comes_94 : decode (mb 251) 94 = .ok (.iastore, 1) := by decide +kernel
theorem i_M_comes_95 : decode (mb 251) 95 = .ok (.aload_n 0, 1) := by decide +kernel
theorem i_M_comes_96 : decode (mb 251) 96 = .ok (.getfield 43, 3) := by decide +kernel
theorem i_M_comes_99 : decode (mb 251) 99 = .ok (.aload_n 0, 1) := by decide +kernel
theorem i_M_comes_100 : decode (mb 251) 100 = .ok (.getfield 64, 3) := by decide +kernel
theorem i_M_comes_103 : decode (mb 251) 103 = .ok (.iload_n 1, 1) := by decide +kernel
theorem i_M_comes_104 : decode (mb 251) 104 = .ok (.iaload, 1) := by decide +kernel
theorem i_M_comes_105 : decode (mb 251) 105 = .ok (.dup2, 1) := by decide +kernel
theorem i_M_comes_106 : decode (mb 251) 106 = .ok (.iaload, 1) := by decide +kernel
theorem i_M_comes_107 : decode (mb 251) 107 = .ok (.iconst 1, 1) := by decide +kernel
theorem i_M_comes_108 : decode (mb 251) 108 = .ok (.iadd, 1) := by decide +kernel
theorem i_M_comes_109 : decode (mb 251) 109 = .ok (.iastore, 1) := by decide +kernel
theorem i_M_comes_110 : decode (mb 251) 110 = .ok (.iinc 1 1, 3) := by decide +kernel
theorem i_M_comes_113 : decode (mb 251) 113 = .ok (.goto (-111), 3) := by decide +kernel
theorem i_M_comes_116 : decode (mb 251) 116 = .ok (.aload_n 0, 1) := by decide +kernel
theorem i_M_comes_117 : decode (mb 251) 117 = .ok (.dup, 1) := by decide +kernel
theorem i_M_comes_118 : decode (mb 251) 118 = .ok (.getfield 279, 3) := by decide +kernel
theorem i_M_comes_121 : decode (mb 251) 121 = .ok (.iconst 1, 1) := by decide +kernel
theorem i_M_comes_122 : decode (mb 251) 122 = .ok (.iadd, 1) := by decide +kernel
theorem i_M_comes_123 : decode (mb 251) 123 = .ok (.putfield 279, 3) := by decide +kernel
theorem i_M_comes_126 : decode (mb 251) 126 = .ok (.aload_n 0, 1) := by decide +kernel
theorem i_M_comes_127 : decode (mb 251) 127 = .ok (.dup, 1) := by decide +kernel
theorem i_M_comes_128 : decode (mb 251) 128 = .ok (.getfield 282, 3) := by decide +kernel
theorem i_M_comes_131 : decode (mb 251) 131 = .ok (.aload_n 0, 1) := by decide +kernel
theorem i_M_comes_132 : decode (mb 251) 132 = .ok (.iconst 1, 1) := by decide +kernel
theorem i_M_comes_133 : decode (mb 251) 133 = .ok (.invokevirtual 272, 3) := by decide +kernel
theorem i_M_comes_136 : decode (mb 251) 136 = .ok (.iadd, 1) := by decide +kernel
theorem i_M_comes_137 : decode (mb 251) 137 = .ok (.putfield 282, 3) := by decide +kernel
theorem i_M_comes_140 : decode (mb 251) 140 = .ok (.aload_n 0, 1) := by decide +kernel
theorem i_M_comes_141 : decode (mb 251) 141 = .ok (.iconst 1, 1) := by decide +kernel
theorem i_M_comes_142 : decode (mb 251) 142 = .ok (.invokevirtual 272, 3) := by decide +kernel
theorem i_M_comes_145 : decode (mb 251) 145 = .ok (.ireturn, 1) := by decide +kernel
theorem o_M_makes : (mn 252).cls = "NeedsALoserModel" := by decide +kernel
theorem l_M_makes : ml 252 = 3 := by decide +kernel
theorem t_M_makes : mr 252 = some (FieldType.int) := by decide +kernel
theorem i_M_makes_0 : decode (mb 252) 0 = .ok (.aload_n 0, 1) := by decide +kernel
theorem i_M_makes_1 : decode (mb 252) 1 = .ok (.iload_n 1, 1) := by decide +kernel
theorem i_M_makes_2 : decode (mb 252) 2 = .ok (.invokevirtual 264, 3) := by decide +kernel
theorem i_M_makes_5 : decode (mb 252) 5 = .ok (.istore_n 2, 1) := by decide +kernel
theorem i_M_makes_6 : decode (mb 252) 6 = .ok (.iload_n 2, 1) := by decide +kernel
theorem i_M_makes_7 : decode (mb 252) 7 = .ok (.ifCond .eq 5, 3) := by decide +kernel
theorem i_M_makes_10 : decode (mb 252) 10 = .ok (.iload_n 2, 1) := by decide +kernel
theorem i_M_makes_11 : decode (mb 252) 11 = .ok (.ireturn, 1) := by decide +kernel
theorem i_M_makes_12 : decode (mb 252) 12 = .ok (.aload_n 0, 1) := by decide +kernel
theorem i_M_makes_13 : decode (mb 252) 13 = .ok (.iload_n 1, 1) := by decide +kernel
theorem i_M_makes_14 : decode (mb 252) 14 = .ok (.invokevirtual 267, 3) := by decide +kernel
theorem i_M_makes_17 : decode (mb 252) 17 = .ok (.iconst (-1), 1) := by decide +kernel
theorem i_M_makes_18 : decode (mb 252) 18 = .ok (.if_icmp .ne 10, 3) := by decide +kernel
theorem i_M_makes_21 : decode (mb 252) 21 = .ok (.aload_n 0, 1) := by decide +kernel
theorem i_M_makes_22 : decode (mb 252) 22 = .ok (.invokevirtual 285, 3) := by decide +kernel
theorem i_M_makes_25 : decode (mb 252) 25 = .ok (.goto 9, 3) := by decide +kernel
theorem i_M_makes_28 : decode (mb 252) 28 = .ok (.aload_n 0, 1) := by decide +kernel
theorem i_M_makes_29 : decode (mb 252) 29 = .ok (.bipush (-5), 2) := by decide +kernel
theorem i_M_makes_31 : decode (mb 252) 31 = .ok (.invokevirtual 89, 3) := by decide +kernel
theorem i_M_makes_34 : decode (mb 252) 34 = .ok (.ireturn, 1) := by decide +kernel
theorem o_M_best : (mn 253).cls = "NeedsALoserModel" := by decide +kernel
theorem l_M_best : ml 253 = 1 := by decide +kernel
theorem t_M_best : mr 253 = some (FieldType.int) := by decide +kernel
theorem i_M_best_0 : decode (mb 253) 0 = .ok (.aload_n 0, 1) := by decide +kernel
theorem i_M_best_1 : decode (mb 253) 1 = .ok (.aload_n 0, 1) := by decide +kernel
theorem i_M_best_2 : decode (mb 253) 2 = .ok (.invokevirtual 298, 3) := by decide +kernel
theorem i_M_best_5 : decode (mb 253) 5 = .ok (.invokevirtual 301, 3) := by decide +kernel
theorem i_M_best_8 : decode (mb 253) 8 = .ok (.ireturn, 1) := by decide +kernel
theorem o_M_all : (mn 254).cls = "NeedsALoserModel" := by decide +kernel
theorem l_M_all : ml 254 = 1 := by decide +kernel
theorem t_M_all : mr 254 = some (FieldType.int) := by decide +kernel
theorem i_M_all_0 : decode (mb 254) 0 = .ok (.iconst 1, 1) := by decide +kernel
theorem i_M_all_1 : decode (mb 254) 1 = .ok (.aload_n 0, 1) := by decide +kernel
theorem i_M_all_2 : decode (mb 254) 2 = .ok (.getfield 73, 3) := by decide +kernel
theorem i_M_all_5 : decode (mb 254) 5 = .ok (.ishl, 1) := by decide +kernel
theorem i_M_all_6 : decode (mb 254) 6 = .ok (.iconst 1, 1) := by decide +kernel
theorem i_M_all_7 : decode (mb 254) 7 = .ok (.isub, 1) := by decide +kernel
theorem i_M_all_8 : decode (mb 254) 8 = .ok (.ireturn, 1) := by decide +kernel
theorem o_M_bestBy : (mn 255).cls = "NeedsALoserModel" := by decide +kernel
theorem l_M_bestBy : ml 255 = 3 := by decide +kernel
theorem t_M_bestBy : mr 255 = some (FieldType.int) := by decide +kernel
theorem i_M_bestBy_0 : decode (mb 255) 0 = .ok (.aload_n 0, 1) := by decide +kernel
theorem i_M_bestBy_1 : decode (mb 255) 1 = .ok (.iconst 0, 1) := by decide +kernel
theorem i_M_bestBy_2 : decode (mb 255) 2 = .ok (.putfield 288, 3) := by decide +kernel
theorem i_M_bestBy_5 : decode (mb 255) 5 = .ok (.iconst 0, 1) := by decide +kernel
theorem i_M_bestBy_6 : decode (mb 255) 6 = .ok (.istore_n 2, 1) := by decide +kernel
theorem i_M_bestBy_7 : decode (mb 255) 7 = .ok (.iload_n 2, 1) := by decide +kernel
theorem i_M_bestBy_8 : decode (mb 255) 8 = .ok (.aload_n 0, 1) := by decide +kernel
theorem i_M_bestBy_9 : decode (mb 255) 9 = .ok (.getfield 80, 3) := by decide +kernel
theorem i_M_bestBy_12 : decode (mb 255) 12 = .ok (.if_icmp .ge 16, 3) := by decide +kernel
theorem i_M_bestBy_15 : decode (mb 255) 15 = .ok (.aload_n 0, 1) := by decide +kernel
theorem i_M_bestBy_16 : decode (mb 255) 16 = .ok (.getfield 70, 3) := by decide +kernel
theorem i_M_bestBy_19 : decode (mb 255) 19 = .ok (.iload_n 2, 1) := by decide +kernel
theorem i_M_bestBy_20 : decode (mb 255) 20 = .ok (.iconst (-1), 1) := by decide +kernel
theorem i_M_bestBy_21 : decode (mb 255) 21 = .ok (.iastore, 1) := by decide +kernel
theorem i_M_bestBy_22 : decode (mb 255) 22 = .ok (.iinc 2 1, 3) := by decide +kernel
theorem i_M_bestBy_25 : decode (mb 255) 25 = .ok (.goto (-18), 3) := by decide +kernel
theorem i_M_bestBy_28 : decode (mb 255) 28 = .ok (.aload_n 0, 1) := by decide +kernel
theorem i_M_bestBy_29 : decode (mb 255) 29 = .ok (.iconst 0, 1) := by decide +kernel
theorem i_M_bestBy_30 : decode (mb 255) 30 = .ok (.iconst 0, 1) := by decide +kernel
theorem i_M_bestBy_31 : decode (mb 255) 31 = .ok (.iconst 0, 1) := by decide +kernel
theorem i_M_bestBy_32 : decode (mb 255) 32 = .ok (.iconst 0, 1) := by decide +kernel
theorem i_M_bestBy_33 : decode (mb 255) 33 = .ok (.iload_n 1, 1) := by decide +kernel
theorem i_M_bestBy_34 : decode (mb 255) 34 = .ok (.invokevirtual 291, 3) := by decide +kernel
theorem i_M_bestBy_37 : decode (mb 255) 37 = .ok (.aload_n 0, 1) := by decide +kernel
theorem i_M_bestBy_38 : decode (mb 255) 38 = .ok (.getfield 288, 3) := by decide +kernel
theorem i_M_bestBy_41 : decode (mb 255) 41 = .ok (.ireturn, 1) := by decide +kernel
theorem o_M_seek : (mn 256).cls = "NeedsALoserModel" := by decide +kernel
theorem l_M_seek : ml 256 = 9 := by decide +kernel
theorem t_M_seek : mr 256 = none := by decide +kernel
theorem i_M_seek_0 : decode (mb 256) 0 = .ok (.iload_n 1, 1) := by decide +kernel
theorem i_M_seek_1 : decode (mb 256) 1 = .ok (.aload_n 0, 1) := by decide +kernel
theorem i_M_seek_2 : decode (mb 256) 2 = .ok (.getfield 80, 3) := by decide +kernel
theorem i_M_seek_5 : decode (mb 256) 5 = .ok (.if_icmp .ne 51, 3) := by decide +kernel
theorem i_M_seek_8 : decode (mb 256) 8 = .ok (.iload 4, 2) := by decide +kernel
theorem i_M_seek_10 : decode (mb 256) 10 = .ok (.aload_n 0, 1) := by decide +kernel
theorem i_M_seek_11 : decode (mb 256) 11 = .ok (.getfield 288, 3) := by decide +kernel
theorem i_M_seek_14 : decode (mb 256) 14 = .ok (.if_icmp .le 41, 3) := by decide +kernel
theorem i_M_seek_17 : decode (mb 256) 17 = .ok (.aload_n 0, 1) := by decide +kernel
theorem i_M_seek_18 : decode (mb 256) 18 = .ok (.iload 4, 2) := by decide +kernel
theorem i_M_seek_20 : decode (mb 256) 20 = .ok (.putfield 288, 3) := by decide +kernel
theorem i_M_seek_23 : decode (mb 256) 23 = .ok (.iconst 0, 1) := by decide +kernel
theorem i_M_seek_24 : decode (mb 256) 24 = .ok (.istore 6, 2) := by decide +kernel
theorem i_M_seek_26 : decode (mb 256) 26 = .ok (.iload 6, 2) := by decide +kernel
theorem i_M_seek_28 : decode (mb 256) 28 = .ok (.aload_n 0, 1) := by decide +kernel
theorem i_M_seek_29 : decode (mb 256) 29 = .ok (.getfield 80, 3) := by decide +kernel
theorem i_M_seek_32 : decode (mb 256) 32 = .ok (.if_icmp .ge 23, 3) := by decide +kernel
theorem i_M_seek_35 : decode (mb 256) 35 = .ok (.aload_n 0, 1) := by decide +kernel
theorem i_M_seek_36 : decode (mb 256) 36 = .ok (.getfield 70, 3) := by decide +kernel
theorem i_M_seek_39 : decode (mb 256) 39 = .ok (.iload 6, 2) := by decide +kernel
theorem i_M_seek_41 : decode (mb 256) 41 = .ok (.aload_n 0, 1) := by decide +kernel
theorem i_M_seek_42 : decode (mb 256) 42 = .ok (.getfield 67, 3) := by decide +kernel
theorem i_M_seek_45 : decode (mb 256) 45 = .ok (.iload 6, 2) := by decide +kernel
theorem i_M_seek_47 : decode (mb 256) 47 = .ok (.iaload, 1) := by decide +kernel
theorem i_M_seek_48 : decode (mb 256) 48 = .ok (.iastore, 1) := by decide +kernel
theorem i_M_seek_49 : decode (mb 256) 49 = .ok (.iinc 6 1, 3) := by decide +kernel
theorem i_M_seek_52 : decode (mb 256) 52 = .ok (.goto (-26), 3) := by decide +kernel
theorem i_M_seek_55 : decode (mb 256) 55 = .ok (.return_, 1) := by decide +kernel
theorem i_M_seek_56 : decode (mb 256) 56 = .ok (.aload_n 0, 1) := by decide +kernel
theorem i_M_seek_57 : decode (mb 256) 57 = .ok (.getfield 67, 3) := by decide +kernel
theorem i_M_seek_60 : decode (mb 256) 60 = .ok (.iload_n 1, 1) := by decide +kernel
theorem i_M_seek_61 : decode (mb 256) 61 = .ok (.iconst (-1), 1) := by decide +kernel
theorem i_M_seek_62 : decode (mb 256) 62 = .ok (.iastore, 1) := by decide +kernel
theorem i_M_seek_63 : decode (mb 256) 63 = .ok (.aload_n 0, 1) := by decide +kernel
theorem i_M_seek_64 : decode (mb 256) 64 = .ok (.iload_n 1, 1) := by decide +kernel
theorem i_M_seek_65 : decode (mb 256) 65 = .ok (.iconst 1, 1) := by decide +kernel
theorem i_M_seek_66 : decode (mb 256) 66 = .ok (.iadd, 1) := by decide +kernel
theorem i_M_seek_67 : decode (mb 256) 67 = .ok (.iload_n 2, 1) := by decide +kernel
theorem i_M_seek_68 : decode (mb 256) 68 = .ok (.iload_n 3, 1) := by decide +kernel
theorem i_M_seek_69 : decode (mb 256) 69 = .ok (.iload 4, 2) := by decide +kernel
theorem i_M_seek_71 : decode (mb 256) 71 = .ok (.iload 5, 2) := by decide +kernel
theorem i_M_seek_73 : decode (mb 256) 73 = .ok (.invokevirtual 291, 3) := by decide +kernel
theorem i_M_seek_76 : decode (mb 256) 76 = .ok (.aload_n 0, 1) := by decide +kernel
theorem i_M_seek_77 : decode (mb 256) 77 = .ok (.getfield 48, 3) := by decide +kernel
theorem i_M_seek_80 : decode (mb 256) 80 = .ok (.iload_n 1, 1) := by decide +kernel
theorem i_M_seek_81 : decode (mb 256) 81 = .ok (.aaload, 1) := by decide +kernel
theorem i_M_seek_82 : decode (mb 256) 82 = .ok (.iconst 4, 1) := by decide +kernel
theorem i_M_seek_83 : decode (mb 256) 83 = .ok (.iaload, 1) := by decide +kernel
theorem i_M_seek_84 : decode (mb 256) 84 = .ok (.iload_n 2, 1) := by decide +kernel
theorem i_M_seek_85 : decode (mb 256) 85 = .ok (.iand, 1) := by decide +kernel
theorem i_M_seek_86 : decode (mb 256) 86 = .ok (.ifCond .eq 4, 3) := by decide +kernel
theorem i_M_seek_89 : decode (mb 256) 89 = .ok (.return_, 1) := by decide +kernel
theorem i_M_seek_90 : decode (mb 256) 90 = .ok (.aload_n 0, 1) := by decide +kernel
theorem i_M_seek_91 : decode (mb 256) 91 = .ok (.getfield 54, 3) := by decide +kernel
theorem i_M_seek_94 : decode (mb 256) 94 = .ok (.iconst 1, 1) := by decide +kernel
theorem i_M_seek_95 : decode (mb 256) 95 = .ok (.iaload, 1) := by decide +kernel
theorem i_M_seek_96 : decode (mb 256) 96 = .ok (.ifCond .ne 13, 3) := by decide +kernel
theorem i_M_seek_99 : decode (mb 256) 99 = .ok (.aload_n 0, 1) := by decide +kernel
theorem i_M_seek_100 : decode (mb 256) 100 = .ok (.iload_n 1, 1) := by decide +kernel
theorem i_M_seek_101 : decode (mb 256) 101 = .ok (.iload 5, 2) := by decide +kernel
theorem i_M_seek_103 : decode (mb 256) 103 = .ok (.invokevirtual 295, 3) := by decide +kernel
theorem i_M_seek_106 : decode (mb 256) 106 = .ok (.goto 4, 3) := by decide +kernel
theorem i_M_seek_109 : decode (mb 256) 109 = .ok (.iconst (-1), 1) := by decide +kernel
theorem i_M_seek_110 : decode (mb 256) 110 = .ok (.istore 6, 2) := by decide +kernel
theorem i_M_seek_112 : decode (mb 256) 112 = .ok (.iconst 0, 1) := by decide +kernel
theorem i_M_seek_113 : decode (mb 256) 113 = .ok (.istore 7, 2) := by decide +kernel
theorem i_M_seek_115 : decode (mb 256) 115 = .ok (.iload 7, 2) := by decide +kernel
theorem i_M_seek_117 : decode (mb 256) 117 = .ok (.aload_n 0, 1) := by decide +kernel
theorem i_M_seek_118 : decode (mb 256) 118 = .ok (.getfield 73, 3) := by decide +kernel
theorem i_M_seek_121 : decode (mb 256) 121 = .ok (.if_icmp .ge 104, 3) := by decide +kernel
theorem i_M_seek_124 : decode (mb 256) 124 = .ok (.aload_n 0, 1) := by decide +kernel
theorem i_M_seek_125 : decode (mb 256) 125 = .ok (.getfield 54, 3) := by decide +kernel
theorem i_M_seek_128 : decode (mb 256) 128 = .ok (.iconst 1, 1) := by decide +kernel
theorem i_M_seek_129 : decode (mb 256) 129 = .ok (.iaload, 1) := by decide +kernel
theorem i_M_seek_130 : decode (mb 256) 130 = .ok (.ifCond .ne 18, 3) := by decide +kernel
theorem i_M_seek_133 : decode (mb 256) 133 = .ok (.iload 7, 2) := by decide +kernel
theorem i_M_seek_135 : decode (mb 256) 135 = .ok (.iload 6, 2) := by decide +kernel
theorem i_M_seek_137 : decode (mb 256) 137 = .ok (.if_icmp .ne 7, 3) := by decide +kernel
theorem i_M_seek_140 : decode (mb 256) 140 = .ok (.iconst 1, 1) := by decide +kernel
theorem i_M_seek_141 : decode (mb 256) 141 = .ok (.goto 33, 3) := by decide +kernel
theorem i_M_seek_144 : decode (mb 256) 144 = .ok (.iconst 0, 1) := by decide +kernel
theorem i_M_seek_145 : decode (mb 256) 145 = .ok (.goto 29, 3) := by decide +kernel
theorem i_M_seek_148 : decode (mb 256) 148 = .ok (.iload 5, 2) := by decide +kernel
theorem i_M_seek_150 : decode (mb 256) 150 = .ok (.iload 7, 2) := by decide +kernel
theorem i_M_seek_152 : decode (mb 256) 152 = .ok (.invokestatic 122, 3) := by decide +kernel
theorem i_M_seek_155 : decode (mb 256) 155 = .ok (.ifCond .eq 18, 3) := by decide +kernel
theorem i_M_seek_158 : decode (mb 256) 158 = .ok (.aload_n 0, 1) := by decide +kernel
theorem i_M_seek_159 : decode (mb 256) 159 = .ok (.iload_n 1, 1) := by decide +kernel
theorem i_M_seek_160 : decode (mb 256) 160 = .ok (.iload 7, 2) := by decide +kernel
theorem i_M_seek_162 : decode (mb 256) 162 = .ok (.iload_n 3, 1) := by decide +kernel
theorem i_M_seek_163 : decode (mb 256) 163 = .ok (.invokevirtual 255, 3) := by decide +kernel
theorem i_M_seek_166 : decode (mb 256) 166 = .ok (.ifCond .eq 7, 3) := by decide +kernel
theorem i_M_seek_169 : decode (mb 256) 169 = .ok (.iconst 1, 1) := by decide +kernel
theorem i_M_seek_170 : decode (mb 256) 170 = .ok (.goto 4, 3) := by decide +kernel
theorem i_M_seek_173 : decode (mb 256) 173 = .ok (.iconst 0, 1) := by decide +kernel
theorem i_M_seek_174 : decode (mb 256) 174 = .ok (.istore 8, 2) := by decide +kernel
theorem i_M_seek_176 : decode (mb 256) 176 = .ok (.iload 8, 2) := by decide +kernel
theorem i_M_seek_178 : decode (mb 256) 178 = .ok (.ifCond .eq 41, 3) := by decide +kernel
theorem i_M_seek_181 : decode (mb 256) 181 = .ok (.aload_n 0, 1) := by decide +kernel
theorem i_M_seek_182 : decode (mb 256) 182 = .ok (.getfield 67, 3) := by decide +kernel
theorem i_M_seek_185 : decode (mb 256) 185 = .ok (.iload_n 1, 1) := by decide +kernel
theorem i_M_seek_186 : decode (mb 256) 186 = .ok (.iload 7, 2) := by decide +kernel
theorem i_M_seek_188 : decode (mb 256) 188 = .ok (.iastore, 1) := by decide +kernel
theorem i_M_seek_189 : decode (mb 256) 189 = .ok (.aload_n 0, 1) := by decide +kernel
theorem i_M_seek_190 : decode (mb 256) 190 = .ok (.iload_n 1, 1) := by decide +kernel
theorem i_M_seek_191 : decode (mb 256) 191 = .ok (.iconst 1, 1) := by decide +kernel
theorem i_M_seek_192 : decode (mb 256) 192 = .ok (.iadd, 1) := by decide +kernel
theorem i_M_seek_193 : decode (mb 256) 193 = .ok (.iload_n 2, 1) := by decide +kernel
theorem i_M_seek_194 : decode (mb 256) 194 = .ok (.iconst 1, 1) := by decide +kernel
theorem i_M_seek_195 : decode (mb 256) 195 = .ok (.iload_n 1, 1) := by decide +kernel
theorem i_M_seek_196 : decode (mb 256) 196 = .ok (.ishl, 1) := by decide +kernel
theorem i_M_seek_197 : decode (mb 256) 197 = .ok (.ior, 1) := by decide +kernel
theorem i_M_seek_198 : decode (mb 256) 198 = .ok (.iload_n 3, 1) := by decide +kernel
theorem i_M_seek_199 : decode (mb 256) 199 = .ok (.iconst 1, 1) := by decide +kernel
theorem i_M_seek_200 : decode (mb 256) 200 = .ok (.iload 7, 2) := by decide +kernel
theorem i_M_seek_202 : decode (mb 256) 202 = .ok (.ishl, 1) := by decide +kernel
theorem i_M_seek_203 : decode (mb 256) 203 = .ok (.ior, 1) := by decide +kernel
theorem i_M_seek_204 : decode (mb 256) 204 = .ok (.iload 4, 2) := by decide +kernel
theorem i_M_seek_206 : decode (mb 256) 206 = .ok (.aload_n 0, 1) := by decide +kernel
theorem i_M_seek_207 : decode (mb 256) 207 = .ok (.iload_n 1, 1) := by decide +kernel
theorem i_M_seek_208 : decode (mb 256) 208 = .ok (.iload 7, 2) := by decide +kernel
theorem i_M_seek_210 : decode (mb 256) 210 = .ok (.invokevirtual 251, 3) := by decide +kernel
theorem i_M_seek_213 : decode (mb 256) 213 = .ok (.iadd, 1) := by decide +kernel
theorem i_M_seek_214 : decode (mb 256) 214 = .ok (.iload 5, 2) := by decide +kernel
theorem i_M_seek_216 : decode (mb 256) 216 = .ok (.invokevirtual 291, 3) := by decide +kernel
theorem i_M_seek_219 : decode (mb 256) 219 = .ok (.iinc 7 1, 3) := by decide +kernel
theorem i_M_seek_222 : decode (mb 256) 222 = .ok (.goto (-107), 3) := by decide +kernel
theorem i_M_seek_225 : decode (mb 256) 225 = .ok (.aload_n 0, 1) := by decide +kernel
theorem i_M_seek_226 : decode (mb 256) 226 = .ok (.getfield 67, 3) := by decide +kernel
theorem i_M_seek_229 : decode (mb 256) 229 = .ok (.iload_n 1, 1) := by decide +kernel
theorem i_M_seek_230 : decode (mb 256) 230 = .ok (.iconst (-1), 1) := by decide +kernel
theorem i_M_seek_231 : decode (mb 256) 231 = .ok (.iastore, 1) := by decide +kernel
theorem i_M_seek_232 : decode (mb 256) 232 = .ok (.return_, 1) := by decide +kernel
theorem o_M_mildestOf : (mn 257).cls = "NeedsALoserModel" := by decide +kernel
theorem l_M_mildestOf : ml 257 = 5 := by decide +kernel
theorem t_M_mildestOf : mr 257 = some (FieldType.int) := by decide +kernel
theorem i_M_mildestOf_0 : decode (mb 257) 0 = .ok (.iconst (-1), 1) := by decide +kernel
theorem i_M_mildestOf_1 : decode (mb 257) 1 = .ok (.istore_n 3, 1) := by decide +kernel
theorem i_M_mildestOf_2 : decode (mb 257) 2 = .ok (.iconst 0, 1) := by decide +kernel
theorem i_M_mildestOf_3 : decode (mb 257) 3 = .ok (.istore 4, 2) := by decide +kernel
theorem i_M_mildestOf_5 : decode (mb 257) 5 = .ok (.iload 4, 2) := by decide +kernel
theorem i_M_mildestOf_7 : decode (mb 257) 7 = .ok (.aload_n 0, 1) := by decide +kernel
theorem i_M_mildestOf_8 : decode (mb 257) 8 = .ok (.getfield 73, 3) := by decide +kernel
theorem i_M_mildestOf_11 : decode (mb 257) 11 = .ok (.if_icmp .ge 60, 3) := by decide +kernel
theorem i_M_mildestOf_14 : decode (mb 257) 14 = .ok (.iload_n 2, 1) := by decide +kernel
theorem i_M_mildestOf_15 : decode (mb 257) 15 = .ok (.iload 4, 2) := by decide +kernel
theorem i_M_mildestOf_17 : decode (mb 257) 17 = .ok (.invokestatic 122, 3) := by decide +kernel
theorem i_M_mildestOf_20 : decode (mb 257) 20 = .ok (.ifCond .eq 43, 3) := by decide +kernel
theorem i_M_mildestOf_23 : decode (mb 257) 23 = .ok (.aload_n 0, 1) := by decide +kernel
theorem i_M_mildestOf_24 : decode (mb 257) 24 = .ok (.iload_n 1, 1) := by decide +kernel
theorem i_M_mildestOf_25 : decode (mb 257) 25 = .ok (.iload 4, 2) := by decide +kernel
theorem i_M_mildestOf_27 : decode (mb 257) 27 = .ok (.invokevirtual 243, 3) := by decide +kernel
theorem i_M_mildestOf_30 : decode (mb 257) 30 = .ok (.ifCond .eq 33, 3) := by decide +kernel
theorem i_M_mildestOf_33 : decode (mb 257) 33 = .ok (.iload_n 3, 1) := by decide +kernel
theorem i_M_mildestOf_34 : decode (mb 257) 34 = .ok (.iconst (-1), 1) := by decide +kernel
theorem i_M_mildestOf_35 : decode (mb 257) 35 = .ok (.if_icmp .eq 23, 3) := by decide +kernel
theorem i_M_mildestOf_38 : decode (mb 257) 38 = .ok (.aload_n 0, 1) := by decide +kernel
theorem i_M_mildestOf_39 : decode (mb 257) 39 = .ok (.getfield 51, 3) := by decide +kernel
theorem i_M_mildestOf_42 : decode (mb 257) 42 = .ok (.iload_n 1, 1) := by decide +kernel
theorem i_M_mildestOf_43 : decode (mb 257) 43 = .ok (.aaload, 1) := by decide +kernel
theorem i_M_mildestOf_44 : decode (mb 257) 44 = .ok (.iload 4, 2) := by decide +kernel
theorem i_M_mildestOf_46 : decode (mb 257) 46 = .ok (.iaload, 1) := by decide +kernel
theorem i_M_mildestOf_47 : decode (mb 257) 47 = .ok (.aload_n 0, 1) := by decide +kernel
theorem i_M_mildestOf_48 : decode (mb 257) 48 = .ok (.getfield 51, 3) := by decide +kernel
theorem i_M_mildestOf_51 : decode (mb 257) 51 = .ok (.iload_n 1, 1) := by decide +kernel
theorem i_M_mildestOf_52 : decode (mb 257) 52 = .ok (.aaload, 1) := by decide +kernel
theorem i_M_mildestOf_53 : decode (mb 257) 53 = .ok (.iload_n 3, 1) := by decide +kernel
theorem i_M_mildestOf_54 : decode (mb 257) 54 = .ok (.iaload, 1) := by decide +kernel
theorem i_M_mildestOf_55 : decode (mb 257) 55 = .ok (.if_icmp .ge 8, 3) := by decide +kernel
theorem i_M_mildestOf_58 : decode (mb 257) 58 = .ok (.iload 4, 2) := by decide +kernel
theorem i_M_mildestOf_60 : decode (mb 257) 60 = .ok (.goto 4, 3) := by decide +kernel
theorem i_M_mildestOf_63 : decode (mb 257) 63 = .ok (.iload_n 3, 1) := by decide +kernel
theorem i_M_mildestOf_64 : decode (mb 257) 64 = .ok (.istore_n 3, 1) := by decide +kernel
theorem i_M_mildestOf_65 : decode (mb 257) 65 = .ok (.iinc 4 1, 3) := by decide +kernel
theorem i_M_mildestOf_68 : decode (mb 257) 68 = .ok (.goto (-63), 3) := by decide +kernel
theorem i_M_mildestOf_71 : decode (mb 257) 71 = .ok (.iload_n 3, 1) := by decide +kernel
theorem i_M_mildestOf_72 : decode (mb 257) 72 = .ok (.ireturn, 1) := by decide +kernel
theorem o_M_bestOf : (mn 258).cls = "NeedsALoserModel" := by decide +kernel
theorem l_M_bestOf : ml 258 = 2 := by decide +kernel
theorem t_M_bestOf : mr 258 = some (FieldType.int) := by decide +kernel
theorem i_M_bestOf_0 : decode (mb 258) 0 = .ok (.aload_n 0, 1) := by decide +kernel
theorem i_M_bestOf_1 : decode (mb 258) 1 = .ok (.iload_n 1, 1) := by decide +kernel
theorem i_M_bestOf_2 : decode (mb 258) 2 = .ok (.invokevirtual 116, 3) := by decide +kernel
theorem i_M_bestOf_5 : decode (mb 258) 5 = .ok (.ifCond .ne 10, 3) := by decide +kernel
theorem i_M_bestOf_8 : decode (mb 258) 8 = .ok (.aload_n 0, 1) := by decide +kernel
theorem i_M_bestOf_9 : decode (mb 258) 9 = .ok (.bipush (-2), 2) := by decide +kernel
theorem i_M_bestOf_11 : decode (mb 258) 11 = .ok (.invokevirtual 89, 3) := by decide +kernel
theorem i_M_bestOf_14 : decode (mb 258) 14 = .ok (.ireturn, 1) := by decide +kernel
theorem i_M_bestOf_15 : decode (mb 258) 15 = .ok (.aload_n 0, 1) := by decide +kernel
theorem i_M_bestOf_16 : decode (mb 258) 16 = .ok (.aload_n 0, 1) := by decide +kernel
theorem i_M_bestOf_17 : decode (mb 258) 17 = .ok (.invokevirtual 298, 3) := by decide +kernel
theorem i_M_bestOf_20 : decode (mb 258) 20 = .ok (.invokevirtual 301, 3) := by decide +kernel
theorem i_M_bestOf_23 : decode (mb 258) 23 = .ok (.pop, 1) := by decide +kernel
theorem i_M_bestOf_24 : decode (mb 258) 24 = .ok (.aload_n 0, 1) := by decide +kernel
theorem i_M_bestOf_25 : decode (mb 258) 25 = .ok (.getfield 70, 3) := by decide +kernel
theorem i_M_bestOf_28 : decode (mb 258) 28 = .ok (.iload_n 1, 1) := by decide +kernel
theorem i_M_bestOf_29 : decode (mb 258) 29 = .ok (.iaload, 1) := by decide +kernel
theorem i_M_bestOf_30 : decode (mb 258) 30 = .ok (.ireturn, 1) := by decide +kernel
theorem o_M_worth : (mn 259).cls = "NeedsALoserModel" := by decide +kernel
theorem l_M_worth : ml 259 = 2 := by decide +kernel
theorem t_M_worth : mr 259 = some (FieldType.int) := by decide +kernel
theorem i_M_worth_0 : decode (mb 259) 0 = .ok (.aload_n 0, 1) := by decide +kernel
theorem i_M_worth_1 : decode (mb 259) 1 = .ok (.iload_n 1, 1) := by decide +kernel
theorem i_M_worth_2 : decode (mb 259) 2 = .ok (.i2l, 1) := by decide +kernel
theorem i_M_worth_3 : decode (mb 259) 3 = .ok (.invokevirtual 112, 3) := by decide +kernel
theorem i_M_worth_6 : decode (mb 259) 6 = .ok (.ifCond .eq 11, 3) := by decide +kernel
theorem i_M_worth_9 : decode (mb 259) 9 = .ok (.aload_n 0, 1) := by decide +kernel
theorem i_M_worth_10 : decode (mb 259) 10 = .ok (.iload_n 1, 1) := by decide +kernel
theorem i_M_worth_11 : decode (mb 259) 11 = .ok (.invokevirtual 304, 3) := by decide +kernel
theorem i_M_worth_14 : decode (mb 259) 14 = .ok (.goto 9, 3) := by decide +kernel
theorem i_M_worth_17 : decode (mb 259) 17 = .ok (.aload_n 0, 1) := by decide +kernel
theorem i_M_worth_18 : decode (mb 259) 18 = .ok (.bipush (-2), 2) := by decide +kernel
theorem i_M_worth_20 : decode (mb 259) 20 = .ok (.invokevirtual 89, 3) := by decide +kernel
theorem i_M_worth_23 : decode (mb 259) 23 = .ok (.ireturn, 1) := by decide +kernel
theorem o_M_worthOf : (mn 260).cls = "NeedsALoserModel" := by decide +kernel
theorem l_M_worthOf : ml 260 = 2 := by decide +kernel
theorem t_M_worthOf : mr 260 = some (FieldType.int) := by decide +kernel
theorem i_M_worthOf_0 : decode (mb 260) 0 = .ok (.aload_n 0, 1) := by decide +kernel
theorem i_M_worthOf_1 : decode (mb 260) 1 = .ok (.aload_n 0, 1) := by decide +kernel
theorem i_M_worthOf_2 : decode (mb 260) 2 = .ok (.invokevirtual 298, 3) := by decide +kernel
theorem i_M_worthOf_5 : decode (mb 260) 5 = .ok (.invokevirtual 301, 3) := by decide +kernel
theorem i_M_worthOf_8 : decode (mb 260) 8 = .ok (.aload_n 0, 1) := by decide +kernel
theorem i_M_worthOf_9 : decode (mb 260) 9 = .ok (.aload_n 0, 1) := by decide +kernel
theorem i_M_worthOf_10 : decode (mb 260) 10 = .ok (.invokevirtual 298, 3) := by decide +kernel
theorem i_M_worthOf_13 : decode (mb 260) 13 = .ok (.iconst 1, 1) := by decide +kernel
theorem i_M_worthOf_14 : decode (mb 260) 14 = .ok (.iload_n 1, 1) := by decide +kernel
theorem i_M_worthOf_15 : decode (mb 260) 15 = .ok (.ishl, 1) := by decide +kernel
theorem i_M_worthOf_16 : decode (mb 260) 16 = .ok (.iconst (-1), 1) := by decide +kernel
theorem i_M_worthOf_17 : decode (mb 260) 17 = .ok (.ixor, 1) := by decide +kernel
theorem i_M_worthOf_18 : decode (mb 260) 18 = .ok (.iand, 1) := by decide +kernel
theorem i_M_worthOf_19 : decode (mb 260) 19 = .ok (.invokevirtual 301, 3) := by decide +kernel
theorem i_M_worthOf_22 : decode (mb 260) 22 = .ok (.isub, 1) := by decide +kernel
theorem i_M_worthOf_23 : decode (mb 260) 23 = .ok (.ireturn, 1) := by decide +kernel
theorem o_M_dearest : (mn 261).cls = "NeedsALoserModel" := by decide +kernel
theorem l_M_dearest : ml 261 = 5 := by decide +kernel
theorem t_M_dearest : mr 261 = some (FieldType.int) := by decide +kernel
theorem i_M_dearest_0 : decode (mb 261) 0 = .ok (.iconst (-1), 1) := by decide +kernel
theorem i_M_dearest_1 : decode (mb 261) 1 = .ok (.istore_n 1, 1) := by decide +kernel
theorem i_M_dearest_2 : decode (mb 261) 2 = .ok (.iconst 0, 1) := by decide +kernel
theorem i_M_dearest_3 : decode (mb 261) 3 = .ok (.istore_n 2, 1) := by decide +kernel
theorem i_M_dearest_4 : decode (mb 261) 4 = .ok (.iconst 0, 1) := by decide +kernel
theorem i_M_dearest_5 : decode (mb 261) 5 = .ok (.istore_n 3, 1) := by decide +kernel
theorem i_M_dearest_6 : decode (mb 261) 6 = .ok (.iload_n 3, 1) := by decide +kernel
theorem i_M_dearest_7 : decode (mb 261) 7 = .ok (.aload_n 0, 1) := by decide +kernel
theorem i_M_dearest_8 : decode (mb 261) 8 = .ok (.getfield 73, 3) := by decide +kernel
theorem i_M_dearest_11 : decode (mb 261) 11 = .ok (.if_icmp .ge 32, 3) := by decide +kernel
theorem i_M_dearest_14 : decode (mb 261) 14 = .ok (.aload_n 0, 1) := by decide +kernel
theorem i_M_dearest_15 : decode (mb 261) 15 = .ok (.iload_n 3, 1) := by decide +kernel
theorem i_M_dearest_16 : decode (mb 261) 16 = .ok (.invokevirtual 304, 3) := by decide +kernel
theorem i_M_dearest_19 : decode (mb 261) 19 = .ok (.istore 4, 2) := by decide +kernel
theorem i_M_dearest_21 : decode (mb 261) 21 = .ok (.iload_n 1, 1) := by decide +kernel
theorem i_M_dearest_22 : decode (mb 261) 22 = .ok (.iconst (-1), 1) := by decide +kernel
theorem i_M_dearest_23 : decode (mb 261) 23 = .ok (.if_icmp .eq 9, 3) := by decide +kernel
theorem i_M_dearest_26 : decode (mb 261) 26 = .ok (.iload 4, 2) := by decide +kernel
theorem i_M_dearest_28 : decode (mb 261) 28 = .ok (.iload_n 2, 1) := by decide +kernel
theorem i_M_dearest_29 : decode (mb 261) 29 = .ok (.if_icmp .le 8, 3) := by decide +kernel
theorem i_M_dearest_32 : decode (mb 261) 32 = .ok (.iload_n 3, 1) := by decide +kernel
theorem i_M_dearest_33 : decode (mb 261) 33 = .ok (.istore_n 1, 1) := by decide +kernel
theorem i_M_dearest_34 : decode (mb 261) 34 = .ok (.iload 4, 2) := by decide +kernel
theorem i_M_dearest_36 : decode (mb 261) 36 = .ok (.istore_n 2, 1) := by decide +kernel
theorem i_M_dearest_37 : decode (mb 261) 37 = .ok (.iinc 3 1, 3) := by decide +kernel
theorem i_M_dearest_40 : decode (mb 261) 40 = .ok (.goto (-34), 3) := by decide +kernel
theorem i_M_dearest_43 : decode (mb 261) 43 = .ok (.iload_n 1, 1) := by decide +kernel
theorem i_M_dearest_44 : decode (mb 261) 44 = .ok (.iconst (-1), 1) := by decide +kernel
theorem i_M_dearest_45 : decode (mb 261) 45 = .ok (.if_icmp .ne 12, 3) := by decide +kernel
theorem i_M_dearest_48 : decode (mb 261) 48 = .ok (.aload_n 0, 1) := by decide +kernel
theorem i_M_dearest_49 : decode (mb 261) 49 = .ok (.bipush (-5), 2) := by decide +kernel
theorem i_M_dearest_51 : decode (mb 261) 51 = .ok (.invokevirtual 89, 3) := by decide +kernel
theorem i_M_dearest_54 : decode (mb 261) 54 = .ok (.goto 4, 3) := by decide +kernel
theorem i_M_dearest_57 : decode (mb 261) 57 = .ok (.iload_n 1, 1) := by decide +kernel
theorem i_M_dearest_58 : decode (mb 261) 58 = .ok (.ireturn, 1) := by decide +kernel
theorem o_M_gap : (mn 262).cls = "NeedsALoserModel" := by decide +kernel
theorem l_M_gap : ml 262 = 3 := by decide +kernel
theorem t_M_gap : mr 262 = some (FieldType.int) := by decide +kernel
theorem i_M_gap_0 : decode (mb 262) 0 = .ok (.aload_n 0, 1) := by decide +kernel
theorem i_M_gap_1 : decode (mb 262) 1 = .ok (.iload_n 1, 1) := by decide +kernel
theorem i_M_gap_2 : decode (mb 262) 2 = .ok (.invokevirtual 261, 3) := by decide +kernel
theorem i_M_gap_5 : decode (mb 262) 5 = .ok (.istore_n 2, 1) := by decide +kernel
theorem i_M_gap_6 : decode (mb 262) 6 = .ok (.iload_n 2, 1) := by decide +kernel
theorem i_M_gap_7 : decode (mb 262) 7 = .ok (.ifCond .eq 8, 3) := by decide +kernel
theorem i_M_gap_10 : decode (mb 262) 10 = .ok (.ldc 239, 2) := by decide +kernel
theorem i_M_gap_12 : decode (mb 262) 12 = .ok (.iload_n 2, 1) := by decide +kernel
theorem i_M_gap_13 : decode (mb 262) 13 = .ok (.iadd, 1) := by decide +kernel
theorem i_M_gap_14 : decode (mb 262) 14 = .ok (.ireturn, 1) := by decide +kernel
theorem i_M_gap_15 : decode (mb 262) 15 = .ok (.aload_n 0, 1) := by decide +kernel
theorem i_M_gap_16 : decode (mb 262) 16 = .ok (.iload_n 1, 1) := by decide +kernel
theorem i_M_gap_17 : decode (mb 262) 17 = .ok (.invokevirtual 275, 3) := by decide +kernel
theorem i_M_gap_20 : decode (mb 262) 20 = .ok (.aload_n 0, 1) := by decide +kernel
theorem i_M_gap_21 : decode (mb 262) 21 = .ok (.aload_n 0, 1) := by decide +kernel
theorem i_M_gap_22 : decode (mb 262) 22 = .ok (.invokevirtual 298, 3) := by decide +kernel
theorem i_M_gap_25 : decode (mb 262) 25 = .ok (.invokevirtual 301, 3) := by decide +kernel
theorem i_M_gap_28 : decode (mb 262) 28 = .ok (.aload_n 0, 1) := by decide +kernel
theorem i_M_gap_29 : decode (mb 262) 29 = .ok (.iconst 0, 1) := by decide +kernel
theorem i_M_gap_30 : decode (mb 262) 30 = .ok (.invokevirtual 272, 3) := by decide +kernel
theorem i_M_gap_33 : decode (mb 262) 33 = .ok (.isub, 1) := by decide +kernel
theorem i_M_gap_34 : decode (mb 262) 34 = .ok (.ireturn, 1) := by decide +kernel
theorem o_M_fewest : (mn 263).cls = "NeedsALoserModel" := by decide +kernel
theorem l_M_fewest : ml 263 = 4 := by decide +kernel
theorem t_M_fewest : mr 263 = some (FieldType.int) := by decide +kernel
theorem i_M_fewest_0 : decode (mb 263) 0 = .ok (.aload_n 0, 1) := by decide +kernel
theorem i_M_fewest_1 : decode (mb 263) 1 = .ok (.aload_n 0, 1) := by decide +kernel
theorem i_M_fewest_2 : decode (mb 263) 2 = .ok (.invokevirtual 298, 3) := by decide +kernel
theorem i_M_fewest_5 : decode (mb 263) 5 = .ok (.invokevirtual 301, 3) := by decide +kernel
theorem i_M_fewest_8 : decode (mb 263) 8 = .ok (.istore_n 1, 1) := by decide +kernel
theorem i_M_fewest_9 : decode (mb 263) 9 = .ok (.aload_n 0, 1) := by decide +kernel
theorem i_M_fewest_10 : decode (mb 263) 10 = .ok (.invokevirtual 298, 3) := by decide +kernel
theorem i_M_fewest_13 : decode (mb 263) 13 = .ok (.istore_n 2, 1) := by decide +kernel
theorem i_M_fewest_14 : decode (mb 263) 14 = .ok (.aload_n 0, 1) := by decide +kernel
theorem i_M_fewest_15 : decode (mb 263) 15 = .ok (.invokevirtual 298, 3) := by decide +kernel
theorem i_M_fewest_18 : decode (mb 263) 18 = .ok (.istore_n 3, 1) := by decide +kernel
theorem i_M_fewest_19 : decode (mb 263) 19 = .ok (.iload_n 3, 1) := by decide +kernel
theorem i_M_fewest_20 : decode (mb 263) 20 = .ok (.ifCond .lt 31, 3) := by decide +kernel
theorem i_M_fewest_23 : decode (mb 263) 23 = .ok (.iload_n 3, 1) := by decide +kernel
theorem i_M_fewest_24 : decode (mb 263) 24 = .ok (.invokestatic 307, 3) := by decide +kernel
theorem i_M_fewest_27 : decode (mb 263) 27 = .ok (.iload_n 2, 1) := by decide +kernel
theorem i_M_fewest_28 : decode (mb 263) 28 = .ok (.invokestatic 307, 3) := by decide +kernel
theorem i_M_fewest_31 : decode (mb 263) 31 = .ok (.if_icmp .gt 14, 3) := by decide +kernel
theorem i_M_fewest_34 : decode (mb 263) 34 = .ok (.aload_n 0, 1) := by decide +kernel
theorem i_M_fewest_35 : decode (mb 263) 35 = .ok (.iload_n 3, 1) := by decide +kernel
theorem i_M_fewest_36 : decode (mb 263) 36 = .ok (.invokevirtual 301, 3) := by decide +kernel
theorem i_M_fewest_39 : decode (mb 263) 39 = .ok (.iload_n 1, 1) := by decide +kernel
theorem i_M_fewest_40 : decode (mb 263) 40 = .ok (.if_icmp .ne 5, 3) := by decide +kernel
theorem i_M_fewest_43 : decode (mb 263) 43 = .ok (.iload_n 3, 1) := by decide +kernel
theorem i_M_fewest_44 : decode (mb 263) 44 = .ok (.istore_n 2, 1) := by decide +kernel
theorem i_M_fewest_45 : decode (mb 263) 45 = .ok (.iinc 3 (-1), 3) := by decide +kernel
theorem i_M_fewest_48 : decode (mb 263) 48 = .ok (.goto (-29), 3) := by decide +kernel
theorem i_M_fewest_51 : decode (mb 263) 51 = .ok (.iload_n 2, 1) := by decide +kernel
theorem i_M_fewest_52 : decode (mb 263) 52 = .ok (.ireturn, 1) := by decide +kernel
theorem o_M_bits : (mn 264).cls = "NeedsALoserModel" := by decide +kernel
theorem l_M_bits : ml 264 = 3 := by decide +kernel
theorem t_M_bits : mr 264 = some (FieldType.int) := by decide +kernel
theorem i_M_bits_0 : decode (mb 264) 0 = .ok (.iconst 0, 1) := by decide +kernel
theorem i_M_bits_1 : decode (mb 264) 1 = .ok (.istore_n 1, 1) := by decide +kernel
theorem i_M_bits_2 : decode (mb 264) 2 = .ok (.iconst 0, 1) := by decide +kernel
theorem i_M_bits_3 : decode (mb 264) 3 = .ok (.istore_n 2, 1) := by decide +kernel
theorem i_M_bits_4 : decode (mb 264) 4 = .ok (.iload_n 2, 1) := by decide +kernel
theorem i_M_bits_5 : decode (mb 264) 5 = .ok (.bipush 8, 2) := by decide +kernel
theorem i_M_bits_7 : decode (mb 264) 7 = .ok (.if_icmp .ge 17, 3) := by decide +kernel
theorem i_M_bits_10 : decode (mb 264) 10 = .ok (.iload_n 1, 1) := by decide +kernel
theorem i_M_bits_11 : decode (mb 264) 11 = .ok (.iload_n 0, 1) := by decide +kernel
theorem i_M_bits_12 : decode (mb 264) 12 = .ok (.iload_n 2, 1) := by decide +kernel
theorem i_M_bits_13 : decode (mb 264) 13 = .ok (.ishr, 1) := by decide +kernel
theorem i_M_bits_14 : decode (mb 264) 14 = .ok (.iconst 1, 1) := by decide +kernel
theorem i_M_bits_15 : decode (mb 264) 15 = .ok (.iand, 1) := by decide +kernel
theorem i_M_bits_16 : decode (mb 264) 16 = .ok (.iadd, 1) := by decide +kernel
theorem i_M_bits_17 : decode (mb 264) 17 = .ok (.istore_n 1, 1) := by decide +kernel
theorem i_M_bits_18 : decode (mb 264) 18 = .ok (.iinc 2 1, 3) := by decide +kernel
theorem i_M_bits_21 : decode (mb 264) 21 = .ok (.goto (-17), 3) := by decide +kernel
theorem i_M_bits_24 : decode (mb 264) 24 = .ok (.iload_n 1, 1) := by decide +kernel
theorem i_M_bits_25 : decode (mb 264) 25 = .ok (.ireturn, 1) := by decide +kernel
theorem o_M_richest : (mn 265).cls = "NeedsALoserModel" := by decide +kernel
theorem l_M_richest : ml 265 = 3 := by decide +kernel
theorem t_M_richest : mr 265 = some (FieldType.int) := by decide +kernel
theorem i_M_richest_0 : decode (mb 265) 0 = .ok (.iconst (-1), 1) := by decide +kernel
theorem i_M_richest_1 : decode (mb 265) 1 = .ok (.istore_n 1, 1) := by decide +kernel
theorem i_M_richest_2 : decode (mb 265) 2 = .ok (.iconst 0, 1) := by decide +kernel
theorem i_M_richest_3 : decode (mb 265) 3 = .ok (.istore_n 2, 1) := by decide +kernel
theorem i_M_richest_4 : decode (mb 265) 4 = .ok (.iload_n 2, 1) := by decide +kernel
theorem i_M_richest_5 : decode (mb 265) 5 = .ok (.aload_n 0, 1) := by decide +kernel
theorem i_M_richest_6 : decode (mb 265) 6 = .ok (.getfield 73, 3) := by decide +kernel
theorem i_M_richest_9 : decode (mb 265) 9 = .ok (.if_icmp .ge 35, 3) := by decide +kernel
theorem i_M_richest_12 : decode (mb 265) 12 = .ok (.iload_n 1, 1) := by decide +kernel
theorem i_M_richest_13 : decode (mb 265) 13 = .ok (.iconst (-1), 1) := by decide +kernel
theorem i_M_richest_14 : decode (mb 265) 14 = .ok (.if_icmp .eq 18, 3) := by decide +kernel
theorem i_M_richest_17 : decode (mb 265) 17 = .ok (.aload_n 0, 1) := by decide +kernel
theorem i_M_richest_18 : decode (mb 265) 18 = .ok (.getfield 40, 3) := by decide +kernel
theorem i_M_richest_21 : decode (mb 265) 21 = .ok (.iload_n 2, 1) := by decide +kernel
theorem i_M_richest_22 : decode (mb 265) 22 = .ok (.iaload, 1) := by decide +kernel
theorem i_M_richest_23 : decode (mb 265) 23 = .ok (.aload_n 0, 1) := by decide +kernel
theorem i_M_richest_24 : decode (mb 265) 24 = .ok (.getfield 40, 3) := by decide +kernel
theorem i_M_richest_27 : decode (mb 265) 27 = .ok (.iload_n 1, 1) := by decide +kernel
theorem i_M_richest_28 : decode (mb 265) 28 = .ok (.iaload, 1) := by decide +kernel
theorem i_M_richest_29 : decode (mb 265) 29 = .ok (.if_icmp .le 7, 3) := by decide +kernel
theorem i_M_richest_32 : decode (mb 265) 32 = .ok (.iload_n 2, 1) := by decide +kernel
theorem i_M_richest_33 : decode (mb 265) 33 = .ok (.goto 4, 3) := by decide +kernel
theorem i_M_richest_36 : decode (mb 265) 36 = .ok (.iload_n 1, 1) := by decide +kernel
theorem i_M_richest_37 : decode (mb 265) 37 = .ok (.istore_n 1, 1) := by decide +kernel
theorem i_M_richest_38 : decode (mb 265) 38 = .ok (.iinc 2 1, 3) := by decide +kernel
theorem i_M_richest_41 : decode (mb 265) 41 = .ok (.goto (-37), 3) := by decide +kernel
theorem i_M_richest_44 : decode (mb 265) 44 = .ok (.iload_n 1, 1) := by decide +kernel
theorem i_M_richest_45 : decode (mb 265) 45 = .ok (.iconst (-1), 1) := by decide +kernel
theorem i_M_richest_46 : decode (mb 265) 46 = .ok (.if_icmp .ne 12, 3) := by decide +kernel
theorem i_M_richest_49 : decode (mb 265) 49 = .ok (.aload_n 0, 1) := by decide +kernel
theorem i_M_richest_50 : decode (mb 265) 50 = .ok (.bipush (-5), 2) := by decide +kernel
theorem i_M_richest_52 : decode (mb 265) 52 = .ok (.invokevirtual 89, 3) := by decide +kernel
theorem i_M_richest_55 : decode (mb 265) 55 = .ok (.goto 4, 3) := by decide +kernel
theorem i_M_richest_58 : decode (mb 265) 58 = .ok (.iload_n 1, 1) := by decide +kernel
theorem i_M_richest_59 : decode (mb 265) 59 = .ok (.ireturn, 1) := by decide +kernel
theorem o_M_alone : (mn 266).cls = "NeedsALoserModel" := by decide +kernel
theorem l_M_alone : ml 266 = 4 := by decide +kernel
theorem t_M_alone : mr 266 = some (FieldType.int) := by decide +kernel
theorem i_M_alone_0 : decode (mb 266) 0 = .ok (.aload_n 0, 1) := by decide +kernel
theorem i_M_alone_1 : decode (mb 266) 1 = .ok (.iload_n 1, 1) := by decide +kernel
theorem i_M_alone_2 : decode (mb 266) 2 = .ok (.i2l, 1) := by decide +kernel
theorem i_M_alone_3 : decode (mb 266) 3 = .ok (.invokevirtual 112, 3) := by decide +kernel
theorem i_M_alone_6 : decode (mb 266) 6 = .ok (.ifCond .ne 10, 3) := by decide +kernel
theorem i_M_alone_9 : decode (mb 266) 9 = .ok (.aload_n 0, 1) := by decide +kernel
theorem i_M_alone_10 : decode (mb 266) 10 = .ok (.bipush (-2), 2) := by decide +kernel
theorem i_M_alone_12 : decode (mb 266) 12 = .ok (.invokevirtual 89, 3) := by decide +kernel
theorem i_M_alone_15 : decode (mb 266) 15 = .ok (.ireturn, 1) := by decide +kernel
theorem i_M_alone_16 : decode (mb 266) 16 = .ok (.iconst 0, 1) := by decide +kernel
theorem i_M_alone_17 : decode (mb 266) 17 = .ok (.istore_n 2, 1) := by decide +kernel
theorem i_M_alone_18 : decode (mb 266) 18 = .ok (.iconst 0, 1) := by decide +kernel
theorem i_M_alone_19 : decode (mb 266) 19 = .ok (.istore_n 3, 1) := by decide +kernel
theorem i_M_alone_20 : decode (mb 266) 20 = .ok (.iload_n 3, 1) := by decide +kernel
theorem i_M_alone_21 : decode (mb 266) 21 = .ok (.aload_n 0, 1) := by decide +kernel
theorem i_M_alone_22 : decode (mb 266) 22 = .ok (.getfield 80, 3) := by decide +kernel
theorem i_M_alone_25 : decode (mb 266) 25 = .ok (.if_icmp .ge 30, 3) := by decide +kernel
theorem i_M_alone_28 : decode (mb 266) 28 = .ok (.iload_n 2, 1) := by decide +kernel
theorem i_M_alone_29 : decode (mb 266) 29 = .ok (.aload_n 0, 1) := by decide +kernel
theorem i_M_alone_30 : decode (mb 266) 30 = .ok (.iload_n 3, 1) := by decide +kernel
theorem i_M_alone_31 : decode (mb 266) 31 = .ok (.invokevirtual 248, 3) := by decide +kernel
theorem i_M_alone_34 : decode (mb 266) 34 = .ok (.iconst 1, 1) := by decide +kernel
theorem i_M_alone_35 : decode (mb 266) 35 = .ok (.iload_n 1, 1) := by decide +kernel
theorem i_M_alone_36 : decode (mb 266) 36 = .ok (.ishl, 1) := by decide +kernel
theorem i_M_alone_37 : decode (mb 266) 37 = .ok (.if_icmp .ne 9, 3) := by decide +kernel
theorem i_M_alone_40 : decode (mb 266) 40 = .ok (.iconst 1, 1) := by decide +kernel
theorem i_M_alone_41 : decode (mb 266) 41 = .ok (.iload_n 3, 1) := by decide +kernel
theorem i_M_alone_42 : decode (mb 266) 42 = .ok (.ishl, 1) := by decide +kernel
theorem i_M_alone_43 : decode (mb 266) 43 = .ok (.goto 4, 3) := by decide +kernel
theorem i_M_alone_46 : decode (mb 266) 46 = .ok (.iconst 0, 1) := by decide +kernel
theorem i_M_alone_47 : decode (mb 266) 47 = .ok (.ior, 1) := by decide +kernel
theorem i_M_alone_48 : decode (mb 266) 48 = .ok (.istore_n 2, 1) := by decide +kernel
theorem i_M_alone_49 : decode (mb 266) 49 = .ok (.iinc 3 1, 3) := by decide +kernel
theorem i_M_alone_52 : decode (mb 266) 52 = .ok (.goto (-32), 3) := by decide +kernel
theorem i_M_alone_55 : decode (mb 266) 55 = .ok (.iload_n 2, 1) := by decide +kernel
theorem i_M_alone_56 : decode (mb 266) 56 = .ok (.ireturn, 1) := by decide +kernel
theorem o_M_party : (mn 267).cls = "NeedsALoserModel" := by decide +kernel
theorem l_M_party : ml 267 = 4 := by decide +kernel
theorem t_M_party : mr 267 = some (FieldType.int) := by decide +kernel
theorem i_M_party_0 : decode (mb 267) 0 = .ok (.aload_n 0, 1) := by decide +kernel
theorem i_M_party_1 : decode (mb 267) 1 = .ok (.iload_n 1, 1) := by decide +kernel
theorem i_M_party_2 : decode (mb 267) 2 = .ok (.i2l, 1) := by decide +kernel
theorem i_M_party_3 : decode (mb 267) 3 = .ok (.invokevirtual 112, 3) := by decide +kernel
theorem i_M_party_6 : decode (mb 267) 6 = .ok (.ifCond .ne 10, 3) := by decide +kernel
theorem i_M_party_9 : decode (mb 267) 9 = .ok (.aload_n 0, 1) := by decide +kernel
theorem i_M_party_10 : decode (mb 267) 10 = .ok (.bipush (-2), 2) := by decide +kernel
theorem i_M_party_12 : decode (mb 267) 12 = .ok (.invokevirtual 89, 3) := by decide +kernel
theorem i_M_party_15 : decode (mb 267) 15 = .ok (.ireturn, 1) := by decide +kernel
theorem i_M_party_16 : decode (mb 267) 16 = .ok (.iconst 0, 1) := by decide +kernel
theorem i_M_party_17 : decode (mb 267) 17 = .ok (.istore_n 2, 1) := by decide +kernel
theorem i_M_party_18 : decode (mb 267) 18 = .ok (.iconst 0, 1) := by decide +kernel
theorem i_M_party_19 : decode (mb 267) 19 = .ok (.istore_n 3, 1) := by decide +kernel
theorem i_M_party_20 : decode (mb 267) 20 = .ok (.iload_n 3, 1) := by decide +kernel
theorem i_M_party_21 : decode (mb 267) 21 = .ok (.aload_n 0, 1) := by decide +kernel
theorem i_M_party_22 : decode (mb 267) 22 = .ok (.getfield 80, 3) := by decide +kernel
theorem i_M_party_25 : decode (mb 267) 25 = .ok (.if_icmp .ge 28, 3) := by decide +kernel
theorem i_M_party_28 : decode (mb 267) 28 = .ok (.iload_n 2, 1) := by decide +kernel
theorem i_M_party_29 : decode (mb 267) 29 = .ok (.aload_n 0, 1) := by decide +kernel
theorem i_M_party_30 : decode (mb 267) 30 = .ok (.iload_n 3, 1) := by decide +kernel
theorem i_M_party_31 : decode (mb 267) 31 = .ok (.iload_n 1, 1) := by decide +kernel
theorem i_M_party_32 : decode (mb 267) 32 = .ok (.invokevirtual 240, 3) := by decide +kernel
theorem i_M_party_35 : decode (mb 267) 35 = .ok (.ifCond .eq 9, 3) := by decide +kernel
theorem i_M_party_38 : decode (mb 267) 38 = .ok (.iconst 1, 1) := by decide +kernel
theorem i_M_party_39 : decode (mb 267) 39 = .ok (.iload_n 3, 1) := by decide +kernel
theorem i_M_party_40 : decode (mb 267) 40 = .ok (.ishl, 1) := by decide +kernel
theorem i_M_party_41 : decode (mb 267) 41 = .ok (.goto 4, 3) := by decide +kernel
theorem i_M_party_44 : decode (mb 267) 44 = .ok (.iconst 0, 1) := by decide +kernel
theorem i_M_party_45 : decode (mb 267) 45 = .ok (.ior, 1) := by decide +kernel
theorem i_M_party_46 : decode (mb 267) 46 = .ok (.istore_n 2, 1) := by decide +kernel
theorem i_M_party_47 : decode (mb 267) 47 = .ok (.iinc 3 1, 3) := by decide +kernel
theorem i_M_party_50 : decode (mb 267) 50 = .ok (.goto (-30), 3) := by decide +kernel
theorem i_M_party_53 : decode (mb 267) 53 = .ok (.iload_n 2, 1) := by decide +kernel
theorem i_M_party_54 : decode (mb 267) 54 = .ok (.ireturn, 1) := by decide +kernel
theorem o_M_fair : (mn 268).cls = "NeedsALoserModel" := by decide +kernel
theorem l_M_fair : ml 268 = 4 := by decide +kernel
theorem t_M_fair : mr 268 = some (FieldType.int) := by decide +kernel
theorem i_M_fair_0 : decode (mb 268) 0 = .ok (.aload_n 0, 1) := by decide +kernel
theorem i_M_fair_1 : decode (mb 268) 1 = .ok (.getfield 73, 3) := by decide +kernel
theorem i_M_fair_4 : decode (mb 268) 4 = .ok (.ifCond .ne 10, 3) := by decide +kernel
theorem i_M_fair_7 : decode (mb 268) 7 = .ok (.aload_n 0, 1) := by decide +kernel
theorem i_M_fair_8 : decode (mb 268) 8 = .ok (.bipush (-5), 2) := by decide +kernel
theorem i_M_fair_10 : decode (mb 268) 10 = .ok (.invokevirtual 89, 3) := by decide +kernel
theorem i_M_fair_13 : decode (mb 268) 13 = .ok (.ireturn, 1) := by decide +kernel
theorem i_M_fair_14 : decode (mb 268) 14 = .ok (.aload_n 0, 1) := by decide +kernel
theorem i_M_fair_15 : decode (mb 268) 15 = .ok (.getfield 43, 3) := by decide +kernel
theorem i_M_fair_18 : decode (mb 268) 18 = .ok (.iconst 0, 1) := by decide +kernel
theorem i_M_fair_19 : decode (mb 268) 19 = .ok (.iaload, 1) := by decide +kernel
theorem i_M_fair_20 : decode (mb 268) 20 = .ok (.istore_n 1, 1) := by decide +kernel
theorem i_M_fair_21 : decode (mb 268) 21 = .ok (.aload_n 0, 1) := by decide +kernel
theorem i_M_fair_22 : decode (mb 268) 22 = .ok (.getfield 43, 3) := by decide +kernel
theorem i_M_fair_25 : decode (mb 268) 25 = .ok (.iconst 0, 1) := by decide +kernel
theorem i_M_fair_26 : decode (mb 268) 26 = .ok (.iaload, 1) := by decide +kernel
theorem i_M_fair_27 : decode (mb 268) 27 = .ok (.istore_n 2, 1) := by decide +kernel
theorem i_M_fair_28 : decode (mb 268) 28 = .ok (.iconst 1, 1) := by decide +kernel
theorem i_M_fair_29 : decode (mb 268) 29 = .ok (.istore_n 3, 1) := by decide +kernel
theorem i_M_fair_30 : decode (mb 268) 30 = .ok (.iload_n 3, 1) := by decide +kernel
theorem i_M_fair_31 : decode (mb 268) 31 = .ok (.aload_n 0, 1) := by decide +kernel
theorem i_M_fair_32 : decode (mb 268) 32 = .ok (.getfield 73, 3) := by decide +kernel
theorem i_M_fair_35 : decode (mb 268) 35 = .ok (.if_icmp .ge 51, 3) := by decide +kernel
theorem i_M_fair_38 : decode (mb 268) 38 = .ok (.aload_n 0, 1) := by decide +kernel
theorem i_M_fair_39 : decode (mb 268) 39 = .ok (.getfield 43, 3) := by decide +kernel
theorem i_M_fair_42 : decode (mb 268) 42 = .ok (.iload_n 3, 1) := by decide +kernel
theorem i_M_fair_43 : decode (mb 268) 43 = .ok (.iaload, 1) := by decide +kernel
theorem i_M_fair_44 : decode (mb 268) 44 = .ok (.iload_n 1, 1) := by decide +kernel
theorem i_M_fair_45 : decode (mb 268) 45 = .ok (.if_icmp .le 12, 3) := by decide +kernel
theorem i_M_fair_48 : decode (mb 268) 48 = .ok (.aload_n 0, 1) := by decide +kernel
theorem i_M_fair_49 : decode (mb 268) 49 = .ok (.getfield 43, 3) := by decide +kernel
theorem i_M_fair_52 : decode (mb 268) 52 = .ok (.iload_n 3, 1) := by decide +kernel
theorem i_M_fair_53 : decode (mb 268) 53 = .ok (.iaload, 1) := by decide +kernel
theorem i_M_fair_54 : decode (mb 268) 54 = .ok (.goto 4, 3) := by decide +kernel
theorem i_M_fair_57 : decode (mb 268) 57 = .ok (.iload_n 1, 1) := by decide +kernel
theorem i_M_fair_58 : decode (mb 268) 58 = .ok (.istore_n 1, 1) := by decide +kernel
theorem i_M_fair_59 : decode (mb 268) 59 = .ok (.aload_n 0, 1) := by decide +kernel
theorem i_M_fair_60 : decode (mb 268) 60 = .ok (.getfield 43, 3) := by decide +kernel
theorem i_M_fair_63 : decode (mb 268) 63 = .ok (.iload_n 3, 1) := by decide +kernel
theorem i_M_fair_64 : decode (mb 268) 64 = .ok (.iaload, 1) := by decide +kernel
theorem i_M_fair_65 : decode (mb 268) 65 = .ok (.iload_n 2, 1) := by decide +kernel
theorem i_M_fair_66 : decode (mb 268) 66 = .ok (.if_icmp .ge 12, 3) := by decide +kernel
theorem i_M_fair_69 : decode (mb 268) 69 = .ok (.aload_n 0, 1) := by decide +kernel
theorem i_M_fair_70 : decode (mb 268) 70 = .ok (.getfield 43, 3) := by decide +kernel
theorem i_M_fair_73 : decode (mb 268) 73 = .ok (.iload_n 3, 1) := by decide +kernel
theorem i_M_fair_74 : decode (mb 268) 74 = .ok (.iaload, 1) := by decide +kernel
theorem i_M_fair_75 : decode (mb 268) 75 = .ok (.goto 4, 3) := by decide +kernel
theorem i_M_fair_78 : decode (mb 268) 78 = .ok (.iload_n 2, 1) := by decide +kernel
theorem i_M_fair_79 : decode (mb 268) 79 = .ok (.istore_n 2, 1) := by decide +kernel
theorem i_M_fair_80 : decode (mb 268) 80 = .ok (.iinc 3 1, 3) := by decide +kernel
theorem i_M_fair_83 : decode (mb 268) 83 = .ok (.goto (-53), 3) := by decide +kernel
theorem i_M_fair_86 : decode (mb 268) 86 = .ok (.iload_n 1, 1) := by decide +kernel
theorem i_M_fair_87 : decode (mb 268) 87 = .ok (.iload_n 2, 1) := by decide +kernel
theorem i_M_fair_88 : decode (mb 268) 88 = .ok (.isub, 1) := by decide +kernel
theorem i_M_fair_89 : decode (mb 268) 89 = .ok (.ireturn, 1) := by decide +kernel
theorem o_M_never : (mn 269).cls = "NeedsALoserModel" := by decide +kernel
theorem l_M_never : ml 269 = 3 := by decide +kernel
theorem t_M_never : mr 269 = some (FieldType.int) := by decide +kernel
theorem i_M_never_0 : decode (mb 269) 0 = .ok (.iconst 0, 1) := by decide +kernel
theorem i_M_never_1 : decode (mb 269) 1 = .ok (.istore_n 1, 1) := by decide +kernel
theorem i_M_never_2 : decode (mb 269) 2 = .ok (.iconst 0, 1) := by decide +kernel
theorem i_M_never_3 : decode (mb 269) 3 = .ok (.istore_n 2, 1) := by decide +kernel
theorem i_M_never_4 : decode (mb 269) 4 = .ok (.iload_n 2, 1) := by decide +kernel
theorem i_M_never_5 : decode (mb 269) 5 = .ok (.aload_n 0, 1) := by decide +kernel
theorem i_M_never_6 : decode (mb 269) 6 = .ok (.getfield 80, 3) := by decide +kernel
theorem i_M_never_9 : decode (mb 269) 9 = .ok (.if_icmp .ge 27, 3) := by decide +kernel
theorem i_M_never_12 : decode (mb 269) 12 = .ok (.iload_n 1, 1) := by decide +kernel
theorem i_M_never_13 : decode (mb 269) 13 = .ok (.aload_n 0, 1) := by decide +kernel
theorem i_M_never_14 : decode (mb 269) 14 = .ok (.iload_n 2, 1) := by decide +kernel
theorem i_M_never_15 : decode (mb 269) 15 = .ok (.invokevirtual 248, 3) := by decide +kernel
theorem i_M_never_18 : decode (mb 269) 18 = .ok (.ifCond .ne 9, 3) := by decide +kernel
theorem i_M_never_21 : decode (mb 269) 21 = .ok (.iconst 1, 1) := by decide +kernel
theorem i_M_never_22 : decode (mb 269) 22 = .ok (.iload_n 2, 1) := by decide +kernel
theorem i_M_never_23 : decode (mb 269) 23 = .ok (.ishl, 1) := by decide +kernel
theorem i_M_never_24 : decode (mb 269) 24 = .ok (.goto 4, 3) := by decide +kernel
theorem i_M_never_27 : decode (mb 269) 27 = .ok (.iconst 0, 1) := by decide +kernel
theorem i_M_never_28 : decode (mb 269) 28 = .ok (.ior, 1) := by decide +kernel
theorem i_M_never_29 : decode (mb 269) 29 = .ok (.istore_n 1, 1) := by decide +kernel
theorem i_M_never_30 : decode (mb 269) 30 = .ok (.iinc 2 1, 3) := by decide +kernel
theorem i_M_never_33 : decode (mb 269) 33 = .ok (.goto (-29), 3) := by decide +kernel
theorem i_M_never_36 : decode (mb 269) 36 = .ok (.iload_n 1, 1) := by decide +kernel
theorem i_M_never_37 : decode (mb 269) 37 = .ok (.ireturn, 1) := by decide +kernel
theorem o_M_free : (mn 270).cls = "NeedsALoserModel" := by decide +kernel
theorem l_M_free : ml 270 = 5 := by decide +kernel
theorem t_M_free : mr 270 = some (FieldType.int) := by decide +kernel
theorem i_M_free_0 : decode (mb 270) 0 = .ok (.iconst 0, 1) := by decide +kernel
theorem i_M_free_1 : decode (mb 270) 1 = .ok (.istore_n 1, 1) := by decide +kernel
theorem i_M_free_2 : decode (mb 270) 2 = .ok (.iconst 0, 1) := by decide +kernel
theorem i_M_free_3 : decode (mb 270) 3 = .ok (.istore_n 2, 1) := by decide +kernel
theorem i_M_free_4 : decode (mb 270) 4 = .ok (.iload_n 2, 1) := by decide +kernel
theorem i_M_free_5 : decode (mb 270) 5 = .ok (.iconst 1, 1) := by decide +kernel
theorem i_M_free_6 : decode (mb 270) 6 = .ok (.aload_n 0, 1) := by decide +kernel
theorem i_M_free_7 : decode (mb 270) 7 = .ok (.getfield 80, 3) := by decide +kernel
theorem i_M_free_10 : decode (mb 270) 10 = .ok (.ishl, 1) := by decide +kernel
theorem i_M_free_11 : decode (mb 270) 11 = .ok (.if_icmp .ge 70, 3) := by decide +kernel
theorem i_M_free_14 : decode (mb 270) 14 = .ok (.iconst 0, 1) := by decide +kernel
theorem i_M_free_15 : decode (mb 270) 15 = .ok (.istore_n 3, 1) := by decide +kernel
theorem i_M_free_16 : decode (mb 270) 16 = .ok (.iconst 0, 1) := by decide +kernel
theorem i_M_free_17 : decode (mb 270) 17 = .ok (.istore 4, 2) := by decide +kernel
theorem i_M_free_19 : decode (mb 270) 19 = .ok (.iload 4, 2) := by decide +kernel
theorem i_M_free_21 : decode (mb 270) 21 = .ok (.aload_n 0, 1) := by decide +kernel
theorem i_M_free_22 : decode (mb 270) 22 = .ok (.getfield 80, 3) := by decide +kernel
theorem i_M_free_25 : decode (mb 270) 25 = .ok (.if_icmp .ge 31, 3) := by decide +kernel
theorem i_M_free_28 : decode (mb 270) 28 = .ok (.iload_n 3, 1) := by decide +kernel
theorem i_M_free_29 : decode (mb 270) 29 = .ok (.iload_n 2, 1) := by decide +kernel
theorem i_M_free_30 : decode (mb 270) 30 = .ok (.iload 4, 2) := by decide +kernel
theorem i_M_free_32 : decode (mb 270) 32 = .ok (.invokestatic 122, 3) := by decide +kernel
theorem i_M_free_35 : decode (mb 270) 35 = .ok (.ifCond .eq 12, 3) := by decide +kernel
theorem i_M_free_38 : decode (mb 270) 38 = .ok (.aload_n 0, 1) := by decide +kernel
theorem i_M_free_39 : decode (mb 270) 39 = .ok (.iload 4, 2) := by decide +kernel
theorem i_M_free_41 : decode (mb 270) 41 = .ok (.invokevirtual 246, 3) := by decide +kernel
theorem i_M_free_44 : decode (mb 270) 44 = .ok (.goto 4, 3) := by decide +kernel
theorem i_M_free_47 : decode (mb 270) 47 = .ok (.iconst 0, 1) := by decide +kernel
theorem i_M_free_48 : decode (mb 270) 48 = .ok (.iadd, 1) := by decide +kernel
theorem i_M_free_49 : decode (mb 270) 49 = .ok (.istore_n 3, 1) := by decide +kernel
theorem i_M_free_50 : decode (mb 270) 50 = .ok (.iinc 4 1, 3) := by decide +kernel
theorem i_M_free_53 : decode (mb 270) 53 = .ok (.goto (-34), 3) := by decide +kernel
theorem i_M_free_56 : decode (mb 270) 56 = .ok (.iload_n 3, 1) := by decide +kernel
theorem i_M_free_57 : decode (mb 270) 57 = .ok (.iload_n 1, 1) := by decide +kernel
theorem i_M_free_58 : decode (mb 270) 58 = .ok (.if_icmp .le 15, 3) := by decide +kernel
theorem i_M_free_61 : decode (mb 270) 61 = .ok (.aload_n 0, 1) := by decide +kernel
theorem i_M_free_62 : decode (mb 270) 62 = .ok (.iload_n 2, 1) := by decide +kernel
theorem i_M_free_63 : decode (mb 270) 63 = .ok (.invokevirtual 310, 3) := by decide +kernel
theorem i_M_free_66 : decode (mb 270) 66 = .ok (.ifCond .ne 7, 3) := by decide +kernel
theorem i_M_free_69 : decode (mb 270) 69 = .ok (.iload_n 3, 1) := by decide +kernel
theorem i_M_free_70 : decode (mb 270) 70 = .ok (.goto 4, 3) := by decide +kernel
theorem i_M_free_73 : decode (mb 270) 73 = .ok (.iload_n 1, 1) := by decide +kernel
theorem i_M_free_74 : decode (mb 270) 74 = .ok (.istore_n 1, 1) := by decide +kernel
theorem i_M_free_75 : decode (mb 270) 75 = .ok (.iinc 2 1, 3) := by decide +kernel
theorem i_M_free_78 : decode (mb 270) 78 = .ok (.goto (-74), 3) := by decide +kernel
theorem i_M_free_81 : decode (mb 270) 81 = .ok (.iload_n 1, 1) := by decide +kernel
theorem i_M_free_82 : decode (mb 270) 82 = .ok (.ireturn, 1) := by decide +kernel
theorem o_M_isBarred : (mn 271).cls = "NeedsALoserModel" := by decide +kernel
theorem l_M_isBarred : ml 271 = 3 := by decide +kernel
theorem t_M_isBarred : mr 271 = some (FieldType.boolean) := by decide +kernel
theorem i_M_isBarred_0 : decode (mb 271) 0 = .ok (.iconst 0, 1) := by decide +kernel
theorem i_M_isBarred_1 : decode (mb 271) 1 = .ok (.istore_n 2, 1) := by decide +kernel
theorem i_M_isBarred_2 : decode (mb 271) 2 = .ok (.iload_n 2, 1) := by decide +kernel
theorem i_M_isBarred_3 : decode (mb 271) 3 = .ok (.aload_n 0, 1) := by decide +kernel
theorem i_M_isBarred_4 : decode (mb 271) 4 = .ok (.getfield 80, 3) := by decide +kernel
theorem i_M_isBarred_7 : decode (mb 271) 7 = .ok (.if_icmp .ge 32, 3) := by decide +kernel
theorem i_M_isBarred_10 : decode (mb 271) 10 = .ok (.iload_n 1, 1) := by decide +kernel
theorem i_M_isBarred_11 : decode (mb 271) 11 = .ok (.iload_n 2, 1) := by decide +kernel
theorem i_M_isBarred_12 : decode (mb 271) 12 = .ok (.invokestatic 122, 3) := by decide +kernel
theorem i_M_isBarred_15 : decode (mb 271) 15 = .ok (.ifCond .eq 18, 3) := by decide +kernel
theorem i_M_isBarred_18 : decode (mb 271) 18 = .ok (.aload_n 0, 1) := by decide +kernel
theorem i_M_isBarred_19 : decode (mb 271) 19 = .ok (.getfield 48, 3) := by decide +kernel
theorem i_M_isBarred_22 : decode (mb 271) 22 = .ok (.iload_n 2, 1) := by decide +kernel
theorem i_M_isBarred_23 : decode (mb 271) 23 = .ok (.aaload, 1) := by decide +kernel
theorem i_M_isBarred_24 : decode (mb 271) 24 = .ok (.iconst 4, 1) := by decide +kernel
theorem i_M_isBarred_25 : decode (mb 271) 25 = .ok (.iaload, 1) := by decide +kernel
theorem i_M_isBarred_26 : decode (mb 271) 26 = .ok (.iload_n 1, 1) := by decide +kernel
theorem i_M_isBarred_27 : decode (mb 271) 27 = .ok (.iand, 1) := by decide +kernel
theorem i_M_isBarred_28 : decode (mb 271) 28 = .ok (.ifCond .eq 5, 3) := by decide +kernel
theorem i_M_isBarred_31 : decode (mb 271) 31 = .ok (.iconst 1, 1) := by decide +kernel
theorem i_M_isBarred_32 : decode (mb 271) 32 = .ok (.ireturn, 1) := by decide +kernel
theorem i_M_isBarred_33 : decode (mb 271) 33 = .ok (.iinc 2 1, 3) := by decide +kernel
theorem i_M_isBarred_36 : decode (mb 271) 36 = .ok (.goto (-34), 3) := by decide +kernel
theorem i_M_isBarred_39 : decode (mb 271) 39 = .ok (.iconst 0, 1) := by decide +kernel
theorem i_M_isBarred_40 : decode (mb 271) 40 = .ok (.ireturn, 1) := by decide +kernel
theorem o_M_cross : (mn 272).cls = "NeedsALoserModel" := by decide +kernel
theorem l_M_cross : ml 272 = 7 := by decide +kernel
theorem t_M_cross : mr 272 = some (FieldType.int) := by decide +kernel
theorem i_M_cross_0 : decode (mb 272) 0 = .ok (.aload_n 0, 1) := by decide +kernel
theorem i_M_cross_1 : decode (mb 272) 1 = .ok (.iload_n 1, 1) := by decide +kernel
theorem i_M_cross_2 : decode (mb 272) 2 = .ok (.invokevirtual 116, 3) := by decide +kernel
theorem i_M_cross_5 : decode (mb 272) 5 = .ok (.ifCond .eq 26, 3) := by decide +kernel
theorem i_M_cross_8 : decode (mb 272) 8 = .ok (.aload_n 0, 1) := by decide +kernel
theorem i_M_cross_9 : decode (mb 272) 9 = .ok (.iload_n 2, 1) := by decide +kernel
theorem i_M_cross_10 : decode (mb 272) 10 = .ok (.invokevirtual 116, 3) := by decide +kernel
theorem i_M_cross_13 : decode (mb 272) 13 = .ok (.ifCond .eq 18, 3) := by decide +kernel
theorem i_M_cross_16 : decode (mb 272) 16 = .ok (.iload_n 1, 1) := by decide +kernel
theorem i_M_cross_17 : decode (mb 272) 17 = .ok (.iload_n 2, 1) := by decide +kernel
theorem i_M_cross_18 : decode (mb 272) 18 = .ok (.if_icmp .eq 13, 3) := by decide +kernel
theorem i_M_cross_21 : decode (mb 272) 21 = .ok (.iload_n 3, 1) := by decide +kernel
theorem i_M_cross_22 : decode (mb 272) 22 = .ok (.i2l, 1) := by decide +kernel
theorem i_M_cross_23 : decode (mb 272) 23 = .ok (.lconst 0, 1) := by decide +kernel
theorem i_M_cross_24 : decode (mb 272) 24 = .ok (.lconst 1, 1) := by decide +kernel
theorem i_M_cross_25 : decode (mb 272) 25 = .ok (.invokestatic 76, 3) := by decide +kernel
theorem i_M_cross_28 : decode (mb 272) 28 = .ok (.ifCond .ne 13, 3) := by decide +kernel
theorem i_M_cross_31 : decode (mb 272) 31 = .ok (.ldc 239, 2) := by decide +kernel
theorem i_M_cross_33 : decode (mb 272) 33 = .ok (.aload_n 0, 1) := by decide +kernel
theorem i_M_cross_34 : decode (mb 272) 34 = .ok (.bipush (-2), 2) := by decide +kernel
theorem i_M_cross_36 : decode (mb 272) 36 = .ok (.invokevirtual 89, 3) := by decide +kernel
theorem i_M_cross_39 : decode (mb 272) 39 = .ok (.iadd, 1) := by decide +kernel
theorem i_M_cross_40 : decode (mb 272) 40 = .ok (.ireturn, 1) := by decide +kernel
theorem i_M_cross_41 : decode (mb 272) 41 = .ok (.aload_n 0, 1) := by decide +kernel
theorem i_M_cross_42 : decode (mb 272) 42 = .ok (.iload_n 1, 1) := by decide +kernel
theorem i_M_cross_43 : decode (mb 272) 43 = .ok (.iload_n 2, 1) := by decide +kernel
theorem i_M_cross_44 : decode (mb 272) 44 = .ok (.invokevirtual 313, 3) := by decide +kernel
theorem i_M_cross_47 : decode (mb 272) 47 = .ok (.istore 4, 2) := by decide +kernel
theorem i_M_cross_49 : decode (mb 272) 49 = .ok (.aload_n 0, 1) := by decide +kernel
theorem i_M_cross_50 : decode (mb 272) 50 = .ok (.iload_n 2, 1) := by decide +kernel
theorem i_M_cross_51 : decode (mb 272) 51 = .ok (.iload_n 1, 1) := by decide +kernel
theorem i_M_cross_52 : decode (mb 272) 52 = .ok (.invokevirtual 313, 3) := by decide +kernel
theorem i_M_cross_55 : decode (mb 272) 55 = .ok (.istore 5, 2) := by decide +kernel
theorem i_M_cross_57 : decode (mb 272) 57 = .ok (.iload 4, 2) := by decide +kernel
theorem i_M_cross_59 : decode (mb 272) 59 = .ok (.iconst (-1), 1) := by decide +kernel
theorem i_M_cross_60 : decode (mb 272) 60 = .ok (.if_icmp .eq 13, 3) := by decide +kernel
theorem i_M_cross_63 : decode (mb 272) 63 = .ok (.iload 5, 2) := by decide +kernel
theorem i_M_cross_65 : decode (mb 272) 65 = .ok (.iconst (-1), 1) := by decide +kernel
theorem i_M_cross_66 : decode (mb 272) 66 = .ok (.if_icmp .eq 7, 3) := by decide +kernel
theorem i_M_cross_69 : decode (mb 272) 69 = .ok (.iconst 1, 1) := by decide +kernel
theorem i_M_cross_70 : decode (mb 272) 70 = .ok (.goto 4, 3) := by decide +kernel
theorem i_M_cross_73 : decode (mb 272) 73 = .ok (.iconst 0, 1) := by decide +kernel
theorem i_M_cross_74 : decode (mb 272) 74 = .ok (.istore 6, 2) := by decide +kernel
theorem i_M_cross_76 : decode (mb 272) 76 = .ok (.iload_n 3, 1) := by decide +kernel
theorem i_M_cross_77 : decode (mb 272) 77 = .ok (.ifCond .ne 14, 3) := by decide +kernel
theorem i_M_cross_80 : decode (mb 272) 80 = .ok (.iload 6, 2) := by decide +kernel
theorem i_M_cross_82 : decode (mb 272) 82 = .ok (.ifCond .eq 7, 3) := by decide +kernel
theorem i_M_cross_85 : decode (mb 272) 85 = .ok (.iconst 1, 1) := by decide +kernel
theorem i_M_cross_86 : decode (mb 272) 86 = .ok (.goto 4, 3) := by decide +kernel
theorem i_M_cross_89 : decode (mb 272) 89 = .ok (.iconst 0, 1) := by decide +kernel
theorem i_M_cross_90 : decode (mb 272) 90 = .ok (.ireturn, 1) := by decide +kernel
theorem i_M_cross_91 : decode (mb 272) 91 = .ok (.iload 6, 2) := by decide +kernel
theorem i_M_cross_93 : decode (mb 272) 93 = .ok (.ifCond .eq 21, 3) := by decide +kernel
theorem i_M_cross_96 : decode (mb 272) 96 = .ok (.aload_n 0, 1) := by decide +kernel
theorem i_M_cross_97 : decode (mb 272) 97 = .ok (.iload_n 1, 1) := by decide +kernel
theorem i_M_cross_98 : decode (mb 272) 98 = .ok (.iload 4, 2) := by decide +kernel
theorem i_M_cross_100 : decode (mb 272) 100 = .ok (.invokevirtual 251, 3) := by decide +kernel
theorem i_M_cross_103 : decode (mb 272) 103 = .ok (.aload_n 0, 1) := by decide +kernel
theorem i_M_cross_104 : decode (mb 272) 104 = .ok (.iload_n 2, 1) := by decide +kernel
theorem i_M_cross_105 : decode (mb 272) 105 = .ok (.iload 5, 2) := by decide +kernel
theorem i_M_cross_107 : decode (mb 272) 107 = .ok (.invokevirtual 251, 3) := by decide +kernel
theorem i_M_cross_110 : decode (mb 272) 110 = .ok (.iadd, 1) := by decide +kernel
theorem i_M_cross_111 : decode (mb 272) 111 = .ok (.goto 12, 3) := by decide +kernel
theorem i_M_cross_114 : decode (mb 272) 114 = .ok (.ldc 239, 2) := by decide +kernel
theorem i_M_cross_116 : decode (mb 272) 116 = .ok (.aload_n 0, 1) := by decide +kernel
theorem i_M_cross_117 : decode (mb 272) 117 = .ok (.bipush (-5), 2) := by decide +kernel
theorem i_M_cross_119 : decode (mb 272) 119 = .ok (.invokevirtual 89, 3) := by decide +kernel
theorem i_M_cross_122 : decode (mb 272) 122 = .ok (.iadd, 1) := by decide +kernel
theorem i_M_cross_123 : decode (mb 272) 123 = .ok (.ireturn, 1) := by decide +kernel
theorem o_M_partyFor : (mn 273).cls = "NeedsALoserModel" := by decide +kernel
theorem l_M_partyFor : ml 273 = 5 := by decide +kernel
theorem t_M_partyFor : mr 273 = some (FieldType.int) := by decide +kernel
theorem i_M_partyFor_0 : decode (mb 273) 0 = .ok (.aload_n 0, 1) := by decide +kernel
theorem i_M_partyFor_1 : decode (mb 273) 1 = .ok (.getfield 48, 3) := by decide +kernel
theorem i_M_partyFor_4 : decode (mb 273) 4 = .ok (.iload_n 2, 1) := by decide +kernel
theorem i_M_partyFor_5 : decode (mb 273) 5 = .ok (.aaload, 1) := by decide +kernel
theorem i_M_partyFor_6 : decode (mb 273) 6 = .ok (.iconst 0, 1) := by decide +kernel
theorem i_M_partyFor_7 : decode (mb 273) 7 = .ok (.iaload, 1) := by decide +kernel
theorem i_M_partyFor_8 : decode (mb 273) 8 = .ok (.istore_n 3, 1) := by decide +kernel
theorem i_M_partyFor_9 : decode (mb 273) 9 = .ok (.aload_n 0, 1) := by decide +kernel
theorem i_M_partyFor_10 : decode (mb 273) 10 = .ok (.getfield 48, 3) := by decide +kernel
theorem i_M_partyFor_13 : decode (mb 273) 13 = .ok (.iload_n 2, 1) := by decide +kernel
theorem i_M_partyFor_14 : decode (mb 273) 14 = .ok (.aaload, 1) := by decide +kernel
theorem i_M_partyFor_15 : decode (mb 273) 15 = .ok (.iconst 1, 1) := by decide +kernel
theorem i_M_partyFor_16 : decode (mb 273) 16 = .ok (.iaload, 1) := by decide +kernel
theorem i_M_partyFor_17 : decode (mb 273) 17 = .ok (.istore 4, 2) := by decide +kernel
theorem i_M_partyFor_19 : decode (mb 273) 19 = .ok (.aload_n 0, 1) := by decide +kernel
theorem i_M_partyFor_20 : decode (mb 273) 20 = .ok (.iload_n 1, 1) := by decide +kernel
theorem i_M_partyFor_21 : decode (mb 273) 21 = .ok (.iload_n 3, 1) := by decide +kernel
theorem i_M_partyFor_22 : decode (mb 273) 22 = .ok (.invokevirtual 243, 3) := by decide +kernel
theorem i_M_partyFor_25 : decode (mb 273) 25 = .ok (.ifCond .ne 20, 3) := by decide +kernel
theorem i_M_partyFor_28 : decode (mb 273) 28 = .ok (.aload_n 0, 1) := by decide +kernel
theorem i_M_partyFor_29 : decode (mb 273) 29 = .ok (.iload_n 1, 1) := by decide +kernel
theorem i_M_partyFor_30 : decode (mb 273) 30 = .ok (.iload 4, 2) := by decide +kernel
theorem i_M_partyFor_32 : decode (mb 273) 32 = .ok (.invokevirtual 243, 3) := by decide +kernel
theorem i_M_partyFor_35 : decode (mb 273) 35 = .ok (.ifCond .eq 8, 3) := by decide +kernel
theorem i_M_partyFor_38 : decode (mb 273) 38 = .ok (.iload 4, 2) := by decide +kernel
theorem i_M_partyFor_40 : decode (mb 273) 40 = .ok (.goto 4, 3) := by decide +kernel
theorem i_M_partyFor_43 : decode (mb 273) 43 = .ok (.iconst (-1), 1) := by decide +kernel
theorem i_M_partyFor_44 : decode (mb 273) 44 = .ok (.ireturn, 1) := by decide +kernel
theorem i_M_partyFor_45 : decode (mb 273) 45 = .ok (.aload_n 0, 1) := by decide +kernel
theorem i_M_partyFor_46 : decode (mb 273) 46 = .ok (.iload_n 1, 1) := by decide +kernel
theorem i_M_partyFor_47 : decode (mb 273) 47 = .ok (.iload 4, 2) := by decide +kernel
theorem i_M_partyFor_49 : decode (mb 273) 49 = .ok (.invokevirtual 243, 3) := by decide +kernel
theorem i_M_partyFor_52 : decode (mb 273) 52 = .ok (.ifCond .eq 24, 3) := by decide +kernel
theorem i_M_partyFor_55 : decode (mb 273) 55 = .ok (.aload_n 0, 1) := by decide +kernel
theorem i_M_partyFor_56 : decode (mb 273) 56 = .ok (.iload_n 1, 1) := by decide +kernel
theorem i_M_partyFor_57 : decode (mb 273) 57 = .ok (.iload 4, 2) := by decide +kernel
theorem i_M_partyFor_59 : decode (mb 273) 59 = .ok (.invokevirtual 251, 3) := by decide +kernel
theorem i_M_partyFor_62 : decode (mb 273) 62 = .ok (.aload_n 0, 1) := by decide +kernel
theorem i_M_partyFor_63 : decode (mb 273) 63 = .ok (.iload_n 1, 1) := by decide +kernel
theorem i_M_partyFor_64 : decode (mb 273) 64 = .ok (.iload_n 3, 1) := by decide +kernel
theorem i_M_partyFor_65 : decode (mb 273) 65 = .ok (.invokevirtual 251, 3) := by decide +kernel
theorem i_M_partyFor_68 : decode (mb 273) 68 = .ok (.if_icmp .le 8, 3) := by decide +kernel
theorem i_M_partyFor_71 : decode (mb 273) 71 = .ok (.iload 4, 2) := by decide +kernel
theorem i_M_partyFor_73 : decode (mb 273) 73 = .ok (.goto 4, 3) := by decide +kernel
theorem i_M_partyFor_76 : decode (mb 273) 76 = .ok (.iload_n 3, 1) := by decide +kernel
theorem i_M_partyFor_77 : decode (mb 273) 77 = .ok (.ireturn, 1) := by decide +kernel
theorem o_M_rings : (mn 274).cls = "NeedsALoserModel" := by decide +kernel
theorem l_M_rings : ml 274 = 5 := by decide +kernel
theorem t_M_rings : mr 274 = some (FieldType.int) := by decide +kernel
theorem i_M_rings_0 : decode (mb 274) 0 = .ok (.iconst 0, 1) := by decide +kernel
theorem i_M_rings_1 : decode (mb 274) 1 = .ok (.istore_n 1, 1) := by decide +kernel
theorem i_M_rings_2 : decode (mb 274) 2 = .ok (.iconst 0, 1) := by decide +kernel
theorem i_M_rings_3 : decode (mb 274) 3 = .ok (.istore_n 2, 1) := by decide +kernel
theorem i_M_rings_4 : decode (mb 274) 4 = .ok (.iload_n 2, 1) := by decide +kernel
theorem i_M_rings_5 : decode (mb 274) 5 = .ok (.aload_n 0, 1) := by decide +kernel
theorem i_M_rings_6 : decode (mb 274) 6 = .ok (.getfield 80, 3) := by decide +kernel
theorem i_M_rings_9 : decode (mb 274) 9 = .ok (.if_icmp .ge 77, 3) := by decide +kernel
theorem i_M_rings_12 : decode (mb 274) 12 = .ok (.iload_n 2, 1) := by decide +kernel
theorem i_M_rings_13 : decode (mb 274) 13 = .ok (.iconst 1, 1) := by decide +kernel
theorem i_M_rings_14 : decode (mb 274) 14 = .ok (.iadd, 1) := by decide +kernel
theorem i_M_rings_15 : decode (mb 274) 15 = .ok (.istore_n 3, 1) := by decide +kernel
theorem i_M_rings_16 : decode (mb 274) 16 = .ok (.iload_n 3, 1) := by decide +kernel
theorem i_M_rings_17 : decode (mb 274) 17 = .ok (.aload_n 0, 1) := by decide +kernel
theorem i_M_rings_18 : decode (mb 274) 18 = .ok (.getfield 80, 3) := by decide +kernel
theorem i_M_rings_21 : decode (mb 274) 21 = .ok (.if_icmp .ge 59, 3) := by decide +kernel
theorem i_M_rings_24 : decode (mb 274) 24 = .ok (.iload_n 3, 1) := by decide +kernel
theorem i_M_rings_25 : decode (mb 274) 25 = .ok (.iconst 1, 1) := by decide +kernel
theorem i_M_rings_26 : decode (mb 274) 26 = .ok (.iadd, 1) := by decide +kernel
theorem i_M_rings_27 : decode (mb 274) 27 = .ok (.istore 4, 2) := by decide +kernel
theorem i_M_rings_29 : decode (mb 274) 29 = .ok (.iload 4, 2) := by decide +kernel
theorem i_M_rings_31 : decode (mb 274) 31 = .ok (.aload_n 0, 1) := by decide +kernel
theorem i_M_rings_32 : decode (mb 274) 32 = .ok (.getfield 80, 3) := by decide +kernel
theorem i_M_rings_35 : decode (mb 274) 35 = .ok (.if_icmp .ge 39, 3) := by decide +kernel
theorem i_M_rings_38 : decode (mb 274) 38 = .ok (.iload_n 1, 1) := by decide +kernel
theorem i_M_rings_39 : decode (mb 274) 39 = .ok (.aload_n 0, 1) := by decide +kernel
theorem i_M_rings_40 : decode (mb 274) 40 = .ok (.iload_n 2, 1) := by decide +kernel
theorem i_M_rings_41 : decode (mb 274) 41 = .ok (.iload_n 3, 1) := by decide +kernel
theorem i_M_rings_42 : decode (mb 274) 42 = .ok (.iload 4, 2) := by decide +kernel
theorem i_M_rings_44 : decode (mb 274) 44 = .ok (.invokevirtual 316, 3) := by decide +kernel
theorem i_M_rings_47 : decode (mb 274) 47 = .ok (.ifCond .ne 14, 3) := by decide +kernel
theorem i_M_rings_50 : decode (mb 274) 50 = .ok (.aload_n 0, 1) := by decide +kernel
theorem i_M_rings_51 : decode (mb 274) 51 = .ok (.iload_n 2, 1) := by decide +kernel
theorem i_M_rings_52 : decode (mb 274) 52 = .ok (.iload 4, 2) := by decide +kernel
theorem i_M_rings_54 : decode (mb 274) 54 = .ok (.iload_n 3, 1) := by decide +kernel
theorem i_M_rings_55 : decode (mb 274) 55 = .ok (.invokevirtual 316, 3) := by decide +kernel
theorem i_M_rings_58 : decode (mb 274) 58 = .ok (.ifCond .eq 7, 3) := by decide +kernel
theorem i_M_rings_61 : decode (mb 274) 61 = .ok (.iconst 1, 1) := by decide +kernel
theorem i_M_rings_62 : decode (mb 274) 62 = .ok (.goto 4, 3) := by decide +kernel
theorem i_M_rings_65 : decode (mb 274) 65 = .ok (.iconst 0, 1) := by decide +kernel
theorem i_M_rings_66 : decode (mb 274) 66 = .ok (.iadd, 1) := by decide +kernel
theorem i_M_rings_67 : decode (mb 274) 67 = .ok (.istore_n 1, 1) := by decide +kernel
theorem i_M_rings_68 : decode (mb 274) 68 = .ok (.iinc 4 1, 3) := by decide +kernel
theorem i_M_rings_71 : decode (mb 274) 71 = .ok (.goto (-42), 3) := by decide +kernel
theorem i_M_rings_74 : decode (mb 274) 74 = .ok (.iinc 3 1, 3) := by decide +kernel
theorem i_M_rings_77 : decode (mb 274) 77 = .ok (.goto (-61), 3) := by decide +kernel
theorem i_M_rings_80 : decode (mb 274) 80 = .ok (.iinc 2 1, 3) := by decide +kernel
theorem i_M_rings_83 : decode (mb 274) 83 = .ok (.goto (-79), 3) := by decide +kernel
theorem i_M_rings_86 : decode (mb 274) 86 = .ok (.iload_n 1, 1) := by decide +kernel
theorem i_M_rings_87 : decode (mb 274) 87 = .ok (.ireturn, 1) := by decide +kernel
theorem o_M_isRing : (mn 275).cls = "NeedsALoserModel" := by decide +kernel
theorem l_M_isRing : ml 275 = 4 := by decide +kernel
theorem t_M_isRing : mr 275 = some (FieldType.boolean) := by decide +kernel
theorem i_M_isRing_0 : decode (mb 275) 0 = .ok (.aload_n 0, 1) := by decide +kernel
theorem i_M_isRing_1 : decode (mb 275) 1 = .ok (.iload_n 1, 1) := by decide +kernel
theorem i_M_isRing_2 : decode (mb 275) 2 = .ok (.iload_n 2, 1) := by decide +kernel
theorem i_M_isRing_3 : decode (mb 275) 3 = .ok (.invokevirtual 313, 3) := by decide +kernel
theorem i_M_isRing_6 : decode (mb 275) 6 = .ok (.iconst (-1), 1) := by decide +kernel
theorem i_M_isRing_7 : decode (mb 275) 7 = .ok (.if_icmp .eq 27, 3) := by decide +kernel
theorem i_M_isRing_10 : decode (mb 275) 10 = .ok (.aload_n 0, 1) := by decide +kernel
theorem i_M_isRing_11 : decode (mb 275) 11 = .ok (.iload_n 2, 1) := by decide +kernel
theorem i_M_isRing_12 : decode (mb 275) 12 = .ok (.iload_n 3, 1) := by decide +kernel
theorem i_M_isRing_13 : decode (mb 275) 13 = .ok (.invokevirtual 313, 3) := by decide +kernel
theorem i_M_isRing_16 : decode (mb 275) 16 = .ok (.iconst (-1), 1) := by decide +kernel
theorem i_M_isRing_17 : decode (mb 275) 17 = .ok (.if_icmp .eq 17, 3) := by decide +kernel
theorem i_M_isRing_20 : decode (mb 275) 20 = .ok (.aload_n 0, 1) := by decide +kernel
theorem i_M_isRing_21 : decode (mb 275) 21 = .ok (.iload_n 3, 1) := by decide +kernel
theorem i_M_isRing_22 : decode (mb 275) 22 = .ok (.iload_n 1, 1) := by decide +kernel
theorem i_M_isRing_23 : decode (mb 275) 23 = .ok (.invokevirtual 313, 3) := by decide +kernel
theorem i_M_isRing_26 : decode (mb 275) 26 = .ok (.iconst (-1), 1) := by decide +kernel
theorem i_M_isRing_27 : decode (mb 275) 27 = .ok (.if_icmp .eq 7, 3) := by decide +kernel
theorem i_M_isRing_30 : decode (mb 275) 30 = .ok (.iconst 1, 1) := by decide +kernel
theorem i_M_isRing_31 : decode (mb 275) 31 = .ok (.goto 4, 3) := by decide +kernel
theorem i_M_isRing_34 : decode (mb 275) 34 = .ok (.iconst 0, 1) := by decide +kernel
theorem i_M_isRing_35 : decode (mb 275) 35 = .ok (.ireturn, 1) := by decide +kernel
theorem o_M_harm : (mn 276).cls = "NeedsALoserModel" := by decide +kernel
theorem l_M_harm : ml 276 = 2 := by decide +kernel
theorem t_M_harm : mr 276 = some (FieldType.int) := by decide +kernel
theorem i_M_harm_0 : decode (mb 276) 0 = .ok (.aload_n 0, 1) := by decide +kernel
theorem i_M_harm_1 : decode (mb 276) 1 = .ok (.iload_n 1, 1) := by decide +kernel
theorem i_M_harm_2 : decode (mb 276) 2 = .ok (.i2l, 1) := by decide +kernel
theorem i_M_harm_3 : decode (mb 276) 3 = .ok (.invokevirtual 112, 3) := by decide +kernel
theorem i_M_harm_6 : decode (mb 276) 6 = .ok (.ifCond .eq 11, 3) := by decide +kernel
theorem i_M_harm_9 : decode (mb 276) 9 = .ok (.aload_n 0, 1) := by decide +kernel
theorem i_M_harm_10 : decode (mb 276) 10 = .ok (.iload_n 1, 1) := by decide +kernel
theorem i_M_harm_11 : decode (mb 276) 11 = .ok (.invokevirtual 319, 3) := by decide +kernel
theorem i_M_harm_14 : decode (mb 276) 14 = .ok (.goto 9, 3) := by decide +kernel
theorem i_M_harm_17 : decode (mb 276) 17 = .ok (.aload_n 0, 1) := by decide +kernel
theorem i_M_harm_18 : decode (mb 276) 18 = .ok (.bipush (-2), 2) := by decide +kernel
theorem i_M_harm_20 : decode (mb 276) 20 = .ok (.invokevirtual 89, 3) := by decide +kernel
theorem i_M_harm_23 : decode (mb 276) 23 = .ok (.ireturn, 1) := by decide +kernel
theorem o_M_harmOf : (mn 277).cls = "NeedsALoserModel" := by decide +kernel
theorem l_M_harmOf : ml 277 = 7 := by decide +kernel
theorem t_M_harmOf : mr 277 = some (FieldType.int) := by decide +kernel
theorem i_M_harmOf_0 : decode (mb 277) 0 = .ok (.iconst 0, 1) := by decide +kernel
theorem i_M_harmOf_1 : decode (mb 277) 1 = .ok (.istore_n 2, 1) := by decide +kernel
theorem i_M_harmOf_2 : decode (mb 277) 2 = .ok (.iconst 0, 1) := by decide +kernel
theorem i_M_harmOf_3 : decode (mb 277) 3 = .ok (.istore_n 3, 1) := by decide +kernel
theorem i_M_harmOf_4 : decode (mb 277) 4 = .ok (.iload_n 3, 1) := by decide +kernel
theorem i_M_harmOf_5 : decode (mb 277) 5 = .ok (.iconst 1, 1) := by decide +kernel
theorem i_M_harmOf_6 : decode (mb 277) 6 = .ok (.aload_n 0, 1) := by decide +kernel
theorem i_M_harmOf_7 : decode (mb 277) 7 = .ok (.getfield 80, 3) := by decide +kernel
theorem i_M_harmOf_10 : decode (mb 277) 10 = .ok (.ishl, 1) := by decide +kernel
theorem i_M_harmOf_11 : decode (mb 277) 11 = .ok (.if_icmp .ge 136, 3) := by decide +kernel
theorem i_M_harmOf_14 : decode (mb 277) 14 = .ok (.aload_n 0, 1) := by decide +kernel
theorem i_M_harmOf_15 : decode (mb 277) 15 = .ok (.getfield 54, 3) := by decide +kernel
theorem i_M_harmOf_18 : decode (mb 277) 18 = .ok (.iconst 1, 1) := by decide +kernel
theorem i_M_harmOf_19 : decode (mb 277) 19 = .ok (.iaload, 1) := by decide +kernel
theorem i_M_harmOf_20 : decode (mb 277) 20 = .ok (.ifCond .eq 11, 3) := by decide +kernel
theorem i_M_harmOf_23 : decode (mb 277) 23 = .ok (.iload_n 3, 1) := by decide +kernel
theorem i_M_harmOf_24 : decode (mb 277) 24 = .ok (.invokestatic 307, 3) := by decide +kernel
theorem i_M_harmOf_27 : decode (mb 277) 27 = .ok (.iconst 1, 1) := by decide +kernel
theorem i_M_harmOf_28 : decode (mb 277) 28 = .ok (.if_icmp .gt 15, 3) := by decide +kernel
theorem i_M_harmOf_31 : decode (mb 277) 31 = .ok (.aload_n 0, 1) := by decide +kernel
theorem i_M_harmOf_32 : decode (mb 277) 32 = .ok (.iload_n 3, 1) := by decide +kernel
theorem i_M_harmOf_33 : decode (mb 277) 33 = .ok (.invokevirtual 310, 3) := by decide +kernel
theorem i_M_harmOf_36 : decode (mb 277) 36 = .ok (.ifCond .ne 7, 3) := by decide +kernel
theorem i_M_harmOf_39 : decode (mb 277) 39 = .ok (.iconst 1, 1) := by decide +kernel
theorem i_M_harmOf_40 : decode (mb 277) 40 = .ok (.goto 4, 3) := by decide +kernel
theorem i_M_harmOf_43 : decode (mb 277) 43 = .ok (.iconst 0, 1) := by decide +kernel
theorem i_M_harmOf_44 : decode (mb 277) 44 = .ok (.istore 4, 2) := by decide +kernel
theorem i_M_harmOf_46 : decode (mb 277) 46 = .ok (.iconst 0, 1) := by decide +kernel
theorem i_M_harmOf_47 : decode (mb 277) 47 = .ok (.istore 5, 2) := by decide +kernel
theorem i_M_harmOf_49 : decode (mb 277) 49 = .ok (.iconst 0, 1) := by decide +kernel
theorem i_M_harmOf_50 : decode (mb 277) 50 = .ok (.istore 6, 2) := by decide +kernel
theorem i_M_harmOf_52 : decode (mb 277) 52 = .ok (.iload 6, 2) := by decide +kernel
theorem i_M_harmOf_54 : decode (mb 277) 54 = .ok (.aload_n 0, 1) := by decide +kernel
theorem i_M_harmOf_55 : decode (mb 277) 55 = .ok (.getfield 80, 3) := by decide +kernel
theorem i_M_harmOf_58 : decode (mb 277) 58 = .ok (.if_icmp .ge 65, 3) := by decide +kernel
theorem i_M_harmOf_61 : decode (mb 277) 61 = .ok (.iload 4, 2) := by decide +kernel
theorem i_M_harmOf_63 : decode (mb 277) 63 = .ok (.iload_n 3, 1) := by decide +kernel
theorem i_M_harmOf_64 : decode (mb 277) 64 = .ok (.iload 6, 2) := by decide +kernel
theorem i_M_harmOf_66 : decode (mb 277) 66 = .ok (.invokestatic 122, 3) := by decide +kernel
theorem i_M_harmOf_69 : decode (mb 277) 69 = .ok (.ifCond .eq 13, 3) := by decide +kernel
theorem i_M_harmOf_72 : decode (mb 277) 72 = .ok (.aload_n 0, 1) := by decide +kernel
theorem i_M_harmOf_73 : decode (mb 277) 73 = .ok (.iload 6, 2) := by decide +kernel
theorem i_M_harmOf_75 : decode (mb 277) 75 = .ok (.iload_n 1, 1) := by decide +kernel
theorem i_M_harmOf_76 : decode (mb 277) 76 = .ok (.invokevirtual 243, 3) := by decide +kernel
theorem i_M_harmOf_79 : decode (mb 277) 79 = .ok (.ifCond .eq 7, 3) := by decide +kernel
theorem i_M_harmOf_82 : decode (mb 277) 82 = .ok (.iconst 1, 1) := by decide +kernel
theorem i_M_harmOf_83 : decode (mb 277) 83 = .ok (.goto 4, 3) := by decide +kernel
theorem i_M_harmOf_86 : decode (mb 277) 86 = .ok (.iconst 0, 1) := by decide +kernel
theorem i_M_harmOf_87 : decode (mb 277) 87 = .ok (.iand, 1) := by decide +kernel
theorem i_M_harmOf_88 : decode (mb 277) 88 = .ok (.istore 4, 2) := by decide +kernel
theorem i_M_harmOf_90 : decode (mb 277) 90 = .ok (.iload 5, 2) := by decide +kernel
theorem i_M_harmOf_92 : decode (mb 277) 92 = .ok (.iload_n 3, 1) := by decide +kernel
theorem i_M_harmOf_93 : decode (mb 277) 93 = .ok (.iload 6, 2) := by decide +kernel
theorem i_M_harmOf_95 : decode (mb 277) 95 = .ok (.invokestatic 122, 3) := by decide +kernel
theorem i_M_harmOf_98 : decode (mb 277) 98 = .ok (.ifCond .eq 15, 3) := by decide +kernel
theorem i_M_harmOf_101 : decode (mb 277) 101 = .ok (.aload_n 0, 1) := by decide +kernel
theorem i_M_harmOf_102 : decode (mb 277) 102 = .ok (.getfield 51, 3) := by decide +kernel
theorem i_M_harmOf_105 : decode (mb 277) 105 = .ok (.iload 6, 2) := by decide +kernel
theorem i_M_harmOf_107 : decode (mb 277) 107 = .ok (.aaload, 1) := by decide +kernel
theorem i_M_harmOf_108 : decode (mb 277) 108 = .ok (.iload_n 1, 1) := by decide +kernel
theorem i_M_harmOf_109 : decode (mb 277) 109 = .ok (.iaload, 1) := by decide +kernel
theorem i_M_harmOf_110 : decode (mb 277) 110 = .ok (.goto 4, 3) := by decide +kernel
theorem i_M_harmOf_113 : decode (mb 277) 113 = .ok (.iconst 0, 1) := by decide +kernel
theorem i_M_harmOf_114 : decode (mb 277) 114 = .ok (.iadd, 1) := by decide +kernel
theorem i_M_harmOf_115 : decode (mb 277) 115 = .ok (.istore 5, 2) := by decide +kernel
theorem i_M_harmOf_117 : decode (mb 277) 117 = .ok (.iinc 6 1, 3) := by decide +kernel
theorem i_M_harmOf_120 : decode (mb 277) 120 = .ok (.goto (-68), 3) := by decide +kernel
theorem i_M_harmOf_123 : decode (mb 277) 123 = .ok (.iload 4, 2) := by decide +kernel
theorem i_M_harmOf_125 : decode (mb 277) 125 = .ok (.ifCond .eq 14, 3) := by decide +kernel
theorem i_M_harmOf_128 : decode (mb 277) 128 = .ok (.iload 5, 2) := by decide +kernel
theorem i_M_harmOf_130 : decode (mb 277) 130 = .ok (.iload_n 2, 1) := by decide +kernel
theorem i_M_harmOf_131 : decode (mb 277) 131 = .ok (.if_icmp .le 8, 3) := by decide +kernel
theorem i_M_harmOf_134 : decode (mb 277) 134 = .ok (.iload 5, 2) := by decide +kernel
theorem i_M_harmOf_136 : decode (mb 277) 136 = .ok (.goto 4, 3) := by decide +kernel
theorem i_M_harmOf_139 : decode (mb 277) 139 = .ok (.iload_n 2, 1) := by decide +kernel
theorem i_M_harmOf_140 : decode (mb 277) 140 = .ok (.istore_n 2, 1) := by decide +kernel
theorem i_M_harmOf_141 : decode (mb 277) 141 = .ok (.iinc 3 1, 3) := by decide +kernel
theorem i_M_harmOf_144 : decode (mb 277) 144 = .ok (.goto (-140), 3) := by decide +kernel
theorem i_M_harmOf_147 : decode (mb 277) 147 = .ok (.iload_n 2, 1) := by decide +kernel
theorem i_M_harmOf_148 : decode (mb 277) 148 = .ok (.ireturn, 1) := by decide +kernel
theorem o_M_worst : (mn 278).cls = "NeedsALoserModel" := by decide +kernel
theorem l_M_worst : ml 278 = 3 := by decide +kernel
theorem t_M_worst : mr 278 = some (FieldType.int) := by decide +kernel
theorem i_M_worst_0 : decode (mb 278) 0 = .ok (.iconst (-1), 1) := by decide +kernel
theorem i_M_worst_1 : decode (mb 278) 1 = .ok (.istore_n 1, 1) := by decide +kernel
theorem i_M_worst_2 : decode (mb 278) 2 = .ok (.iconst 0, 1) := by decide +kernel
theorem i_M_worst_3 : decode (mb 278) 3 = .ok (.istore_n 2, 1) := by decide +kernel
theorem i_M_worst_4 : decode (mb 278) 4 = .ok (.iload_n 2, 1) := by decide +kernel
theorem i_M_worst_5 : decode (mb 278) 5 = .ok (.aload_n 0, 1) := by decide +kernel
theorem i_M_worst_6 : decode (mb 278) 6 = .ok (.getfield 73, 3) := by decide +kernel
theorem i_M_worst_9 : decode (mb 278) 9 = .ok (.if_icmp .ge 33, 3) := by decide +kernel
theorem i_M_worst_12 : decode (mb 278) 12 = .ok (.iload_n 1, 1) := by decide +kernel
theorem i_M_worst_13 : decode (mb 278) 13 = .ok (.iconst (-1), 1) := by decide +kernel
theorem i_M_worst_14 : decode (mb 278) 14 = .ok (.if_icmp .eq 16, 3) := by decide +kernel
theorem i_M_worst_17 : decode (mb 278) 17 = .ok (.aload_n 0, 1) := by decide +kernel
theorem i_M_worst_18 : decode (mb 278) 18 = .ok (.iload_n 2, 1) := by decide +kernel
theorem i_M_worst_19 : decode (mb 278) 19 = .ok (.invokevirtual 319, 3) := by decide +kernel
theorem i_M_worst_22 : decode (mb 278) 22 = .ok (.aload_n 0, 1) := by decide +kernel
theorem i_M_worst_23 : decode (mb 278) 23 = .ok (.iload_n 1, 1) := by decide +kernel
theorem i_M_worst_24 : decode (mb 278) 24 = .ok (.invokevirtual 319, 3) := by decide +kernel
theorem i_M_worst_27 : decode (mb 278) 27 = .ok (.if_icmp .le 7, 3) := by decide +kernel
theorem i_M_worst_30 : decode (mb 278) 30 = .ok (.iload_n 2, 1) := by decide +kernel
theorem i_M_worst_31 : decode (mb 278) 31 = .ok (.goto 4, 3) := by decide +kernel
theorem i_M_worst_34 : decode (mb 278) 34 = .ok (.iload_n 1, 1) := by decide +kernel
theorem i_M_worst_35 : decode (mb 278) 35 = .ok (.istore_n 1, 1) := by decide +kernel
theorem i_M_worst_36 : decode (mb 278) 36 = .ok (.iinc 2 1, 3) := by decide +kernel
theorem i_M_worst_39 : decode (mb 278) 39 = .ok (.goto (-35), 3) := by decide +kernel
theorem i_M_worst_42 : decode (mb 278) 42 = .ok (.iload_n 1, 1) := by decide +kernel
theorem i_M_worst_43 : decode (mb 278) 43 = .ok (.iconst (-1), 1) := by decide +kernel
theorem i_M_worst_44 : decode (mb 278) 44 = .ok (.if_icmp .ne 12, 3) := by decide +kernel
theorem i_M_worst_47 : decode (mb 278) 47 = .ok (.aload_n 0, 1) := by decide +kernel
theorem i_M_worst_48 : decode (mb 278) 48 = .ok (.bipush (-5), 2) := by decide +kernel
theorem i_M_worst_50 : decode (mb 278) 50 = .ok (.invokevirtual 89, 3) := by decide +kernel
theorem i_M_worst_53 : decode (mb 278) 53 = .ok (.goto 4, 3) := by decide +kernel
theorem i_M_worst_56 : decode (mb 278) 56 = .ok (.iload_n 1, 1) := by decide +kernel
theorem i_M_worst_57 : decode (mb 278) 57 = .ok (.ireturn, 1) := by decide +kernel
theorem o_M_hated : (mn 279).cls = "NeedsALoserModel" := by decide +kernel
theorem l_M_hated : ml 279 = 3 := by decide +kernel
theorem t_M_hated : mr 279 = some (FieldType.int) := by decide +kernel
theorem i_M_hated_0 : decode (mb 279) 0 = .ok (.iconst (-1), 1) := by decide +kernel
theorem i_M_hated_1 : decode (mb 279) 1 = .ok (.istore_n 1, 1) := by decide +kernel
theorem i_M_hated_2 : decode (mb 279) 2 = .ok (.iconst 0, 1) := by decide +kernel
theorem i_M_hated_3 : decode (mb 279) 3 = .ok (.istore_n 2, 1) := by decide +kernel
theorem i_M_hated_4 : decode (mb 279) 4 = .ok (.iload_n 2, 1) := by decide +kernel
theorem i_M_hated_5 : decode (mb 279) 5 = .ok (.aload_n 0, 1) := by decide +kernel
theorem i_M_hated_6 : decode (mb 279) 6 = .ok (.getfield 73, 3) := by decide +kernel
theorem i_M_hated_9 : decode (mb 279) 9 = .ok (.if_icmp .ge 33, 3) := by decide +kernel
theorem i_M_hated_12 : decode (mb 279) 12 = .ok (.iload_n 1, 1) := by decide +kernel
theorem i_M_hated_13 : decode (mb 279) 13 = .ok (.iconst (-1), 1) := by decide +kernel
theorem i_M_hated_14 : decode (mb 279) 14 = .ok (.if_icmp .eq 16, 3) := by decide +kernel
theorem i_M_hated_17 : decode (mb 279) 17 = .ok (.aload_n 0, 1) := by decide +kernel
theorem i_M_hated_18 : decode (mb 279) 18 = .ok (.iload_n 2, 1) := by decide +kernel
theorem i_M_hated_19 : decode (mb 279) 19 = .ok (.invokevirtual 322, 3) := by decide +kernel
theorem i_M_hated_22 : decode (mb 279) 22 = .ok (.aload_n 0, 1) := by decide +kernel
theorem i_M_hated_23 : decode (mb 279) 23 = .ok (.iload_n 1, 1) := by decide +kernel
theorem i_M_hated_24 : decode (mb 279) 24 = .ok (.invokevirtual 322, 3) := by decide +kernel
theorem i_M_hated_27 : decode (mb 279) 27 = .ok (.if_icmp .le 7, 3) := by decide +kernel
theorem i_M_hated_30 : decode (mb 279) 30 = .ok (.iload_n 2, 1) := by decide +kernel
theorem i_M_hated_31 : decode (mb 279) 31 = .ok (.goto 4, 3) := by decide +kernel
theorem i_M_hated_34 : decode (mb 279) 34 = .ok (.iload_n 1, 1) := by decide +kernel
theorem i_M_hated_35 : decode (mb 279) 35 = .ok (.istore_n 1, 1) := by decide +kernel
theorem i_M_hated_36 : decode (mb 279) 36 = .ok (.iinc 2 1, 3) := by decide +kernel
theorem i_M_hated_39 : decode (mb 279) 39 = .ok (.goto (-35), 3) := by decide +kernel
theorem i_M_hated_42 : decode (mb 279) 42 = .ok (.iload_n 1, 1) := by decide +kernel
theorem i_M_hated_43 : decode (mb 279) 43 = .ok (.iconst (-1), 1) := by decide +kernel
theorem i_M_hated_44 : decode (mb 279) 44 = .ok (.if_icmp .ne 12, 3) := by decide +kernel
theorem i_M_hated_47 : decode (mb 279) 47 = .ok (.aload_n 0, 1) := by decide +kernel
theorem i_M_hated_48 : decode (mb 279) 48 = .ok (.bipush (-5), 2) := by decide +kernel
theorem i_M_hated_50 : decode (mb 279) 50 = .ok (.invokevirtual 89, 3) := by decide +kernel
theorem i_M_hated_53 : decode (mb 279) 53 = .ok (.goto 4, 3) := by decide +kernel
theorem i_M_hated_56 : decode (mb 279) 56 = .ok (.iload_n 1, 1) := by decide +kernel
theorem i_M_hated_57 : decode (mb 279) 57 = .ok (.ireturn, 1) := by decide +kernel
theorem o_M_hates : (mn 280).cls = "NeedsALoserModel" := by decide +kernel
theorem l_M_hates : ml 280 = 4 := by decide +kernel
theorem t_M_hates : mr 280 = some (FieldType.int) := by decide +kernel
theorem i_M_hates_0 : decode (mb 280) 0 = .ok (.iconst 0, 1) := by decide +kernel
theorem i_M_hates_1 : decode (mb 280) 1 = .ok (.istore_n 2, 1) := by decide +kernel
theorem i_M_hates_2 : decode (mb 280) 2 = .ok (.iconst 0, 1) := by decide +kernel
theorem i_M_hates_3 : decode (mb 280) 3 = .ok (.istore_n 3, 1) := by decide +kernel
theorem i_M_hates_4 : decode (mb 280) 4 = .ok (.iload_n 3, 1) := by decide +kernel
theorem i_M_hates_5 : decode (mb 280) 5 = .ok (.aload_n 0, 1) := by decide +kernel
theorem i_M_hates_6 : decode (mb 280) 6 = .ok (.getfield 80, 3) := by decide +kernel
theorem i_M_hates_9 : decode (mb 280) 9 = .ok (.if_icmp .ge 26, 3) := by decide +kernel
theorem i_M_hates_12 : decode (mb 280) 12 = .ok (.iload_n 2, 1) := by decide +kernel
theorem i_M_hates_13 : decode (mb 280) 13 = .ok (.aload_n 0, 1) := by decide +kernel
theorem i_M_hates_14 : decode (mb 280) 14 = .ok (.iload_n 3, 1) := by decide +kernel
theorem i_M_hates_15 : decode (mb 280) 15 = .ok (.iload_n 1, 1) := by decide +kernel
theorem i_M_hates_16 : decode (mb 280) 16 = .ok (.invokevirtual 243, 3) := by decide +kernel
theorem i_M_hates_19 : decode (mb 280) 19 = .ok (.ifCond .eq 7, 3) := by decide +kernel
theorem i_M_hates_22 : decode (mb 280) 22 = .ok (.iconst 1, 1) := by decide +kernel
theorem i_M_hates_23 : decode (mb 280) 23 = .ok (.goto 4, 3) := by decide +kernel
theorem i_M_hates_26 : decode (mb 280) 26 = .ok (.iconst 0, 1) := by decide +kernel
theorem i_M_hates_27 : decode (mb 280) 27 = .ok (.iadd, 1) := by decide +kernel
theorem i_M_hates_28 : decode (mb 280) 28 = .ok (.istore_n 2, 1) := by decide +kernel
theorem i_M_hates_29 : decode (mb 280) 29 = .ok (.iinc 3 1, 3) := by decide +kernel
theorem i_M_hates_32 : decode (mb 280) 32 = .ok (.goto (-28), 3) := by decide +kernel
theorem i_M_hates_35 : decode (mb 280) 35 = .ok (.iload_n 2, 1) := by decide +kernel
theorem i_M_hates_36 : decode (mb 280) 36 = .ok (.ireturn, 1) := by decide +kernel
theorem o_M_said : (mn 281).cls = "NeedsALoserModel" := by decide +kernel
theorem l_M_said : ml 281 = 3 := by decide +kernel
theorem t_M_said : mr 281 = some (FieldType.int) := by decide +kernel
theorem i_M_said_0 : decode (mb 281) 0 = .ok (.aload_n 0, 1) := by decide +kernel
theorem i_M_said_1 : decode (mb 281) 1 = .ok (.iload_n 1, 1) := by decide +kernel
theorem i_M_said_2 : decode (mb 281) 2 = .ok (.invokevirtual 116, 3) := by decide +kernel
theorem i_M_said_5 : decode (mb 281) 5 = .ok (.ifCond .eq 12, 3) := by decide +kernel
theorem i_M_said_8 : decode (mb 281) 8 = .ok (.aload_n 0, 1) := by decide +kernel
theorem i_M_said_9 : decode (mb 281) 9 = .ok (.iload_n 2, 1) := by decide +kernel
theorem i_M_said_10 : decode (mb 281) 10 = .ok (.i2l, 1) := by decide +kernel
theorem i_M_said_11 : decode (mb 281) 11 = .ok (.invokevirtual 112, 3) := by decide +kernel
theorem i_M_said_14 : decode (mb 281) 14 = .ok (.ifCond .ne 13, 3) := by decide +kernel
theorem i_M_said_17 : decode (mb 281) 17 = .ok (.ldc 239, 2) := by decide +kernel
theorem i_M_said_19 : decode (mb 281) 19 = .ok (.aload_n 0, 1) := by decide +kernel
theorem i_M_said_20 : decode (mb 281) 20 = .ok (.bipush (-2), 2) := by decide +kernel
theorem i_M_said_22 : decode (mb 281) 22 = .ok (.invokevirtual 89, 3) := by decide +kernel
theorem i_M_said_25 : decode (mb 281) 25 = .ok (.iadd, 1) := by decide +kernel
theorem i_M_said_26 : decode (mb 281) 26 = .ok (.ireturn, 1) := by decide +kernel
theorem i_M_said_27 : decode (mb 281) 27 = .ok (.aload_n 0, 1) := by decide +kernel
theorem i_M_said_28 : decode (mb 281) 28 = .ok (.iload_n 1, 1) := by decide +kernel
theorem i_M_said_29 : decode (mb 281) 29 = .ok (.iload_n 2, 1) := by decide +kernel
theorem i_M_said_30 : decode (mb 281) 30 = .ok (.invokevirtual 243, 3) := by decide +kernel
theorem i_M_said_33 : decode (mb 281) 33 = .ok (.ifCond .ne 12, 3) := by decide +kernel
theorem i_M_said_36 : decode (mb 281) 36 = .ok (.aload_n 0, 1) := by decide +kernel
theorem i_M_said_37 : decode (mb 281) 37 = .ok (.iload_n 1, 1) := by decide +kernel
theorem i_M_said_38 : decode (mb 281) 38 = .ok (.iload_n 2, 1) := by decide +kernel
theorem i_M_said_39 : decode (mb 281) 39 = .ok (.invokevirtual 240, 3) := by decide +kernel
theorem i_M_said_42 : decode (mb 281) 42 = .ok (.ifCond .eq 15, 3) := by decide +kernel
theorem i_M_said_45 : decode (mb 281) 45 = .ok (.ldc 239, 2) := by decide +kernel
theorem i_M_said_47 : decode (mb 281) 47 = .ok (.aload_n 0, 1) := by decide +kernel
theorem i_M_said_48 : decode (mb 281) 48 = .ok (.bipush (-5), 2) := by decide +kernel
theorem i_M_said_50 : decode (mb 281) 50 = .ok (.invokevirtual 89, 3) := by decide +kernel
theorem i_M_said_53 : decode (mb 281) 53 = .ok (.iadd, 1) := by decide +kernel
theorem i_M_said_54 : decode (mb 281) 54 = .ok (.goto 15, 3) := by decide +kernel
theorem i_M_said_57 : decode (mb 281) 57 = .ok (.aload_n 0, 1) := by decide +kernel
theorem i_M_said_58 : decode (mb 281) 58 = .ok (.iload_n 1, 1) := by decide +kernel
theorem i_M_said_59 : decode (mb 281) 59 = .ok (.iload_n 2, 1) := by decide +kernel
theorem i_M_said_60 : decode (mb 281) 60 = .ok (.aload_n 0, 1) := by decide +kernel
theorem i_M_said_61 : decode (mb 281) 61 = .ok (.getfield 54, 3) := by decide +kernel
theorem i_M_said_64 : decode (mb 281) 64 = .ok (.iconst 3, 1) := by decide +kernel
theorem i_M_said_65 : decode (mb 281) 65 = .ok (.iaload, 1) := by decide +kernel
theorem i_M_said_66 : decode (mb 281) 66 = .ok (.invokevirtual 325, 3) := by decide +kernel
theorem i_M_said_69 : decode (mb 281) 69 = .ok (.ireturn, 1) := by decide +kernel
theorem o_M_saidBy : (mn 282).cls = "NeedsALoserModel" := by decide +kernel
theorem l_M_saidBy : ml 282 = 4 := by decide +kernel
theorem t_M_saidBy : mr 282 = some (FieldType.int) := by decide +kernel
theorem i_M_saidBy_0 : decode (mb 282) 0 = .ok (.bipush 10, 2) := by decide +kernel
theorem i_M_saidBy_2 : decode (mb 282) 2 = .ok (.aload_n 0, 1) := by decide +kernel
theorem i_M_saidBy_3 : decode (mb 282) 3 = .ok (.getfield 54, 3) := by decide +kernel
theorem i_M_saidBy_6 : decode (mb 282) 6 = .ok (.iconst 2, 1) := by decide +kernel
theorem i_M_saidBy_7 : decode (mb 282) 7 = .ok (.iaload, 1) := by decide +kernel
theorem i_M_saidBy_8 : decode (mb 282) 8 = .ok (.isub, 1) := by decide +kernel
theorem i_M_saidBy_9 : decode (mb 282) 9 = .ok (.aload_n 0, 1) := by decide +kernel
theorem i_M_saidBy_10 : decode (mb 282) 10 = .ok (.iload_n 1, 1) := by decide +kernel
theorem i_M_saidBy_11 : decode (mb 282) 11 = .ok (.iload_n 2, 1) := by decide +kernel
theorem i_M_saidBy_12 : decode (mb 282) 12 = .ok (.invokevirtual 251, 3) := by decide +kernel
theorem i_M_saidBy_15 : decode (mb 282) 15 = .ok (.imul, 1) := by decide +kernel
theorem i_M_saidBy_16 : decode (mb 282) 16 = .ok (.aload_n 0, 1) := by decide +kernel
theorem i_M_saidBy_17 : decode (mb 282) 17 = .ok (.getfield 54, 3) := by decide +kernel
theorem i_M_saidBy_20 : decode (mb 282) 20 = .ok (.iconst 2, 1) := by decide +kernel
theorem i_M_saidBy_21 : decode (mb 282) 21 = .ok (.iaload, 1) := by decide +kernel
theorem i_M_saidBy_22 : decode (mb 282) 22 = .ok (.iload_n 3, 1) := by decide +kernel
theorem i_M_saidBy_23 : decode (mb 282) 23 = .ok (.imul, 1) := by decide +kernel
theorem i_M_saidBy_24 : decode (mb 282) 24 = .ok (.isub, 1) := by decide +kernel
theorem i_M_saidBy_25 : decode (mb 282) 25 = .ok (.ireturn, 1) := by decide +kernel
theorem o_M_dares : (mn 283).cls = "NeedsALoserModel" := by decide +kernel
theorem l_M_dares : ml 283 = 1 := by decide +kernel
theorem t_M_dares : mr 283 = some (FieldType.int) := by decide +kernel
theorem i_M_dares_0 : decode (mb 283) 0 = .ok (.aload_n 0, 1) := by decide +kernel
theorem i_M_dares_1 : decode (mb 283) 1 = .ok (.aload_n 0, 1) := by decide +kernel
theorem i_M_dares_2 : decode (mb 283) 2 = .ok (.getfield 54, 3) := by decide +kernel
theorem i_M_dares_5 : decode (mb 283) 5 = .ok (.iconst 3, 1) := by decide +kernel
theorem i_M_dares_6 : decode (mb 283) 6 = .ok (.iaload, 1) := by decide +kernel
theorem i_M_dares_7 : decode (mb 283) 7 = .ok (.invokevirtual 329, 3) := by decide +kernel
theorem i_M_dares_10 : decode (mb 283) 10 = .ok (.ireturn, 1) := by decide +kernel
theorem o_M_daresBy : (mn 284).cls = "NeedsALoserModel" := by decide +kernel
theorem l_M_daresBy : ml 284 = 5 := by decide +kernel
theorem t_M_daresBy : mr 284 = some (FieldType.int) := by decide +kernel
theorem i_M_daresBy_0 : decode (mb 284) 0 = .ok (.iconst 0, 1) := by decide +kernel
theorem i_M_daresBy_1 : decode (mb 284) 1 = .ok (.istore_n 2, 1) := by decide +kernel
theorem i_M_daresBy_2 : decode (mb 284) 2 = .ok (.iconst 0, 1) := by decide +kernel
theorem i_M_daresBy_3 : decode (mb 284) 3 = .ok (.istore_n 3, 1) := by decide +kernel
theorem i_M_daresBy_4 : decode (mb 284) 4 = .ok (.iload_n 3, 1) := by decide +kernel
theorem i_M_daresBy_5 : decode (mb 284) 5 = .ok (.aload_n 0, 1) := by decide +kernel
theorem i_M_daresBy_6 : decode (mb 284) 6 = .ok (.getfield 80, 3) := by decide +kernel
theorem i_M_daresBy_9 : decode (mb 284) 9 = .ok (.if_icmp .ge 66, 3) := by decide +kernel
theorem i_M_daresBy_12 : decode (mb 284) 12 = .ok (.iconst 0, 1) := by decide +kernel
theorem i_M_daresBy_13 : decode (mb 284) 13 = .ok (.istore 4, 2) := by decide +kernel
theorem i_M_daresBy_15 : decode (mb 284) 15 = .ok (.iload 4, 2) := by decide +kernel
theorem i_M_daresBy_17 : decode (mb 284) 17 = .ok (.aload_n 0, 1) := by decide +kernel
theorem i_M_daresBy_18 : decode (mb 284) 18 = .ok (.getfield 73, 3) := by decide +kernel
theorem i_M_daresBy_21 : decode (mb 284) 21 = .ok (.if_icmp .ge 48, 3) := by decide +kernel
theorem i_M_daresBy_24 : decode (mb 284) 24 = .ok (.iload_n 2, 1) := by decide +kernel
theorem i_M_daresBy_25 : decode (mb 284) 25 = .ok (.aload_n 0, 1) := by decide +kernel
theorem i_M_daresBy_26 : decode (mb 284) 26 = .ok (.iload_n 3, 1) := by decide +kernel
theorem i_M_daresBy_27 : decode (mb 284) 27 = .ok (.iload 4, 2) := by decide +kernel
theorem i_M_daresBy_29 : decode (mb 284) 29 = .ok (.invokevirtual 243, 3) := by decide +kernel
theorem i_M_daresBy_32 : decode (mb 284) 32 = .ok (.ifCond .ne 28, 3) := by decide +kernel
theorem i_M_daresBy_35 : decode (mb 284) 35 = .ok (.aload_n 0, 1) := by decide +kernel
theorem i_M_daresBy_36 : decode (mb 284) 36 = .ok (.iload_n 3, 1) := by decide +kernel
theorem i_M_daresBy_37 : decode (mb 284) 37 = .ok (.iload 4, 2) := by decide +kernel
theorem i_M_daresBy_39 : decode (mb 284) 39 = .ok (.invokevirtual 240, 3) := by decide +kernel
theorem i_M_daresBy_42 : decode (mb 284) 42 = .ok (.ifCond .ne 18, 3) := by decide +kernel
theorem i_M_daresBy_45 : decode (mb 284) 45 = .ok (.aload_n 0, 1) := by decide +kernel
theorem i_M_daresBy_46 : decode (mb 284) 46 = .ok (.iload_n 3, 1) := by decide +kernel
theorem i_M_daresBy_47 : decode (mb 284) 47 = .ok (.iload 4, 2) := by decide +kernel
theorem i_M_daresBy_49 : decode (mb 284) 49 = .ok (.iload_n 1, 1) := by decide +kernel
theorem i_M_daresBy_50 : decode (mb 284) 50 = .ok (.invokevirtual 325, 3) := by decide +kernel
theorem i_M_daresBy_53 : decode (mb 284) 53 = .ok (.ifCond .le 7, 3) := by decide +kernel
theorem i_M_daresBy_56 : decode (mb 284) 56 = .ok (.iconst 1, 1) := by decide +kernel
theorem i_M_daresBy_57 : decode (mb 284) 57 = .ok (.goto 4, 3) := by decide +kernel
theorem i_M_daresBy_60 : decode (mb 284) 60 = .ok (.iconst 0, 1) := by decide +kernel
theorem i_M_daresBy_61 : decode (mb 284) 61 = .ok (.iadd, 1) := by decide +kernel
theorem i_M_daresBy_62 : decode (mb 284) 62 = .ok (.istore_n 2, 1) := by decide +kernel
theorem i_M_daresBy_63 : decode (mb 284) 63 = .ok (.iinc 4 1, 3) := by decide +kernel
theorem i_M_daresBy_66 : decode (mb 284) 66 = .ok (.goto (-51), 3) := by decide +kernel
theorem i_M_daresBy_69 : decode (mb 284) 69 = .ok (.iinc 3 1, 3) := by decide +kernel
theorem i_M_daresBy_72 : decode (mb 284) 72 = .ok (.goto (-68), 3) := by decide +kernel
theorem i_M_daresBy_75 : decode (mb 284) 75 = .ok (.iload_n 2, 1) := by decide +kernel
theorem i_M_daresBy_76 : decode (mb 284) 76 = .ok (.ireturn, 1) := by decide +kernel
theorem o_M_deters : (mn 285).cls = "NeedsALoserModel" := by decide +kernel
theorem l_M_deters : ml 285 = 2 := by decide +kernel
theorem t_M_deters : mr 285 = some (FieldType.int) := by decide +kernel
theorem i_M_deters_0 : decode (mb 285) 0 = .ok (.iconst 0, 1) := by decide +kernel
theorem i_M_deters_1 : decode (mb 285) 1 = .ok (.istore_n 1, 1) := by decide +kernel
theorem i_M_deters_2 : decode (mb 285) 2 = .ok (.iload_n 1, 1) := by decide +kernel
theorem i_M_deters_3 : decode (mb 285) 3 = .ok (.sipush 999, 3) := by decide +kernel
theorem i_M_deters_6 : decode (mb 285) 6 = .ok (.if_icmp .gt 19, 3) := by decide +kernel
theorem i_M_deters_9 : decode (mb 285) 9 = .ok (.aload_n 0, 1) := by decide +kernel
theorem i_M_deters_10 : decode (mb 285) 10 = .ok (.iload_n 1, 1) := by decide +kernel
theorem i_M_deters_11 : decode (mb 285) 11 = .ok (.invokevirtual 329, 3) := by decide +kernel
theorem i_M_deters_14 : decode (mb 285) 14 = .ok (.ifCond .ne 5, 3) := by decide +kernel
theorem i_M_deters_17 : decode (mb 285) 17 = .ok (.iload_n 1, 1) := by decide +kernel
theorem i_M_deters_18 : decode (mb 285) 18 = .ok (.ireturn, 1) := by decide +kernel
theorem i_M_deters_19 : decode (mb 285) 19 = .ok (.iinc 1 1, 3) := by decide +kernel
theorem i_M_deters_22 : decode (mb 285) 22 = .ok (.goto (-20), 3) := by decide +kernel
theorem i_M_deters_25 : decode (mb 285) 25 = .ok (.iconst (-1), 1) := by decide +kernel
theorem i_M_deters_26 : decode (mb 285) 26 = .ok (.ireturn, 1) := by decide +kernel
theorem o_M_under : (mn 286).cls = "NeedsALoserModel" := by decide +kernel
theorem l_M_under : ml 286 = 2 := by decide +kernel
theorem t_M_under : mr 286 = some (FieldType.int) := by decide +kernel
theorem i_M_under_0 : decode (mb 286) 0 = .ok (.iload_n 1, 1) := by decide +kernel
theorem i_M_under_1 : decode (mb 286) 1 = .ok (.i2l, 1) := by decide +kernel
theorem i_M_under_2 : decode (mb 286) 2 = .ok (.lconst 1, 1) := by decide +kernel
theorem i_M_under_3 : decode (mb 286) 3 = .ok (.ldc2_w 102, 3) := by decide +kernel
theorem i_M_under_6 : decode (mb 286) 6 = .ok (.invokestatic 76, 3) := by decide +kernel
theorem i_M_under_9 : decode (mb 286) 9 = .ok (.ifCond .eq 11, 3) := by decide +kernel
theorem i_M_under_12 : decode (mb 286) 12 = .ok (.aload_n 0, 1) := by decide +kernel
theorem i_M_under_13 : decode (mb 286) 13 = .ok (.iload_n 1, 1) := by decide +kernel
theorem i_M_under_14 : decode (mb 286) 14 = .ok (.invokevirtual 332, 3) := by decide +kernel
theorem i_M_under_17 : decode (mb 286) 17 = .ok (.goto 9, 3) := by decide +kernel
theorem i_M_under_20 : decode (mb 286) 20 = .ok (.aload_n 0, 1) := by decide +kernel
theorem i_M_under_21 : decode (mb 286) 21 = .ok (.bipush (-2), 2) := by decide +kernel
theorem i_M_under_23 : decode (mb 286) 23 = .ok (.invokevirtual 89, 3) := by decide +kernel
theorem i_M_under_26 : decode (mb 286) 26 = .ok (.ireturn, 1) := by decide +kernel
theorem o_M_underOf : (mn 287).cls = "NeedsALoserModel" := by decide +kernel
theorem l_M_underOf : ml 287 = 4 := by decide +kernel
theorem t_M_underOf : mr 287 = some (FieldType.int) := by decide +kernel
theorem i_M_underOf_0 : decode (mb 287) 0 = .ok (.aload_n 0, 1) := by decide +kernel
theorem i_M_underOf_1 : decode (mb 287) 1 = .ok (.getfield 54, 3) := by decide +kernel
theorem i_M_underOf_4 : decode (mb 287) 4 = .ok (.iconst 0, 1) := by decide +kernel
theorem i_M_underOf_5 : decode (mb 287) 5 = .ok (.iaload, 1) := by decide +kernel
theorem i_M_underOf_6 : decode (mb 287) 6 = .ok (.istore_n 2, 1) := by decide +kernel
theorem i_M_underOf_7 : decode (mb 287) 7 = .ok (.aload_n 0, 1) := by decide +kernel
theorem i_M_underOf_8 : decode (mb 287) 8 = .ok (.getfield 54, 3) := by decide +kernel
theorem i_M_underOf_11 : decode (mb 287) 11 = .ok (.iconst 0, 1) := by decide +kernel
theorem i_M_underOf_12 : decode (mb 287) 12 = .ok (.iload_n 1, 1) := by decide +kernel
theorem i_M_underOf_13 : decode (mb 287) 13 = .ok (.iastore, 1) := by decide +kernel
theorem i_M_underOf_14 : decode (mb 287) 14 = .ok (.aload_n 0, 1) := by decide +kernel
theorem i_M_underOf_15 : decode (mb 287) 15 = .ok (.aload_n 0, 1) := by decide +kernel
theorem i_M_underOf_16 : decode (mb 287) 16 = .ok (.invokevirtual 298, 3) := by decide +kernel
theorem i_M_underOf_19 : decode (mb 287) 19 = .ok (.invokevirtual 301, 3) := by decide +kernel
theorem i_M_underOf_22 : decode (mb 287) 22 = .ok (.istore_n 3, 1) := by decide +kernel
theorem i_M_underOf_23 : decode (mb 287) 23 = .ok (.aload_n 0, 1) := by decide +kernel
theorem i_M_underOf_24 : decode (mb 287) 24 = .ok (.getfield 54, 3) := by decide +kernel
theorem i_M_underOf_27 : decode (mb 287) 27 = .ok (.iconst 0, 1) := by decide +kernel
theorem i_M_underOf_28 : decode (mb 287) 28 = .ok (.iload_n 2, 1) := by decide +kernel
theorem i_M_underOf_29 : decode (mb 287) 29 = .ok (.iastore, 1) := by decide +kernel
theorem i_M_underOf_30 : decode (mb 287) 30 = .ok (.iload_n 3, 1) := by decide +kernel
theorem i_M_underOf_31 : decode (mb 287) 31 = .ok (.ireturn, 1) := by decide +kernel
theorem o_M_bestLaw : (mn 288).cls = "NeedsALoserModel" := by decide +kernel
theorem l_M_bestLaw : ml 288 = 3 := by decide +kernel
theorem t_M_bestLaw : mr 288 = some (FieldType.int) := by decide +kernel
theorem i_M_bestLaw_0 : decode (mb 288) 0 = .ok (.iconst 1, 1) := by decide +kernel
theorem i_M_bestLaw_1 : decode (mb 288) 1 = .ok (.istore_n 1, 1) := by decide +kernel
theorem i_M_bestLaw_2 : decode (mb 288) 2 = .ok (.iconst 2, 1) := by decide +kernel
theorem i_M_bestLaw_3 : decode (mb 288) 3 = .ok (.istore_n 2, 1) := by decide +kernel
theorem i_M_bestLaw_4 : decode (mb 288) 4 = .ok (.iload_n 2, 1) := by decide +kernel
theorem i_M_bestLaw_5 : decode (mb 288) 5 = .ok (.bipush 20, 2) := by decide +kernel
theorem i_M_bestLaw_7 : decode (mb 288) 7 = .ok (.if_icmp .gt 28, 3) := by decide +kernel
theorem i_M_bestLaw_10 : decode (mb 288) 10 = .ok (.aload_n 0, 1) := by decide +kernel
theorem i_M_bestLaw_11 : decode (mb 288) 11 = .ok (.iload_n 2, 1) := by decide +kernel
theorem i_M_bestLaw_12 : decode (mb 288) 12 = .ok (.invokevirtual 332, 3) := by decide +kernel
theorem i_M_bestLaw_15 : decode (mb 288) 15 = .ok (.aload_n 0, 1) := by decide +kernel
theorem i_M_bestLaw_16 : decode (mb 288) 16 = .ok (.iload_n 1, 1) := by decide +kernel
theorem i_M_bestLaw_17 : decode (mb 288) 17 = .ok (.invokevirtual 332, 3) := by decide +kernel
theorem i_M_bestLaw_20 : decode (mb 288) 20 = .ok (.if_icmp .le 7, 3) := by decide +kernel
theorem i_M_bestLaw_23 : decode (mb 288) 23 = .ok (.iload_n 2, 1) := by decide +kernel
theorem i_M_bestLaw_24 : decode (mb 288) 24 = .ok (.goto 4, 3) := by decide +kernel
theorem i_M_bestLaw_27 : decode (mb 288) 27 = .ok (.iload_n 1, 1) := by decide +kernel
theorem i_M_bestLaw_28 : decode (mb 288) 28 = .ok (.istore_n 1, 1) := by decide +kernel
theorem i_M_bestLaw_29 : decode (mb 288) 29 = .ok (.iinc 2 1, 3) := by decide +kernel
theorem i_M_bestLaw_32 : decode (mb 288) 32 = .ok (.goto (-28), 3) := by decide +kernel
theorem i_M_bestLaw_35 : decode (mb 288) 35 = .ok (.iload_n 1, 1) := by decide +kernel
theorem i_M_bestLaw_36 : decode (mb 288) 36 = .ok (.ireturn, 1) := by decide +kernel
theorem o_M_hiding : (mn 289).cls = "NeedsALoserModel" := by decide +kernel
theorem l_M_hiding : ml 289 = 6 := by decide +kernel
theorem t_M_hiding : mr 289 = some (FieldType.int) := by decide +kernel
theorem i_M_hiding_0 : decode (mb 289) 0 = .ok (.aload_n 0, 1) := by decide +kernel
theorem i_M_hiding_1 : decode (mb 289) 1 = .ok (.iload_n 1, 1) := by decide +kernel
theorem i_M_hiding_2 : decode (mb 289) 2 = .ok (.invokevirtual 116, 3) := by decide +kernel
theorem i_M_hiding_5 : decode (mb 289) 5 = .ok (.ifCond .eq 12, 3) := by decide +kernel
theorem i_M_hiding_8 : decode (mb 289) 8 = .ok (.aload_n 0, 1) := by decide +kernel
theorem i_M_hiding_9 : decode (mb 289) 9 = .ok (.iload_n 2, 1) := by decide +kernel
theorem i_M_hiding_10 : decode (mb 289) 10 = .ok (.i2l, 1) := by decide +kernel
theorem i_M_hiding_11 : decode (mb 289) 11 = .ok (.invokevirtual 112, 3) := by decide +kernel
theorem i_M_hiding_14 : decode (mb 289) 14 = .ok (.ifCond .ne 10, 3) := by decide +kernel
theorem i_M_hiding_17 : decode (mb 289) 17 = .ok (.aload_n 0, 1) := by decide +kernel
theorem i_M_hiding_18 : decode (mb 289) 18 = .ok (.bipush (-2), 2) := by decide +kernel
theorem i_M_hiding_20 : decode (mb 289) 20 = .ok (.invokevirtual 89, 3) := by decide +kernel
theorem i_M_hiding_23 : decode (mb 289) 23 = .ok (.ireturn, 1) := by decide +kernel
theorem i_M_hiding_24 : decode (mb 289) 24 = .ok (.aload_n 0, 1) := by decide +kernel
theorem i_M_hiding_25 : decode (mb 289) 25 = .ok (.iload_n 1, 1) := by decide +kernel
theorem i_M_hiding_26 : decode (mb 289) 26 = .ok (.iload_n 2, 1) := by decide +kernel
theorem i_M_hiding_27 : decode (mb 289) 27 = .ok (.invokevirtual 240, 3) := by decide +kernel
theorem i_M_hiding_30 : decode (mb 289) 30 = .ok (.ifCond .eq 10, 3) := by decide +kernel
theorem i_M_hiding_33 : decode (mb 289) 33 = .ok (.aload_n 0, 1) := by decide +kernel
theorem i_M_hiding_34 : decode (mb 289) 34 = .ok (.bipush (-5), 2) := by decide +kernel
theorem i_M_hiding_36 : decode (mb 289) 36 = .ok (.invokevirtual 89, 3) := by decide +kernel
theorem i_M_hiding_39 : decode (mb 289) 39 = .ok (.ireturn, 1) := by decide +kernel
theorem i_M_hiding_40 : decode (mb 289) 40 = .ok (.aload_n 0, 1) := by decide +kernel
theorem i_M_hiding_41 : decode (mb 289) 41 = .ok (.aload_n 0, 1) := by decide +kernel
theorem i_M_hiding_42 : decode (mb 289) 42 = .ok (.invokevirtual 298, 3) := by decide +kernel
theorem i_M_hiding_45 : decode (mb 289) 45 = .ok (.invokevirtual 301, 3) := by decide +kernel
theorem i_M_hiding_48 : decode (mb 289) 48 = .ok (.istore_n 3, 1) := by decide +kernel
theorem i_M_hiding_49 : decode (mb 289) 49 = .ok (.aload_n 0, 1) := by decide +kernel
theorem i_M_hiding_50 : decode (mb 289) 50 = .ok (.getfield 51, 3) := by decide +kernel
theorem i_M_hiding_53 : decode (mb 289) 53 = .ok (.iload_n 1, 1) := by decide +kernel
theorem i_M_hiding_54 : decode (mb 289) 54 = .ok (.aaload, 1) := by decide +kernel
theorem i_M_hiding_55 : decode (mb 289) 55 = .ok (.iload_n 2, 1) := by decide +kernel
theorem i_M_hiding_56 : decode (mb 289) 56 = .ok (.iaload, 1) := by decide +kernel
theorem i_M_hiding_57 : decode (mb 289) 57 = .ok (.istore 4, 2) := by decide +kernel
theorem i_M_hiding_59 : decode (mb 289) 59 = .ok (.aload_n 0, 1) := by decide +kernel
theorem i_M_hiding_60 : decode (mb 289) 60 = .ok (.getfield 51, 3) := by decide +kernel
theorem i_M_hiding_63 : decode (mb 289) 63 = .ok (.iload_n 1, 1) := by decide +kernel
theorem i_M_hiding_64 : decode (mb 289) 64 = .ok (.aaload, 1) := by decide +kernel
theorem i_M_hiding_65 : decode (mb 289) 65 = .ok (.iload_n 2, 1) := by decide +kernel
theorem i_M_hiding_66 : decode (mb 289) 66 = .ok (.aload_n 0, 1) := by decide +kernel
theorem i_M_hiding_67 : decode (mb 289) 67 = .ok (.getfield 54, 3) := by decide +kernel
theorem i_M_hiding_70 : decode (mb 289) 70 = .ok (.iconst 0, 1) := by decide +kernel
theorem i_M_hiding_71 : decode (mb 289) 71 = .ok (.iaload, 1) := by decide +kernel
theorem i_M_hiding_72 : decode (mb 289) 72 = .ok (.iastore, 1) := by decide +kernel
theorem i_M_hiding_73 : decode (mb 289) 73 = .ok (.aload_n 0, 1) := by decide +kernel
theorem i_M_hiding_74 : decode (mb 289) 74 = .ok (.aload_n 0, 1) := by decide +kernel
theorem i_M_hiding_75 : decode (mb 289) 75 = .ok (.invokevirtual 298, 3) := by decide +kernel
theorem i_M_hiding_78 : decode (mb 289) 78 = .ok (.invokevirtual 301, 3) := by decide +kernel
theorem i_M_hiding_81 : decode (mb 289) 81 = .ok (.istore 5, 2) := by decide +kernel
theorem i_M_hiding_83 : decode (mb 289) 83 = .ok (.aload_n 0, 1) := by decide +kernel
theorem i_M_hiding_84 : decode (mb 289) 84 = .ok (.getfield 51, 3) := by decide +kernel
theorem i_M_hiding_87 : decode (mb 289) 87 = .ok (.iload_n 1, 1) := by decide +kernel
theorem i_M_hiding_88 : decode (mb 289) 88 = .ok (.aaload, 1) := by decide +kernel
theorem i_M_hiding_89 : decode (mb 289) 89 = .ok (.iload_n 2, 1) := by decide +kernel
theorem i_M_hiding_90 : decode (mb 289) 90 = .ok (.iload 4, 2) := by decide +kernel
theorem i_M_hiding_92 : decode (mb 289) 92 = .ok (.iastore, 1) := by decide +kernel
theorem i_M_hiding_93 : decode (mb 289) 93 = .ok (.iload 5, 2) := by decide +kernel
theorem i_M_hiding_95 : decode (mb 289) 95 = .ok (.iload_n 3, 1) := by decide +kernel
theorem i_M_hiding_96 : decode (mb 289) 96 = .ok (.isub, 1) := by decide +kernel
theorem i_M_hiding_97 : decode (mb 289) 97 = .ok (.ireturn, 1) := by decide +kernel
theorem o_M_week : (mn 290).cls = "NeedsALoserModel" := by decide +kernel
theorem l_M_week : ml 290 = 1 := by decide +kernel
theorem t_M_week : mr 290 = some (FieldType.int) := by decide +kernel
theorem i_M_week_0 : decode (mb 290) 0 = .ok (.aload_n 0, 1) := by decide +kernel
theorem i_M_week_1 : decode (mb 290) 1 = .ok (.invokevirtual 339, 3) := by decide +kernel
theorem i_M_week_4 : decode (mb 290) 4 = .ok (.ireturn, 1) := by decide +kernel
theorem o_M_weekByDraws : (mn 291).cls = "NeedsALoserModel" := by decide +kernel
theorem l_M_weekByDraws : ml 291 = 7 := by decide +kernel
theorem t_M_weekByDraws : mr 291 = some (FieldType.int) := by decide +kernel
theorem i_M_weekByDraws_0 : decode (mb 291) 0 = .ok (.iconst 0, 1) := by decide +kernel
theorem i_M_weekByDraws_1 : decode (mb 291) 1 = .ok (.istore_n 1, 1) := by decide +kernel
theorem i_M_weekByDraws_2 : decode (mb 291) 2 = .ok (.iconst 0, 1) := by decide +kernel
theorem i_M_weekByDraws_3 : decode (mb 291) 3 = .ok (.istore_n 2, 1) := by decide +kernel
theorem i_M_weekByDraws_4 : decode (mb 291) 4 = .ok (.iconst 0, 1) := by decide +kernel
theorem i_M_weekByDraws_5 : decode (mb 291) 5 = .ok (.istore_n 3, 1) := by decide +kernel
theorem i_M_weekByDraws_6 : decode (mb 291) 6 = .ok (.iload_n 3, 1) := by decide +kernel
theorem i_M_weekByDraws_7 : decode (mb 291) 7 = .ok (.aload_n 0, 1) := by decide +kernel
theorem i_M_weekByDraws_8 : decode (mb 291) 8 = .ok (.getfield 80, 3) := by decide +kernel
theorem i_M_weekByDraws_11 : decode (mb 291) 11 = .ok (.if_icmp .ge 151, 3) := by decide +kernel
theorem i_M_weekByDraws_14 : decode (mb 291) 14 = .ok (.iconst 0, 1) := by decide +kernel
theorem i_M_weekByDraws_15 : decode (mb 291) 15 = .ok (.istore 4, 2) := by decide +kernel
theorem i_M_weekByDraws_17 : decode (mb 291) 17 = .ok (.iconst 0, 1) := by decide +kernel
theorem i_M_weekByDraws_18 : decode (mb 291) 18 = .ok (.istore 5, 2) := by decide +kernel
theorem i_M_weekByDraws_20 : decode (mb 291) 20 = .ok (.iload 5, 2) := by decide +kernel
theorem i_M_weekByDraws_22 : decode (mb 291) 22 = .ok (.aload_n 0, 1) := by decide +kernel
theorem i_M_weekByDraws_23 : decode (mb 291) 23 = .ok (.getfield 73, 3) := by decide +kernel
theorem i_M_weekByDraws_26 : decode (mb 291) 26 = .ok (.if_icmp .ge 30, 3) := by decide +kernel
theorem i_M_weekByDraws_29 : decode (mb 291) 29 = .ok (.iload 4, 2) := by decide +kernel
theorem i_M_weekByDraws_31 : decode (mb 291) 31 = .ok (.aload_n 0, 1) := by decide +kernel
theorem i_M_weekByDraws_32 : decode (mb 291) 32 = .ok (.iload_n 3, 1) := by decide +kernel
theorem i_M_weekByDraws_33 : decode (mb 291) 33 = .ok (.iload 5, 2) := by decide +kernel
theorem i_M_weekByDraws_35 : decode (mb 291) 35 = .ok (.iload_n 2, 1) := by decide +kernel
theorem i_M_weekByDraws_36 : decode (mb 291) 36 = .ok (.invokevirtual 255, 3) := by decide +kernel
theorem i_M_weekByDraws_39 : decode (mb 291) 39 = .ok (.ifCond .eq 7, 3) := by decide +kernel
theorem i_M_weekByDraws_42 : decode (mb 291) 42 = .ok (.iconst 1, 1) := by decide +kernel
theorem i_M_weekByDraws_43 : decode (mb 291) 43 = .ok (.goto 4, 3) := by decide +kernel
theorem i_M_weekByDraws_46 : decode (mb 291) 46 = .ok (.iconst 0, 1) := by decide +kernel
theorem i_M_weekByDraws_47 : decode (mb 291) 47 = .ok (.iadd, 1) := by decide +kernel
theorem i_M_weekByDraws_48 : decode (mb 291) 48 = .ok (.istore 4, 2) := by decide +kernel
theorem i_M_weekByDraws_50 : decode (mb 291) 50 = .ok (.iinc 5 1, 3) := by decide +kernel
theorem i_M_weekByDraws_53 : decode (mb 291) 53 = .ok (.goto (-33), 3) := by decide +kernel
theorem i_M_weekByDraws_56 : decode (mb 291) 56 = .ok (.aload_n 0, 1) := by decide +kernel
theorem i_M_weekByDraws_57 : decode (mb 291) 57 = .ok (.getfield 64, 3) := by decide +kernel
theorem i_M_weekByDraws_60 : decode (mb 291) 60 = .ok (.iload_n 3, 1) := by decide +kernel
theorem i_M_weekByDraws_61 : decode (mb 291) 61 = .ok (.iconst (-1), 1) := by decide +kernel
theorem i_M_weekByDraws_62 : decode (mb 291) 62 = .ok (.iastore, 1) := by decide +kernel
theorem i_M_weekByDraws_63 : decode (mb 291) 63 = .ok (.iload 4, 2) := by decide +kernel
theorem i_M_weekByDraws_65 : decode (mb 291) 65 = .ok (.ifCond .le 91, 3) := by decide +kernel
theorem i_M_weekByDraws_68 : decode (mb 291) 68 = .ok (.aload_n 0, 1) := by decide +kernel
theorem i_M_weekByDraws_69 : decode (mb 291) 69 = .ok (.getfield 48, 3) := by decide +kernel
theorem i_M_weekByDraws_72 : decode (mb 291) 72 = .ok (.iload_n 3, 1) := by decide +kernel
theorem i_M_weekByDraws_73 : decode (mb 291) 73 = .ok (.aaload, 1) := by decide +kernel
theorem i_M_weekByDraws_74 : decode (mb 291) 74 = .ok (.iconst 4, 1) := by decide +kernel
theorem i_M_weekByDraws_75 : decode (mb 291) 75 = .ok (.iaload, 1) := by decide +kernel
theorem i_M_weekByDraws_76 : decode (mb 291) 76 = .ok (.iload_n 1, 1) := by decide +kernel
theorem i_M_weekByDraws_77 : decode (mb 291) 77 = .ok (.iand, 1) := by decide +kernel
theorem i_M_weekByDraws_78 : decode (mb 291) 78 = .ok (.ifCond .ne 78, 3) := by decide +kernel
theorem i_M_weekByDraws_81 : decode (mb 291) 81 = .ok (.aload_n 0, 1) := by decide +kernel
theorem i_M_weekByDraws_82 : decode (mb 291) 82 = .ok (.iload 4, 2) := by decide +kernel
theorem i_M_weekByDraws_84 : decode (mb 291) 84 = .ok (.invokevirtual 336, 3) := by decide +kernel
theorem i_M_weekByDraws_87 : decode (mb 291) 87 = .ok (.istore 5, 2) := by decide +kernel
theorem i_M_weekByDraws_89 : decode (mb 291) 89 = .ok (.iconst 0, 1) := by decide +kernel
theorem i_M_weekByDraws_90 : decode (mb 291) 90 = .ok (.istore 6, 2) := by decide +kernel
theorem i_M_weekByDraws_92 : decode (mb 291) 92 = .ok (.aload_n 0, 1) := by decide +kernel
theorem i_M_weekByDraws_93 : decode (mb 291) 93 = .ok (.iload_n 3, 1) := by decide +kernel
theorem i_M_weekByDraws_94 : decode (mb 291) 94 = .ok (.iload 6, 2) := by decide +kernel
theorem i_M_weekByDraws_96 : decode (mb 291) 96 = .ok (.iload_n 2, 1) := by decide +kernel
theorem i_M_weekByDraws_97 : decode (mb 291) 97 = .ok (.invokevirtual 255, 3) := by decide +kernel
theorem i_M_weekByDraws_100 : decode (mb 291) 100 = .ok (.ifCond .eq 8, 3) := by decide +kernel
theorem i_M_weekByDraws_103 : decode (mb 291) 103 = .ok (.iload 5, 2) := by decide +kernel
theorem i_M_weekByDraws_105 : decode (mb 291) 105 = .ok (.ifCond .le 30, 3) := by decide +kernel
theorem i_M_weekByDraws_108 : decode (mb 291) 108 = .ok (.iload 5, 2) := by decide +kernel
theorem i_M_weekByDraws_110 : decode (mb 291) 110 = .ok (.aload_n 0, 1) := by decide +kernel
theorem i_M_weekByDraws_111 : decode (mb 291) 111 = .ok (.iload_n 3, 1) := by decide +kernel
theorem i_M_weekByDraws_112 : decode (mb 291) 112 = .ok (.iload 6, 2) := by decide +kernel
theorem i_M_weekByDraws_114 : decode (mb 291) 114 = .ok (.iload_n 2, 1) := by decide +kernel
theorem i_M_weekByDraws_115 : decode (mb 291) 115 = .ok (.invokevirtual 255, 3) := by decide +kernel
theorem i_M_weekByDraws_118 : decode (mb 291) 118 = .ok (.ifCond .eq 7, 3) := by decide +kernel
theorem i_M_weekByDraws_121 : decode (mb 291) 121 = .ok (.iconst 1, 1) := by decide +kernel
theorem i_M_weekByDraws_122 : decode (mb 291) 122 = .ok (.goto 4, 3) := by decide +kernel
theorem i_M_weekByDraws_125 : decode (mb 291) 125 = .ok (.iconst 0, 1) := by decide +kernel
theorem i_M_weekByDraws_126 : decode (mb 291) 126 = .ok (.isub, 1) := by decide +kernel
theorem i_M_weekByDraws_127 : decode (mb 291) 127 = .ok (.istore 5, 2) := by decide +kernel
theorem i_M_weekByDraws_129 : decode (mb 291) 129 = .ok (.iinc 6 1, 3) := by decide +kernel
theorem i_M_weekByDraws_132 : decode (mb 291) 132 = .ok (.goto (-40), 3) := by decide +kernel
theorem i_M_weekByDraws_135 : decode (mb 291) 135 = .ok (.aload_n 0, 1) := by decide +kernel
theorem i_M_weekByDraws_136 : decode (mb 291) 136 = .ok (.getfield 64, 3) := by decide +kernel
theorem i_M_weekByDraws_139 : decode (mb 291) 139 = .ok (.iload_n 3, 1) := by decide +kernel
theorem i_M_weekByDraws_140 : decode (mb 291) 140 = .ok (.iload 6, 2) := by decide +kernel
theorem i_M_weekByDraws_142 : decode (mb 291) 142 = .ok (.iastore, 1) := by decide +kernel
theorem i_M_weekByDraws_143 : decode (mb 291) 143 = .ok (.iload_n 1, 1) := by decide +kernel
theorem i_M_weekByDraws_144 : decode (mb 291) 144 = .ok (.iconst 1, 1) := by decide +kernel
theorem i_M_weekByDraws_145 : decode (mb 291) 145 = .ok (.iload_n 3, 1) := by decide +kernel
theorem i_M_weekByDraws_146 : decode (mb 291) 146 = .ok (.ishl, 1) := by decide +kernel
theorem i_M_weekByDraws_147 : decode (mb 291) 147 = .ok (.ior, 1) := by decide +kernel
theorem i_M_weekByDraws_148 : decode (mb 291) 148 = .ok (.istore_n 1, 1) := by decide +kernel
theorem i_M_weekByDraws_149 : decode (mb 291) 149 = .ok (.iload_n 2, 1) := by decide +kernel
theorem i_M_weekByDraws_150 : decode (mb 291) 150 = .ok (.iconst 1, 1) := by decide +kernel
theorem i_M_weekByDraws_151 : decode (mb 291) 151 = .ok (.iload 6, 2) := by decide +kernel
theorem i_M_weekByDraws_153 : decode (mb 291) 153 = .ok (.ishl, 1) := by decide +kernel
theorem i_M_weekByDraws_154 : decode (mb 291) 154 = .ok (.ior, 1) := by decide +kernel
theorem i_M_weekByDraws_155 : decode (mb 291) 155 = .ok (.istore_n 2, 1) := by decide +kernel
theorem i_M_weekByDraws_156 : decode (mb 291) 156 = .ok (.iinc 3 1, 3) := by decide +kernel
theorem i_M_weekByDraws_159 : decode (mb 291) 159 = .ok (.goto (-153), 3) := by decide +kernel
theorem i_M_weekByDraws_162 : decode (mb 291) 162 = .ok (.aload_n 0, 1) := by decide +kernel
theorem i_M_weekByDraws_163 : decode (mb 291) 163 = .ok (.invokevirtual 285, 3) := by decide +kernel
theorem i_M_weekByDraws_166 : decode (mb 291) 166 = .ok (.ireturn, 1) := by decide +kernel
theorem o_M_draw : (mn 292).cls = "NeedsALoserModel" := by decide +kernel
theorem l_M_draw : ml 292 = 2 := by decide +kernel
theorem t_M_draw : mr 292 = some (FieldType.int) := by decide +kernel
theorem i_M_draw_0 : decode (mb 292) 0 = .ok (.aload_n 0, 1) := by decide +kernel
theorem i_M_draw_1 : decode (mb 292) 1 = .ok (.aload_n 0, 1) := by decide +kernel
theorem i_M_draw_2 : decode (mb 292) 2 = .ok (.getfield 57, 3) := by decide +kernel
theorem i_M_draw_5 : decode (mb 292) 5 = .ok (.ldc_w 335, 3) := by decide +kernel
theorem i_M_draw_8 : decode (mb 292) 8 = .ok (.imul, 1) := by decide +kernel
theorem i_M_draw_9 : decode (mb 292) 9 = .ok (.sipush 12345, 3) := by decide +kernel
theorem i_M_draw_12 : decode (mb 292) 12 = .ok (.iadd, 1) := by decide +kernel
theorem i_M_draw_13 : decode (mb 292) 13 = .ok (.putfield 57, 3) := by decide +kernel
theorem i_M_draw_16 : decode (mb 292) 16 = .ok (.aload_n 0, 1) := by decide +kernel
theorem i_M_draw_17 : decode (mb 292) 17 = .ok (.getfield 57, 3) := by decide +kernel
theorem i_M_draw_20 : decode (mb 292) 20 = .ok (.bipush 16, 2) := by decide +kernel
theorem i_M_draw_22 : decode (mb 292) 22 = .ok (.iushr, 1) := by decide +kernel
theorem i_M_draw_23 : decode (mb 292) 23 = .ok (.iload_n 1, 1) := by decide +kernel
theorem i_M_draw_24 : decode (mb 292) 24 = .ok (.irem, 1) := by decide +kernel
theorem i_M_draw_25 : decode (mb 292) 25 = .ok (.ireturn, 1) := by decide +kernel
theorem o_M_weeks : (mn 293).cls = "NeedsALoserModel" := by decide +kernel
theorem l_M_weeks : ml 293 = 4 := by decide +kernel
theorem t_M_weeks : mr 293 = some (FieldType.int) := by decide +kernel
theorem i_M_weeks_0 : decode (mb 293) 0 = .ok (.iload_n 1, 1) := by decide +kernel
theorem i_M_weeks_1 : decode (mb 293) 1 = .ok (.i2l, 1) := by decide +kernel
theorem i_M_weeks_2 : decode (mb 293) 2 = .ok (.lconst 1, 1) := by decide +kernel
theorem i_M_weeks_3 : decode (mb 293) 3 = .ok (.ldc2_w 342, 3) := by decide +kernel
theorem i_M_weeks_6 : decode (mb 293) 6 = .ok (.invokestatic 76, 3) := by decide +kernel
theorem i_M_weeks_9 : decode (mb 293) 9 = .ok (.ifCond .ne 10, 3) := by decide +kernel
theorem i_M_weeks_12 : decode (mb 293) 12 = .ok (.aload_n 0, 1) := by decide +kernel
theorem i_M_weeks_13 : decode (mb 293) 13 = .ok (.bipush (-2), 2) := by decide +kernel
theorem i_M_weeks_15 : decode (mb 293) 15 = .ok (.invokevirtual 89, 3) := by decide +kernel
theorem i_M_weeks_18 : decode (mb 293) 18 = .ok (.ireturn, 1) := by decide +kernel
theorem i_M_weeks_19 : decode (mb 293) 19 = .ok (.iconst 0, 1) := by decide +kernel
theorem i_M_weeks_20 : decode (mb 293) 20 = .ok (.istore_n 2, 1) := by decide +kernel
theorem i_M_weeks_21 : decode (mb 293) 21 = .ok (.iconst 0, 1) := by decide +kernel
theorem i_M_weeks_22 : decode (mb 293) 22 = .ok (.istore_n 3, 1) := by decide +kernel
theorem i_M_weeks_23 : decode (mb 293) 23 = .ok (.iload_n 3, 1) := by decide +kernel
theorem i_M_weeks_24 : decode (mb 293) 24 = .ok (.iload_n 1, 1) := by decide +kernel
theorem i_M_weeks_25 : decode (mb 293) 25 = .ok (.if_icmp .ge 16, 3) := by decide +kernel
theorem i_M_weeks_28 : decode (mb 293) 28 = .ok (.iload_n 2, 1) := by decide +kernel
theorem i_M_weeks_29 : decode (mb 293) 29 = .ok (.aload_n 0, 1) := by decide +kernel
theorem i_M_weeks_30 : decode (mb 293) 30 = .ok (.invokevirtual 339, 3) := by decide +kernel
theorem i_M_weeks_33 : decode (mb 293) 33 = .ok (.iadd, 1) := by decide +kernel
theorem i_M_weeks_34 : decode (mb 293) 34 = .ok (.istore_n 2, 1) := by decide +kernel
theorem i_M_weeks_35 : decode (mb 293) 35 = .ok (.iinc 3 1, 3) := by decide +kernel
theorem i_M_weeks_38 : decode (mb 293) 38 = .ok (.goto (-15), 3) := by decide +kernel
theorem i_M_weeks_41 : decode (mb 293) 41 = .ok (.iload_n 2, 1) := by decide +kernel
theorem i_M_weeks_42 : decode (mb 293) 42 = .ok (.ireturn, 1) := by decide +kernel
theorem o_M_named : (mn 294).cls = "NeedsALoserModel" := by decide +kernel
theorem l_M_named : ml 294 = 2 := by decide +kernel
theorem t_M_named : mr 294 = some (FieldType.int) := by decide +kernel
theorem i_M_named_0 : decode (mb 294) 0 = .ok (.aload_n 0, 1) := by decide +kernel
theorem i_M_named_1 : decode (mb 294) 1 = .ok (.iload_n 1, 1) := by decide +kernel
theorem i_M_named_2 : decode (mb 294) 2 = .ok (.i2l, 1) := by decide +kernel
theorem i_M_named_3 : decode (mb 294) 3 = .ok (.invokevirtual 112, 3) := by decide +kernel
theorem i_M_named_6 : decode (mb 294) 6 = .ok (.ifCond .eq 12, 3) := by decide +kernel
theorem i_M_named_9 : decode (mb 294) 9 = .ok (.aload_n 0, 1) := by decide +kernel
theorem i_M_named_10 : decode (mb 294) 10 = .ok (.getfield 43, 3) := by decide +kernel
theorem i_M_named_13 : decode (mb 294) 13 = .ok (.iload_n 1, 1) := by decide +kernel
theorem i_M_named_14 : decode (mb 294) 14 = .ok (.iaload, 1) := by decide +kernel
theorem i_M_named_15 : decode (mb 294) 15 = .ok (.goto 9, 3) := by decide +kernel
theorem i_M_named_18 : decode (mb 294) 18 = .ok (.aload_n 0, 1) := by decide +kernel
theorem i_M_named_19 : decode (mb 294) 19 = .ok (.bipush (-2), 2) := by decide +kernel
theorem i_M_named_21 : decode (mb 294) 21 = .ok (.invokevirtual 89, 3) := by decide +kernel
theorem i_M_named_24 : decode (mb 294) 24 = .ok (.ireturn, 1) := by decide +kernel
theorem o_M_seed : (mn 295).cls = "NeedsALoserModel" := by decide +kernel
theorem l_M_seed : ml 295 = 3 := by decide +kernel
theorem t_M_seed : mr 295 = some (FieldType.int) := by decide +kernel
theorem i_M_seed_0 : decode (mb 295) 0 = .ok (.aload_n 0, 1) := by decide +kernel
theorem i_M_seed_1 : decode (mb 295) 1 = .ok (.getfield 57, 3) := by decide +kernel
theorem i_M_seed_4 : decode (mb 295) 4 = .ok (.istore_n 2, 1) := by decide +kernel
theorem i_M_seed_5 : decode (mb 295) 5 = .ok (.aload_n 0, 1) := by decide +kernel
theorem i_M_seed_6 : decode (mb 295) 6 = .ok (.iload_n 1, 1) := by decide +kernel
theorem i_M_seed_7 : decode (mb 295) 7 = .ok (.putfield 57, 3) := by decide +kernel
theorem i_M_seed_10 : decode (mb 295) 10 = .ok (.iload_n 2, 1) := by decide +kernel
theorem i_M_seed_11 : decode (mb 295) 11 = .ok (.ireturn, 1) := by decide +kernel
theorem o_M_image : (mn 296).cls = "NeedsALoserModel" := by decide +kernel
theorem l_M_image : ml 296 = 1 := by decide +kernel
theorem t_M_image : mr 296 = some (FieldType.int) := by decide +kernel
theorem i_M_image_0 : decode (mb 296) 0 = .ok (.aload_n 0, 1) := by decide +kernel
theorem i_M_image_1 : decode (mb 296) 1 = .ok (.getfield 353, 3) := by decide +kernel
theorem i_M_image_4 : decode (mb 296) 4 = .ok (.ifnonnull 14, 3) := by decide +kernel
theorem i_M_image_7 : decode (mb 296) 7 = .ok (.aload_n 0, 1) := by decide +kernel
theorem i_M_image_8 : decode (mb 296) 8 = .ok (.new 8, 3) := by decide +kernel
theorem i_M_image_11 : decode (mb 296) 11 = .ok (.dup, 1) := by decide +kernel
theorem i_M_image_12 : decode (mb 296) 12 = .ok (.invokespecial 348, 3) := by decide +kernel
theorem i_M_image_15 : decode (mb 296) 15 = .ok (.putfield 353, 3) := by decide +kernel
theorem i_M_image_18 : decode (mb 296) 18 = .ok (.aload_n 0, 1) := by decide +kernel
theorem i_M_image_19 : decode (mb 296) 19 = .ok (.getfield 353, 3) := by decide +kernel
theorem i_M_image_22 : decode (mb 296) 22 = .ok (.aload_n 0, 1) := by decide +kernel
theorem i_M_image_23 : decode (mb 296) 23 = .ok (.invokevirtual 235, 3) := by decide +kernel
theorem i_M_image_26 : decode (mb 296) 26 = .ok (.iconst 1, 1) := by decide +kernel
theorem i_M_image_27 : decode (mb 296) 27 = .ok (.ireturn, 1) := by decide +kernel
theorem o_M_back : (mn 297).cls = "NeedsALoserModel" := by decide +kernel
theorem l_M_back : ml 297 = 1 := by decide +kernel
theorem t_M_back : mr 297 = some (FieldType.int) := by decide +kernel
theorem i_M_back_0 : decode (mb 297) 0 = .ok (.aload_n 0, 1) := by decide +kernel
theorem i_M_back_1 : decode (mb 297) 1 = .ok (.getfield 353, 3) := by decide +kernel
theorem i_M_back_4 : decode (mb 297) 4 = .ok (.ifnonnull 10, 3) := by decide +kernel
theorem i_M_back_7 : decode (mb 297) 7 = .ok (.aload_n 0, 1) := by decide +kernel
theorem i_M_back_8 : decode (mb 297) 8 = .ok (.bipush (-5), 2) := by decide +kernel
theorem i_M_back_10 : decode (mb 297) 10 = .ok (.invokevirtual 89, 3) := by decide +kernel
theorem i_M_back_13 : decode (mb 297) 13 = .ok (.ireturn, 1) := by decide +kernel
theorem i_M_back_14 : decode (mb 297) 14 = .ok (.aload_n 0, 1) := by decide +kernel
theorem i_M_back_15 : decode (mb 297) 15 = .ok (.aload_n 0, 1) := by decide +kernel
theorem i_M_back_16 : decode (mb 297) 16 = .ok (.getfield 353, 3) := by decide +kernel
theorem i_M_back_19 : decode (mb 297) 19 = .ok (.invokevirtual 235, 3) := by decide +kernel
theorem i_M_back_22 : decode (mb 297) 22 = .ok (.iconst 1, 1) := by decide +kernel
theorem i_M_back_23 : decode (mb 297) 23 = .ok (.ireturn, 1) := by decide +kernel
theorem o_M_status : (mn 298).cls = "NeedsALoserModel" := by decide +kernel
theorem l_M_status : ml 298 = 4 := by decide +kernel
theorem t_M_status : mr 298 = some (FieldType.int) := by decide +kernel
theorem i_M_status_0 : decode (mb 298) 0 = .ok (.iconst 0, 1) := by decide +kernel
theorem i_M_status_1 : decode (mb 298) 1 = .ok (.istore_n 2, 1) := by decide +kernel
theorem i_M_status_2 : decode (mb 298) 2 = .ok (.iload_n 1, 1) := by decide +kernel
theorem i_M_status_3 : decode (mb 298) 3 = .ok (.tableswitch 120 0 10 #[57, 62, 67, 72, 120, 120, 120, 120, 77, 82, 87], 57) := by decide +kernel
theorem i_M_status_60 : decode (mb 298) 60 = .ok (.aload_n 0, 1) := by decide +kernel
theorem i_M_status_61 : decode (mb 298) 61 = .ok (.getfield 73, 3) := by decide +kernel
theorem i_M_status_64 : decode (mb 298) 64 = .ok (.ireturn, 1) := by decide +kernel
theorem i_M_status_65 : decode (mb 298) 65 = .ok (.aload_n 0, 1) := by decide +kernel
theorem i_M_status_66 : decode (mb 298) 66 = .ok (.getfield 80, 3) := by decide +kernel
theorem i_M_status_69 : decode (mb 298) 69 = .ok (.ireturn, 1) := by decide +kernel
theorem i_M_status_70 : decode (mb 298) 70 = .ok (.aload_n 0, 1) := by decide +kernel
theorem i_M_status_71 : decode (mb 298) 71 = .ok (.getfield 279, 3) := by decide +kernel
theorem i_M_status_74 : decode (mb 298) 74 = .ok (.ireturn, 1) := by decide +kernel
theorem i_M_status_75 : decode (mb 298) 75 = .ok (.aload_n 0, 1) := by decide +kernel
theorem i_M_status_76 : decode (mb 298) 76 = .ok (.getfield 282, 3) := by decide +kernel
theorem i_M_status_79 : decode (mb 298) 79 = .ok (.ireturn, 1) := by decide +kernel
theorem i_M_status_80 : decode (mb 298) 80 = .ok (.aload_n 0, 1) := by decide +kernel
theorem i_M_status_81 : decode (mb 298) 81 = .ok (.getfield 132, 3) := by decide +kernel
theorem i_M_status_84 : decode (mb 298) 84 = .ok (.ireturn, 1) := by decide +kernel
theorem i_M_status_85 : decode (mb 298) 85 = .ok (.aload_n 0, 1) := by decide +kernel
theorem i_M_status_86 : decode (mb 298) 86 = .ok (.getfield 57, 3) := by decide +kernel
theorem i_M_status_89 : decode (mb 298) 89 = .ok (.ireturn, 1) := by decide +kernel
theorem i_M_status_90 : decode (mb 298) 90 = .ok (.iconst 0, 1) := by decide +kernel
theorem i_M_status_91 : decode (mb 298) 91 = .ok (.istore_n 3, 1) := by decide +kernel
theorem i_M_status_92 : decode (mb 298) 92 = .ok (.iload_n 3, 1) := by decide +kernel
theorem i_M_status_93 : decode (mb 298) 93 = .ok (.bipush 8, 2) := by decide +kernel
theorem i_M_status_95 : decode (mb 298) 95 = .ok (.if_icmp .ge 26, 3) := by decide +kernel
theorem i_M_status_98 : decode (mb 298) 98 = .ok (.iload_n 2, 1) := by decide +kernel
theorem i_M_status_99 : decode (mb 298) 99 = .ok (.aload_n 0, 1) := by decide +kernel
theorem i_M_status_100 : decode (mb 298) 100 = .ok (.getfield 7, 3) := by decide +kernel
theorem i_M_status_103 : decode (mb 298) 103 = .ok (.iload_n 3, 1) := by decide +kernel
theorem i_M_status_104 : decode (mb 298) 104 = .ok (.iaload, 1) := by decide +kernel
theorem i_M_status_105 : decode (mb 298) 105 = .ok (.ifCond .eq 7, 3) := by decide +kernel
theorem i_M_status_108 : decode (mb 298) 108 = .ok (.iconst 1, 1) := by decide +kernel
theorem i_M_status_109 : decode (mb 298) 109 = .ok (.goto 4, 3) := by decide +kernel
theorem i_M_status_112 : decode (mb 298) 112 = .ok (.iconst 0, 1) := by decide +kernel
theorem i_M_status_113 : decode (mb 298) 113 = .ok (.iadd, 1) := by decide +kernel
theorem i_M_status_114 : decode (mb 298) 114 = .ok (.istore_n 2, 1) := by decide +kernel
theorem i_M_status_115 : decode (mb 298) 115 = .ok (.iinc 3 1, 3) := by decide +kernel
theorem i_M_status_118 : decode (mb 298) 118 = .ok (.goto (-26), 3) := by decide +kernel
theorem i_M_status_121 : decode (mb 298) 121 = .ok (.iload_n 2, 1) := by decide +kernel
theorem i_M_status_122 : decode (mb 298) 122 = .ok (.ireturn, 1) := by decide +kernel
theorem i_M_status_123 : decode (mb 298) 123 = .ok (.iload_n 1, 1) := by decide +kernel
theorem i_M_status_124 : decode (mb 298) 124 = .ok (.i2l, 1) := by decide +kernel
theorem i_M_status_125 : decode (mb 298) 125 = .ok (.ldc2_w 85, 3) := by decide +kernel
theorem i_M_status_128 : decode (mb 298) 128 = .ok (.ldc2_w 83, 3) := by decide +kernel
theorem i_M_status_131 : decode (mb 298) 131 = .ok (.invokestatic 76, 3) := by decide +kernel
theorem i_M_status_134 : decode (mb 298) 134 = .ok (.ifCond .eq 14, 3) := by decide +kernel
theorem i_M_status_137 : decode (mb 298) 137 = .ok (.aload_n 0, 1) := by decide +kernel
theorem i_M_status_138 : decode (mb 298) 138 = .ok (.getfield 54, 3) := by decide +kernel
theorem i_M_status_141 : decode (mb 298) 141 = .ok (.iload_n 1, 1) := by decide +kernel
theorem i_M_status_142 : decode (mb 298) 142 = .ok (.iconst 4, 1) := by decide +kernel
theorem i_M_status_143 : decode (mb 298) 143 = .ok (.isub, 1) := by decide +kernel
theorem i_M_status_144 : decode (mb 298) 144 = .ok (.iaload, 1) := by decide +kernel
theorem i_M_status_145 : decode (mb 298) 145 = .ok (.goto 30, 3) := by decide +kernel
theorem i_M_status_148 : decode (mb 298) 148 = .ok (.iload_n 1, 1) := by decide +kernel
theorem i_M_status_149 : decode (mb 298) 149 = .ok (.i2l, 1) := by decide +kernel
theorem i_M_status_150 : decode (mb 298) 150 = .ok (.ldc2_w 356, 3) := by decide +kernel
theorem i_M_status_153 : decode (mb 298) 153 = .ok (.ldc2_w 358, 3) := by decide +kernel
theorem i_M_status_156 : decode (mb 298) 156 = .ok (.invokestatic 76, 3) := by decide +kernel
theorem i_M_status_159 : decode (mb 298) 159 = .ok (.ifCond .eq 15, 3) := by decide +kernel
theorem i_M_status_162 : decode (mb 298) 162 = .ok (.aload_n 0, 1) := by decide +kernel
theorem i_M_status_163 : decode (mb 298) 163 = .ok (.getfield 37, 3) := by decide +kernel
theorem i_M_status_166 : decode (mb 298) 166 = .ok (.iload_n 1, 1) := by decide +kernel
theorem i_M_status_167 : decode (mb 298) 167 = .ok (.bipush 10, 2) := by decide +kernel
theorem i_M_status_169 : decode (mb 298) 169 = .ok (.isub, 1) := by decide +kernel
theorem i_M_status_170 : decode (mb 298) 170 = .ok (.iaload, 1) := by decide +kernel
theorem i_M_status_171 : decode (mb 298) 171 = .ok (.goto 4, 3) := by decide +kernel
theorem i_M_status_174 : decode (mb 298) 174 = .ok (.iconst (-1), 1) := by decide +kernel
theorem i_M_status_175 : decode (mb 298) 175 = .ok (.ireturn, 1) := by decide +kernel
