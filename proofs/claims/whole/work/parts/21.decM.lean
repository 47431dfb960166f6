theorem o_M_init : (mn 187).cls = "NeedsALoserModel" := by decide +kernel
theorem l_M_init : ml 187 = 1 := by decide +kernel
theorem t_M_init : mr 187 = none := by decide +kernel
theorem i_M_init_0 : decode (mb 187) 0 = .ok (.aload_n 0, 1) := by decide +kernel
theorem i_M_init_1 : decode (mb 187) 1 = .ok (.invokespecial 1, 3) := by decide +kernel
theorem i_M_init_4 : decode (mb 187) 4 = .ok (.aload_n 0, 1) := by decide +kernel
theorem i_M_init_5 : decode (mb 187) 5 = .ok (.bipush 8, 2) := by decide +kernel
theorem i_M_init_7 : decode (mb 187) 7 = .ok (.newarray .int, 2) := by decide +kernel
theorem i_M_init_9 : decode (mb 187) 9 = .ok (.putfield 7, 3) := by decide +kernel
theorem i_M_init_12 : decode (mb 187) 12 = .ok (.aload_n 0, 1) := by decide +kernel
theorem i_M_init_13 : decode (mb 187) 13 = .ok (.bipush 8, 2) := by decide +kernel
theorem i_M_init_15 : decode (mb 187) 15 = .ok (.newarray .int, 2) := by decide +kernel
theorem i_M_init_17 : decode (mb 187) 17 = .ok (.putfield 13, 3) := by decide +kernel
theorem i_M_init_20 : decode (mb 187) 20 = .ok (.aload_n 0, 1) := by decide +kernel
theorem i_M_init_21 : decode (mb 187) 21 = .ok (.bipush 8, 2) := by decide +kernel
theorem i_M_init_23 : decode (mb 187) 23 = .ok (.newarray .int, 2) := by decide +kernel
theorem i_M_init_25 : decode (mb 187) 25 = .ok (.putfield 16, 3) := by decide +kernel
theorem i_M_init_28 : decode (mb 187) 28 = .ok (.aload_n 0, 1) := by decide +kernel
theorem i_M_init_29 : decode (mb 187) 29 = .ok (.bipush 8, 2) := by decide +kernel
theorem i_M_init_31 : decode (mb 187) 31 = .ok (.bipush 40, 2) := by decide +kernel
theorem i_M_init_33 : decode (mb 187) 33 = .ok (.multianewarray 19 2, 4) := by decide +kernel
theorem i_M_init_37 : decode (mb 187) 37 = .ok (.putfield 21, 3) := by decide +kernel
theorem i_M_init_40 : decode (mb 187) 40 = .ok (.aload_n 0, 1) := by decide +kernel
theorem i_M_init_41 : decode (mb 187) 41 = .ok (.bipush 40, 2) := by decide +kernel
theorem i_M_init_43 : decode (mb 187) 43 = .ok (.newarray .long, 2) := by decide +kernel
theorem i_M_init_45 : decode (mb 187) 45 = .ok (.putfield 24, 3) := by decide +kernel
theorem i_M_init_48 : decode (mb 187) 48 = .ok (.aload_n 0, 1) := by decide +kernel
theorem i_M_init_49 : decode (mb 187) 49 = .ok (.bipush 8, 2) := by decide +kernel
theorem i_M_init_51 : decode (mb 187) 51 = .ok (.newarray .int, 2) := by decide +kernel
theorem i_M_init_53 : decode (mb 187) 53 = .ok (.putfield 28, 3) := by decide +kernel
theorem i_M_init_56 : decode (mb 187) 56 = .ok (.aload_n 0, 1) := by decide +kernel
theorem i_M_init_57 : decode (mb 187) 57 = .ok (.bipush 8, 2) := by decide +kernel
theorem i_M_init_59 : decode (mb 187) 59 = .ok (.newarray .int, 2) := by decide +kernel
theorem i_M_init_61 : decode (mb 187) 61 = .ok (.putfield 31, 3) := by decide +kernel
theorem i_M_init_64 : decode (mb 187) 64 = .ok (.aload_n 0, 1) := by decide +kernel
theorem i_M_init_65 : decode (mb 187) 65 = .ok (.sipush 250, 3) := by decide +kernel
theorem i_M_init_68 : decode (mb 187) 68 = .ok (.newarray .int, 2) := by decide +kernel
theorem i_M_init_70 : decode (mb 187) 70 = .ok (.putfield 34, 3) := by decide +kernel
theorem i_M_init_73 : decode (mb 187) 73 = .ok (.aload_n 0, 1) := by decide +kernel
theorem i_M_init_74 : decode (mb 187) 74 = .ok (.bipush 8, 2) := by decide +kernel
theorem i_M_init_76 : decode (mb 187) 76 = .ok (.newarray .int, 2) := by decide +kernel
theorem i_M_init_78 : decode (mb 187) 78 = .ok (.putfield 37, 3) := by decide +kernel
theorem i_M_init_81 : decode (mb 187) 81 = .ok (.aload_n 0, 1) := by decide +kernel
theorem i_M_init_82 : decode (mb 187) 82 = .ok (.bipush 7, 2) := by decide +kernel
theorem i_M_init_84 : decode (mb 187) 84 = .ok (.newarray .int, 2) := by decide +kernel
theorem i_M_init_86 : decode (mb 187) 86 = .ok (.putfield 40, 3) := by decide +kernel
theorem i_M_init_89 : decode (mb 187) 89 = .ok (.aload_n 0, 1) := by decide +kernel
theorem i_M_init_90 : decode (mb 187) 90 = .ok (.bipush 7, 2) := by decide +kernel
theorem i_M_init_92 : decode (mb 187) 92 = .ok (.newarray .int, 2) := by decide +kernel
theorem i_M_init_94 : decode (mb 187) 94 = .ok (.putfield 43, 3) := by decide +kernel
theorem i_M_init_97 : decode (mb 187) 97 = .ok (.aload_n 0, 1) := by decide +kernel
theorem i_M_init_98 : decode (mb 187) 98 = .ok (.bipush 7, 2) := by decide +kernel
theorem i_M_init_100 : decode (mb 187) 100 = .ok (.iconst 5, 1) := by decide +kernel
theorem i_M_init_101 : decode (mb 187) 101 = .ok (.multianewarray 46 2, 4) := by decide +kernel
theorem i_M_init_105 : decode (mb 187) 105 = .ok (.putfield 48, 3) := by decide +kernel
theorem i_M_init_108 : decode (mb 187) 108 = .ok (.aload_n 0, 1) := by decide +kernel
theorem i_M_init_109 : decode (mb 187) 109 = .ok (.bipush 7, 2) := by decide +kernel
theorem i_M_init_111 : decode (mb 187) 111 = .ok (.bipush 7, 2) := by decide +kernel
theorem i_M_init_113 : decode (mb 187) 113 = .ok (.multianewarray 46 2, 4) := by decide +kernel
theorem i_M_init_117 : decode (mb 187) 117 = .ok (.putfield 51, 3) := by decide +kernel
theorem i_M_init_120 : decode (mb 187) 120 = .ok (.aload_n 0, 1) := by decide +kernel
theorem i_M_init_121 : decode (mb 187) 121 = .ok (.iconst 4, 1) := by decide +kernel
theorem i_M_init_122 : decode (mb 187) 122 = .ok (.newarray .int, 2) := by decide +kernel
theorem i_M_init_124 : decode (mb 187) 124 = .ok (.putfield 54, 3) := by decide +kernel
theorem i_M_init_127 : decode (mb 187) 127 = .ok (.aload_n 0, 1) := by decide +kernel
theorem i_M_init_128 : decode (mb 187) 128 = .ok (.iconst 1, 1) := by decide +kernel
theorem i_M_init_129 : decode (mb 187) 129 = .ok (.putfield 57, 3) := by decide +kernel
theorem i_M_init_132 : decode (mb 187) 132 = .ok (.aload_n 0, 1) := by decide +kernel
theorem i_M_init_133 : decode (mb 187) 133 = .ok (.iconst 4, 1) := by decide +kernel
theorem i_M_init_134 : decode (mb 187) 134 = .ok (.newarray .int, 2) := by decide +kernel
theorem i_M_init_136 : decode (mb 187) 136 = .ok (.putfield 61, 3) := by decide +kernel
theorem i_M_init_139 : decode (mb 187) 139 = .ok (.aload_n 0, 1) := by decide +kernel
theorem i_M_init_140 : decode (mb 187) 140 = .ok (.bipush 7, 2) := by decide +kernel
theorem i_M_init_142 : decode (mb 187) 142 = .ok (.newarray .int, 2) := by decide +kernel
theorem i_M_init_144 : decode (mb 187) 144 = .ok (.putfield 64, 3) := by decide +kernel
theorem i_M_init_147 : decode (mb 187) 147 = .ok (.aload_n 0, 1) := by decide +kernel
theorem i_M_init_148 : decode (mb 187) 148 = .ok (.bipush 7, 2) := by decide +kernel
theorem i_M_init_150 : decode (mb 187) 150 = .ok (.newarray .int, 2) := by decide +kernel
theorem i_M_init_152 : decode (mb 187) 152 = .ok (.putfield 67, 3) := by decide +kernel
theorem i_M_init_155 : decode (mb 187) 155 = .ok (.aload_n 0, 1) := by decide +kernel
theorem i_M_init_156 : decode (mb 187) 156 = .ok (.bipush 7, 2) := by decide +kernel
theorem i_M_init_158 : decode (mb 187) 158 = .ok (.newarray .int, 2) := by decide +kernel
theorem i_M_init_160 : decode (mb 187) 160 = .ok (.putfield 70, 3) := by decide +kernel
theorem i_M_init_163 : decode (mb 187) 163 = .ok (.aload_n 0, 1) := by decide +kernel
theorem i_M_init_164 : decode (mb 187) 164 = .ok (.getfield 54, 3) := by decide +kernel
theorem i_M_init_167 : decode (mb 187) 167 = .ok (.iconst 0, 1) := by decide +kernel
theorem i_M_init_168 : decode (mb 187) 168 = .ok (.iconst 1, 1) := by decide +kernel
theorem i_M_init_169 : decode (mb 187) 169 = .ok (.iastore, 1) := by decide +kernel
theorem i_M_init_170 : decode (mb 187) 170 = .ok (.aload_n 0, 1) := by decide +kernel
theorem i_M_init_171 : decode (mb 187) 171 = .ok (.getfield 54, 3) := by decide +kernel
theorem i_M_init_174 : decode (mb 187) 174 = .ok (.iconst 1, 1) := by decide +kernel
theorem i_M_init_175 : decode (mb 187) 175 = .ok (.iconst 1, 1) := by decide +kernel
theorem i_M_init_176 : decode (mb 187) 176 = .ok (.iastore, 1) := by decide +kernel
theorem i_M_init_177 : decode (mb 187) 177 = .ok (.aload_n 0, 1) := by decide +kernel
theorem i_M_init_178 : decode (mb 187) 178 = .ok (.getfield 54, 3) := by decide +kernel
theorem i_M_init_181 : decode (mb 187) 181 = .ok (.iconst 2, 1) := by decide +kernel
theorem i_M_init_182 : decode (mb 187) 182 = .ok (.iconst 5, 1) := by decide +kernel
theorem i_M_init_183 : decode (mb 187) 183 = .ok (.iastore, 1) := by decide +kernel
theorem i_M_init_184 : decode (mb 187) 184 = .ok (.aload_n 0, 1) := by decide +kernel
theorem i_M_init_185 : decode (mb 187) 185 = .ok (.getfield 54, 3) := by decide +kernel
theorem i_M_init_188 : decode (mb 187) 188 = .ok (.iconst 3, 1) := by decide +kernel
theorem i_M_init_189 : decode (mb 187) 189 = .ok (.bipush 50, 2) := by decide +kernel
theorem i_M_init_191 : decode (mb 187) 191 = .ok (.iastore, 1) := by decide +kernel
theorem i_M_init_192 : decode (mb 187) 192 = .ok (.return_, 1) := by decide +kernel
theorem o_M_row : (mn 188).cls = "NeedsALoserModel" := by decide +kernel
theorem l_M_row : ml 188 = 5 := by decide +kernel
theorem t_M_row : mr 188 = some (FieldType.int) := by decide +kernel
theorem i_M_row_0 : decode (mb 188) 0 = .ok (.iload_n 1, 1) := by decide +kernel
theorem i_M_row_1 : decode (mb 188) 1 = .ok (.i2l, 1) := by decide +kernel
theorem i_M_row_2 : decode (mb 188) 2 = .ok (.lconst 0, 1) := by decide +kernel
theorem i_M_row_3 : decode (mb 188) 3 = .ok (.ldc2_w 83, 3) := by decide +kernel
theorem i_M_row_6 : decode (mb 188) 6 = .ok (.invokestatic 76, 3) := by decide +kernel
theorem i_M_row_9 : decode (mb 188) 9 = .ok (.ifCond .eq 27, 3) := by decide +kernel
theorem i_M_row_12 : decode (mb 188) 12 = .ok (.iload_n 2, 1) := by decide +kernel
theorem i_M_row_13 : decode (mb 188) 13 = .ok (.i2l, 1) := by decide +kernel
theorem i_M_row_14 : decode (mb 188) 14 = .ok (.lconst 0, 1) := by decide +kernel
theorem i_M_row_15 : decode (mb 188) 15 = .ok (.ldc2_w 85, 3) := by decide +kernel
theorem i_M_row_18 : decode (mb 188) 18 = .ok (.invokestatic 76, 3) := by decide +kernel
theorem i_M_row_21 : decode (mb 188) 21 = .ok (.ifCond .eq 15, 3) := by decide +kernel
theorem i_M_row_24 : decode (mb 188) 24 = .ok (.iload_n 3, 1) := by decide +kernel
theorem i_M_row_25 : decode (mb 188) 25 = .ok (.i2l, 1) := by decide +kernel
theorem i_M_row_26 : decode (mb 188) 26 = .ok (.lconst 0, 1) := by decide +kernel
theorem i_M_row_27 : decode (mb 188) 27 = .ok (.ldc2_w 87, 3) := by decide +kernel
theorem i_M_row_30 : decode (mb 188) 30 = .ok (.invokestatic 76, 3) := by decide +kernel
theorem i_M_row_33 : decode (mb 188) 33 = .ok (.ifCond .ne 10, 3) := by decide +kernel
theorem i_M_row_36 : decode (mb 188) 36 = .ok (.aload_n 0, 1) := by decide +kernel
theorem i_M_row_37 : decode (mb 188) 37 = .ok (.bipush (-2), 2) := by decide +kernel
theorem i_M_row_39 : decode (mb 188) 39 = .ok (.invokevirtual 89, 3) := by decide +kernel
theorem i_M_row_42 : decode (mb 188) 42 = .ok (.ireturn, 1) := by decide +kernel
theorem i_M_row_43 : decode (mb 188) 43 = .ok (.aload_n 0, 1) := by decide +kernel
theorem i_M_row_44 : decode (mb 188) 44 = .ok (.getfield 7, 3) := by decide +kernel
theorem i_M_row_47 : decode (mb 188) 47 = .ok (.iload_n 1, 1) := by decide +kernel
theorem i_M_row_48 : decode (mb 188) 48 = .ok (.iconst 1, 1) := by decide +kernel
theorem i_M_row_49 : decode (mb 188) 49 = .ok (.iastore, 1) := by decide +kernel
theorem i_M_row_50 : decode (mb 188) 50 = .ok (.aload_n 0, 1) := by decide +kernel
theorem i_M_row_51 : decode (mb 188) 51 = .ok (.getfield 13, 3) := by decide +kernel
theorem i_M_row_54 : decode (mb 188) 54 = .ok (.iload_n 1, 1) := by decide +kernel
theorem i_M_row_55 : decode (mb 188) 55 = .ok (.iload_n 2, 1) := by decide +kernel
theorem i_M_row_56 : decode (mb 188) 56 = .ok (.iastore, 1) := by decide +kernel
theorem i_M_row_57 : decode (mb 188) 57 = .ok (.aload_n 0, 1) := by decide +kernel
theorem i_M_row_58 : decode (mb 188) 58 = .ok (.getfield 16, 3) := by decide +kernel
theorem i_M_row_61 : decode (mb 188) 61 = .ok (.iload_n 1, 1) := by decide +kernel
theorem i_M_row_62 : decode (mb 188) 62 = .ok (.iload_n 3, 1) := by decide +kernel
theorem i_M_row_63 : decode (mb 188) 63 = .ok (.iastore, 1) := by decide +kernel
theorem i_M_row_64 : decode (mb 188) 64 = .ok (.iconst 0, 1) := by decide +kernel
theorem i_M_row_65 : decode (mb 188) 65 = .ok (.istore 4, 2) := by decide +kernel
theorem i_M_row_67 : decode (mb 188) 67 = .ok (.iload 4, 2) := by decide +kernel
theorem i_M_row_69 : decode (mb 188) 69 = .ok (.bipush 40, 2) := by decide +kernel
theorem i_M_row_71 : decode (mb 188) 71 = .ok (.if_icmp .ge 19, 3) := by decide +kernel
theorem i_M_row_74 : decode (mb 188) 74 = .ok (.aload_n 0, 1) := by decide +kernel
theorem i_M_row_75 : decode (mb 188) 75 = .ok (.getfield 21, 3) := by decide +kernel
theorem i_M_row_78 : decode (mb 188) 78 = .ok (.iload_n 1, 1) := by decide +kernel
theorem i_M_row_79 : decode (mb 188) 79 = .ok (.aaload, 1) := by decide +kernel
theorem i_M_row_80 : decode (mb 188) 80 = .ok (.iload 4, 2) := by decide +kernel
theorem i_M_row_82 : decode (mb 188) 82 = .ok (.lconst 0, 1) := by decide +kernel
theorem i_M_row_83 : decode (mb 188) 83 = .ok (.lastore, 1) := by decide +kernel
theorem i_M_row_84 : decode (mb 188) 84 = .ok (.iinc 4 1, 3) := by decide +kernel
theorem i_M_row_87 : decode (mb 188) 87 = .ok (.goto (-20), 3) := by decide +kernel
theorem i_M_row_90 : decode (mb 188) 90 = .ok (.iconst 1, 1) := by decide +kernel
theorem i_M_row_91 : decode (mb 188) 91 = .ok (.ireturn, 1) := by decide +kernel
theorem o_M_in : (mn 189).cls = "NeedsALoserModel" := by decide +kernel
theorem l_M_in : ml 189 = 6 := by decide +kernel
theorem t_M_in : mr 189 = some (FieldType.boolean) := by decide +kernel
theorem i_M_in_0 : decode (mb 189) 0 = .ok (.lload_n 0, 1) := by decide +kernel
theorem i_M_in_1 : decode (mb 189) 1 = .ok (.lload_n 2, 1) := by decide +kernel
theorem i_M_in_2 : decode (mb 189) 2 = .ok (.lcmp, 1) := by decide +kernel
theorem i_M_in_3 : decode (mb 189) 3 = .ok (.ifCond .lt 14, 3) := by decide +kernel
theorem i_M_in_6 : decode (mb 189) 6 = .ok (.lload_n 0, 1) := by decide +kernel
theorem i_M_in_7 : decode (mb 189) 7 = .ok (.lload 4, 2) := by decide +kernel
theorem i_M_in_9 : decode (mb 189) 9 = .ok (.lcmp, 1) := by decide +kernel
theorem i_M_in_10 : decode (mb 189) 10 = .ok (.ifCond .gt 7, 3) := by decide +kernel
theorem i_M_in_13 : decode (mb 189) 13 = .ok (.iconst 1, 1) := by decide +kernel
theorem i_M_in_14 : decode (mb 189) 14 = .ok (.goto 4, 3) := by decide +kernel
theorem i_M_in_17 : decode (mb 189) 17 = .ok (.iconst 0, 1) := by decide +kernel
theorem i_M_in_18 : decode (mb 189) 18 = .ok (.ireturn, 1) := by decide +kernel
theorem o_M_refuse : (mn 190).cls = "NeedsALoserModel" := by decide +kernel
theorem l_M_refuse : ml 190 = 2 := by decide +kernel
theorem t_M_refuse : mr 190 = some (FieldType.int) := by decide +kernel
theorem i_M_refuse_0 : decode (mb 190) 0 = .ok (.aload_n 0, 1) := by decide +kernel
theorem i_M_refuse_1 : decode (mb 190) 1 = .ok (.getfield 37, 3) := by decide +kernel
theorem i_M_refuse_4 : decode (mb 190) 4 = .ok (.iload_n 1, 1) := by decide +kernel
theorem i_M_refuse_5 : decode (mb 190) 5 = .ok (.ineg, 1) := by decide +kernel
theorem i_M_refuse_6 : decode (mb 190) 6 = .ok (.dup2, 1) := by decide +kernel
theorem i_M_refuse_7 : decode (mb 190) 7 = .ok (.iaload, 1) := by decide +kernel
theorem i_M_refuse_8 : decode (mb 190) 8 = .ok (.iconst 1, 1) := by decide +kernel
theorem i_M_refuse_9 : decode (mb 190) 9 = .ok (.iadd, 1) := by decide +kernel
theorem i_M_refuse_10 : decode (mb 190) 10 = .ok (.iastore, 1) := by decide +kernel
theorem i_M_refuse_11 : decode (mb 190) 11 = .ok (.iload_n 1, 1) := by decide +kernel
theorem i_M_refuse_12 : decode (mb 190) 12 = .ok (.ireturn, 1) := by decide +kernel
theorem o_M_set : (mn 191).cls = "NeedsALoserModel" := by decide +kernel
theorem l_M_set : ml 191 = 6 := by decide +kernel
theorem t_M_set : mr 191 = some (FieldType.int) := by decide +kernel
theorem i_M_set_0 : decode (mb 191) 0 = .ok (.aload_n 0, 1) := by decide +kernel
theorem i_M_set_1 : decode (mb 191) 1 = .ok (.iload_n 1, 1) := by decide +kernel
theorem i_M_set_2 : decode (mb 191) 2 = .ok (.invokevirtual 93, 3) := by decide +kernel
theorem i_M_set_5 : decode (mb 191) 5 = .ok (.istore 5, 2) := by decide +kernel
theorem i_M_set_7 : decode (mb 191) 7 = .ok (.iload 5, 2) := by decide +kernel
theorem i_M_set_9 : decode (mb 191) 9 = .ok (.ifCond .eq 6, 3) := by decide +kernel
theorem i_M_set_12 : decode (mb 191) 12 = .ok (.iload 5, 2) := by decide +kernel
theorem i_M_set_14 : decode (mb 191) 14 = .ok (.ireturn, 1) := by decide +kernel
theorem i_M_set_15 : decode (mb 191) 15 = .ok (.iload_n 2, 1) := by decide +kernel
theorem i_M_set_16 : decode (mb 191) 16 = .ok (.i2l, 1) := by decide +kernel
theorem i_M_set_17 : decode (mb 191) 17 = .ok (.lconst 0, 1) := by decide +kernel
theorem i_M_set_18 : decode (mb 191) 18 = .ok (.aload_n 0, 1) := by decide +kernel
theorem i_M_set_19 : decode (mb 191) 19 = .ok (.getfield 16, 3) := by decide +kernel
theorem i_M_set_22 : decode (mb 191) 22 = .ok (.iload_n 1, 1) := by decide +kernel
theorem i_M_set_23 : decode (mb 191) 23 = .ok (.iaload, 1) := by decide +kernel
theorem i_M_set_24 : decode (mb 191) 24 = .ok (.iconst 1, 1) := by decide +kernel
theorem i_M_set_25 : decode (mb 191) 25 = .ok (.isub, 1) := by decide +kernel
theorem i_M_set_26 : decode (mb 191) 26 = .ok (.i2l, 1) := by decide +kernel
theorem i_M_set_27 : decode (mb 191) 27 = .ok (.invokestatic 76, 3) := by decide +kernel
theorem i_M_set_30 : decode (mb 191) 30 = .ok (.ifCond .ne 10, 3) := by decide +kernel
theorem i_M_set_33 : decode (mb 191) 33 = .ok (.aload_n 0, 1) := by decide +kernel
theorem i_M_set_34 : decode (mb 191) 34 = .ok (.bipush (-2), 2) := by decide +kernel
theorem i_M_set_36 : decode (mb 191) 36 = .ok (.invokevirtual 89, 3) := by decide +kernel
theorem i_M_set_39 : decode (mb 191) 39 = .ok (.ireturn, 1) := by decide +kernel
theorem i_M_set_40 : decode (mb 191) 40 = .ok (.aload_n 0, 1) := by decide +kernel
theorem i_M_set_41 : decode (mb 191) 41 = .ok (.getfield 21, 3) := by decide +kernel
theorem i_M_set_44 : decode (mb 191) 44 = .ok (.iload_n 1, 1) := by decide +kernel
theorem i_M_set_45 : decode (mb 191) 45 = .ok (.aaload, 1) := by decide +kernel
theorem i_M_set_46 : decode (mb 191) 46 = .ok (.iload_n 2, 1) := by decide +kernel
theorem i_M_set_47 : decode (mb 191) 47 = .ok (.aload_n 0, 1) := by decide +kernel
theorem i_M_set_48 : decode (mb 191) 48 = .ok (.getfield 13, 3) := by decide +kernel
theorem i_M_set_51 : decode (mb 191) 51 = .ok (.iload_n 1, 1) := by decide +kernel
theorem i_M_set_52 : decode (mb 191) 52 = .ok (.iaload, 1) := by decide +kernel
theorem i_M_set_53 : decode (mb 191) 53 = .ok (.lload_n 3, 1) := by decide +kernel
theorem i_M_set_54 : decode (mb 191) 54 = .ok (.invokestatic 96, 3) := by decide +kernel
theorem i_M_set_57 : decode (mb 191) 57 = .ok (.lastore, 1) := by decide +kernel
theorem i_M_set_58 : decode (mb 191) 58 = .ok (.iconst 1, 1) := by decide +kernel
theorem i_M_set_59 : decode (mb 191) 59 = .ok (.ireturn, 1) := by decide +kernel
theorem o_M_noRow : (mn 192).cls = "NeedsALoserModel" := by decide +kernel
theorem l_M_noRow : ml 192 = 2 := by decide +kernel
theorem t_M_noRow : mr 192 = some (FieldType.int) := by decide +kernel
theorem i_M_noRow_0 : decode (mb 192) 0 = .ok (.iload_n 1, 1) := by decide +kernel
theorem i_M_noRow_1 : decode (mb 192) 1 = .ok (.i2l, 1) := by decide +kernel
theorem i_M_noRow_2 : decode (mb 192) 2 = .ok (.lconst 0, 1) := by decide +kernel
theorem i_M_noRow_3 : decode (mb 192) 3 = .ok (.ldc2_w 83, 3) := by decide +kernel
theorem i_M_noRow_6 : decode (mb 192) 6 = .ok (.invokestatic 76, 3) := by decide +kernel
theorem i_M_noRow_9 : decode (mb 192) 9 = .ok (.ifCond .ne 10, 3) := by decide +kernel
theorem i_M_noRow_12 : decode (mb 192) 12 = .ok (.aload_n 0, 1) := by decide +kernel
theorem i_M_noRow_13 : decode (mb 192) 13 = .ok (.bipush (-2), 2) := by decide +kernel
theorem i_M_noRow_15 : decode (mb 192) 15 = .ok (.invokevirtual 89, 3) := by decide +kernel
theorem i_M_noRow_18 : decode (mb 192) 18 = .ok (.ireturn, 1) := by decide +kernel
theorem i_M_noRow_19 : decode (mb 192) 19 = .ok (.aload_n 0, 1) := by decide +kernel
theorem i_M_noRow_20 : decode (mb 192) 20 = .ok (.getfield 7, 3) := by decide +kernel
theorem i_M_noRow_23 : decode (mb 192) 23 = .ok (.iload_n 1, 1) := by decide +kernel
theorem i_M_noRow_24 : decode (mb 192) 24 = .ok (.iaload, 1) := by decide +kernel
theorem i_M_noRow_25 : decode (mb 192) 25 = .ok (.iconst 2, 1) := by decide +kernel
theorem i_M_noRow_26 : decode (mb 192) 26 = .ok (.if_icmp .ne 10, 3) := by decide +kernel
theorem i_M_noRow_29 : decode (mb 192) 29 = .ok (.aload_n 0, 1) := by decide +kernel
theorem i_M_noRow_30 : decode (mb 192) 30 = .ok (.bipush (-3), 2) := by decide +kernel
theorem i_M_noRow_32 : decode (mb 192) 32 = .ok (.invokevirtual 89, 3) := by decide +kernel
theorem i_M_noRow_35 : decode (mb 192) 35 = .ok (.ireturn, 1) := by decide +kernel
theorem i_M_noRow_36 : decode (mb 192) 36 = .ok (.aload_n 0, 1) := by decide +kernel
theorem i_M_noRow_37 : decode (mb 192) 37 = .ok (.getfield 7, 3) := by decide +kernel
theorem i_M_noRow_40 : decode (mb 192) 40 = .ok (.iload_n 1, 1) := by decide +kernel
theorem i_M_noRow_41 : decode (mb 192) 41 = .ok (.iaload, 1) := by decide +kernel
theorem i_M_noRow_42 : decode (mb 192) 42 = .ok (.ifCond .ne 12, 3) := by decide +kernel
theorem i_M_noRow_45 : decode (mb 192) 45 = .ok (.aload_n 0, 1) := by decide +kernel
theorem i_M_noRow_46 : decode (mb 192) 46 = .ok (.bipush (-4), 2) := by decide +kernel
theorem i_M_noRow_48 : decode (mb 192) 48 = .ok (.invokevirtual 89, 3) := by decide +kernel
theorem i_M_noRow_51 : decode (mb 192) 51 = .ok (.goto 4, 3) := by decide +kernel
theorem i_M_noRow_54 : decode (mb 192) 54 = .ok (.iconst 0, 1) := by decide +kernel
theorem i_M_noRow_55 : decode (mb 192) 55 = .ok (.ireturn, 1) := by decide +kernel
theorem o_M_fit : (mn 193).cls = "NeedsALoserModel" := by decide +kernel
theorem l_M_fit : ml 193 = 3 := by decide +kernel
theorem t_M_fit : mr 193 = some (FieldType.long) := by decide +kernel
theorem i_M_fit_0 : decode (mb 193) 0 = .ok (.iload_n 0, 1) := by decide +kernel
theorem i_M_fit_1 : decode (mb 193) 1 = .ok (.tableswitch 47 0 3 #[31, 36, 41, 45], 31) := by decide +kernel
theorem i_M_fit_32 : decode (mb 193) 32 = .ok (.lload_n 1, 1) := by decide +kernel
theorem i_M_fit_33 : decode (mb 193) 33 = .ok (.l2i, 1) := by decide +kernel
theorem i_M_fit_34 : decode (mb 193) 34 = .ok (.i2b, 1) := by decide +kernel
theorem i_M_fit_35 : decode (mb 193) 35 = .ok (.i2l, 1) := by decide +kernel
theorem i_M_fit_36 : decode (mb 193) 36 = .ok (.lreturn, 1) := by decide +kernel
theorem i_M_fit_37 : decode (mb 193) 37 = .ok (.lload_n 1, 1) := by decide +kernel
theorem i_M_fit_38 : decode (mb 193) 38 = .ok (.l2i, 1) := by decide +kernel
theorem i_M_fit_39 : decode (mb 193) 39 = .ok (.i2s, 1) := by decide +kernel
theorem i_M_fit_40 : decode (mb 193) 40 = .ok (.i2l, 1) := by decide +kernel
theorem i_M_fit_41 : decode (mb 193) 41 = .ok (.lreturn, 1) := by decide +kernel
theorem i_M_fit_42 : decode (mb 193) 42 = .ok (.lload_n 1, 1) := by decide +kernel
theorem i_M_fit_43 : decode (mb 193) 43 = .ok (.l2i, 1) := by decide +kernel
theorem i_M_fit_44 : decode (mb 193) 44 = .ok (.i2l, 1) := by decide +kernel
theorem i_M_fit_45 : decode (mb 193) 45 = .ok (.lreturn, 1) := by decide +kernel
theorem i_M_fit_46 : decode (mb 193) 46 = .ok (.lload_n 1, 1) := by decide +kernel
theorem i_M_fit_47 : decode (mb 193) 47 = .ok (.lreturn, 1) := by decide +kernel
theorem i_M_fit_48 : decode (mb 193) 48 = .ok (.lload_n 1, 1) := by decide +kernel
theorem i_M_fit_49 : decode (mb 193) 49 = .ok (.lconst 0, 1) := by decide +kernel
theorem i_M_fit_50 : decode (mb 193) 50 = .ok (.lcmp, 1) := by decide +kernel
theorem i_M_fit_51 : decode (mb 193) 51 = .ok (.ifCond .eq 7, 3) := by decide +kernel
theorem i_M_fit_54 : decode (mb 193) 54 = .ok (.lconst 1, 1) := by decide +kernel
theorem i_M_fit_55 : decode (mb 193) 55 = .ok (.goto 4, 3) := by decide +kernel
theorem i_M_fit_58 : decode (mb 193) 58 = .ok (.lconst 0, 1) := by decide +kernel
theorem i_M_fit_59 : decode (mb 193) 59 = .ok (.lreturn, 1) := by decide +kernel
theorem o_M_copy : (mn 194).cls = "NeedsALoserModel" := by decide +kernel
theorem l_M_copy : ml 194 = 7 := by decide +kernel
theorem t_M_copy : mr 194 = some (FieldType.int) := by decide +kernel
theorem i_M_copy_0 : decode (mb 194) 0 = .ok (.iload_n 1, 1) := by decide +kernel
theorem i_M_copy_1 : decode (mb 194) 1 = .ok (.i2l, 1) := by decide +kernel
theorem i_M_copy_2 : decode (mb 194) 2 = .ok (.lconst 0, 1) := by decide +kernel
theorem i_M_copy_3 : decode (mb 194) 3 = .ok (.ldc2_w 83, 3) := by decide +kernel
theorem i_M_copy_6 : decode (mb 194) 6 = .ok (.invokestatic 76, 3) := by decide +kernel
theorem i_M_copy_9 : decode (mb 194) 9 = .ok (.ifCond .eq 15, 3) := by decide +kernel
theorem i_M_copy_12 : decode (mb 194) 12 = .ok (.iload_n 2, 1) := by decide +kernel
theorem i_M_copy_13 : decode (mb 194) 13 = .ok (.i2l, 1) := by decide +kernel
theorem i_M_copy_14 : decode (mb 194) 14 = .ok (.lconst 0, 1) := by decide +kernel
theorem i_M_copy_15 : decode (mb 194) 15 = .ok (.ldc2_w 83, 3) := by decide +kernel
theorem i_M_copy_18 : decode (mb 194) 18 = .ok (.invokestatic 76, 3) := by decide +kernel
theorem i_M_copy_21 : decode (mb 194) 21 = .ok (.ifCond .ne 10, 3) := by decide +kernel
theorem i_M_copy_24 : decode (mb 194) 24 = .ok (.aload_n 0, 1) := by decide +kernel
theorem i_M_copy_25 : decode (mb 194) 25 = .ok (.bipush (-2), 2) := by decide +kernel
theorem i_M_copy_27 : decode (mb 194) 27 = .ok (.invokevirtual 89, 3) := by decide +kernel
theorem i_M_copy_30 : decode (mb 194) 30 = .ok (.ireturn, 1) := by decide +kernel
theorem i_M_copy_31 : decode (mb 194) 31 = .ok (.aload_n 0, 1) := by decide +kernel
theorem i_M_copy_32 : decode (mb 194) 32 = .ok (.getfield 7, 3) := by decide +kernel
theorem i_M_copy_35 : decode (mb 194) 35 = .ok (.iload_n 1, 1) := by decide +kernel
theorem i_M_copy_36 : decode (mb 194) 36 = .ok (.iaload, 1) := by decide +kernel
theorem i_M_copy_37 : decode (mb 194) 37 = .ok (.iconst 2, 1) := by decide +kernel
theorem i_M_copy_38 : decode (mb 194) 38 = .ok (.if_icmp .eq 48, 3) := by decide +kernel
theorem i_M_copy_41 : decode (mb 194) 41 = .ok (.aload_n 0, 1) := by decide +kernel
theorem i_M_copy_42 : decode (mb 194) 42 = .ok (.getfield 7, 3) := by decide +kernel
theorem i_M_copy_45 : decode (mb 194) 45 = .ok (.iload_n 2, 1) := by decide +kernel
theorem i_M_copy_46 : decode (mb 194) 46 = .ok (.iaload, 1) := by decide +kernel
theorem i_M_copy_47 : decode (mb 194) 47 = .ok (.iconst 2, 1) := by decide +kernel
theorem i_M_copy_48 : decode (mb 194) 48 = .ok (.if_icmp .eq 38, 3) := by decide +kernel
theorem i_M_copy_51 : decode (mb 194) 51 = .ok (.aload_n 0, 1) := by decide +kernel
theorem i_M_copy_52 : decode (mb 194) 52 = .ok (.getfield 7, 3) := by decide +kernel
theorem i_M_copy_55 : decode (mb 194) 55 = .ok (.iload_n 1, 1) := by decide +kernel
theorem i_M_copy_56 : decode (mb 194) 56 = .ok (.iaload, 1) := by decide +kernel
theorem i_M_copy_57 : decode (mb 194) 57 = .ok (.iconst 1, 1) := by decide +kernel
theorem i_M_copy_58 : decode (mb 194) 58 = .ok (.if_icmp .ne 35, 3) := by decide +kernel
theorem i_M_copy_61 : decode (mb 194) 61 = .ok (.aload_n 0, 1) := by decide +kernel
theorem i_M_copy_62 : decode (mb 194) 62 = .ok (.getfield 7, 3) := by decide +kernel
theorem i_M_copy_65 : decode (mb 194) 65 = .ok (.iload_n 2, 1) := by decide +kernel
theorem i_M_copy_66 : decode (mb 194) 66 = .ok (.iaload, 1) := by decide +kernel
theorem i_M_copy_67 : decode (mb 194) 67 = .ok (.iconst 1, 1) := by decide +kernel
theorem i_M_copy_68 : decode (mb 194) 68 = .ok (.if_icmp .ne 25, 3) := by decide +kernel
theorem i_M_copy_71 : decode (mb 194) 71 = .ok (.aload_n 0, 1) := by decide +kernel
theorem i_M_copy_72 : decode (mb 194) 72 = .ok (.getfield 13, 3) := by decide +kernel
theorem i_M_copy_75 : decode (mb 194) 75 = .ok (.iload_n 1, 1) := by decide +kernel
theorem i_M_copy_76 : decode (mb 194) 76 = .ok (.iaload, 1) := by decide +kernel
theorem i_M_copy_77 : decode (mb 194) 77 = .ok (.aload_n 0, 1) := by decide +kernel
theorem i_M_copy_78 : decode (mb 194) 78 = .ok (.getfield 13, 3) := by decide +kernel
theorem i_M_copy_81 : decode (mb 194) 81 = .ok (.iload_n 2, 1) := by decide +kernel
theorem i_M_copy_82 : decode (mb 194) 82 = .ok (.iaload, 1) := by decide +kernel
theorem i_M_copy_83 : decode (mb 194) 83 = .ok (.if_icmp .eq 10, 3) := by decide +kernel
theorem i_M_copy_86 : decode (mb 194) 86 = .ok (.aload_n 0, 1) := by decide +kernel
theorem i_M_copy_87 : decode (mb 194) 87 = .ok (.bipush (-3), 2) := by decide +kernel
theorem i_M_copy_89 : decode (mb 194) 89 = .ok (.invokevirtual 89, 3) := by decide +kernel
theorem i_M_copy_92 : decode (mb 194) 92 = .ok (.ireturn, 1) := by decide +kernel
theorem i_M_copy_93 : decode (mb 194) 93 = .ok (.aload_n 0, 1) := by decide +kernel
theorem i_M_copy_94 : decode (mb 194) 94 = .ok (.getfield 7, 3) := by decide +kernel
theorem i_M_copy_97 : decode (mb 194) 97 = .ok (.iload_n 1, 1) := by decide +kernel
theorem i_M_copy_98 : decode (mb 194) 98 = .ok (.iaload, 1) := by decide +kernel
theorem i_M_copy_99 : decode (mb 194) 99 = .ok (.ifCond .eq 12, 3) := by decide +kernel
theorem i_M_copy_102 : decode (mb 194) 102 = .ok (.aload_n 0, 1) := by decide +kernel
theorem i_M_copy_103 : decode (mb 194) 103 = .ok (.getfield 7, 3) := by decide +kernel
theorem i_M_copy_106 : decode (mb 194) 106 = .ok (.iload_n 2, 1) := by decide +kernel
theorem i_M_copy_107 : decode (mb 194) 107 = .ok (.iaload, 1) := by decide +kernel
theorem i_M_copy_108 : decode (mb 194) 108 = .ok (.ifCond .ne 10, 3) := by decide +kernel
theorem i_M_copy_111 : decode (mb 194) 111 = .ok (.aload_n 0, 1) := by decide +kernel
theorem i_M_copy_112 : decode (mb 194) 112 = .ok (.bipush (-4), 2) := by decide +kernel
theorem i_M_copy_114 : decode (mb 194) 114 = .ok (.invokevirtual 89, 3) := by decide +kernel
theorem i_M_copy_117 : decode (mb 194) 117 = .ok (.ireturn, 1) := by decide +kernel
theorem i_M_copy_118 : decode (mb 194) 118 = .ok (.iload 5, 2) := by decide +kernel
theorem i_M_copy_120 : decode (mb 194) 120 = .ok (.ifCond .lt 61, 3) := by decide +kernel
theorem i_M_copy_123 : decode (mb 194) 123 = .ok (.iload_n 3, 1) := by decide +kernel
theorem i_M_copy_124 : decode (mb 194) 124 = .ok (.ifCond .lt 57, 3) := by decide +kernel
theorem i_M_copy_127 : decode (mb 194) 127 = .ok (.iload 4, 2) := by decide +kernel
theorem i_M_copy_129 : decode (mb 194) 129 = .ok (.ifCond .lt 52, 3) := by decide +kernel
theorem i_M_copy_132 : decode (mb 194) 132 = .ok (.iload 5, 2) := by decide +kernel
theorem i_M_copy_134 : decode (mb 194) 134 = .ok (.aload_n 0, 1) := by decide +kernel
theorem i_M_copy_135 : decode (mb 194) 135 = .ok (.getfield 16, 3) := by decide +kernel
theorem i_M_copy_138 : decode (mb 194) 138 = .ok (.iload_n 1, 1) := by decide +kernel
theorem i_M_copy_139 : decode (mb 194) 139 = .ok (.iaload, 1) := by decide +kernel
theorem i_M_copy_140 : decode (mb 194) 140 = .ok (.if_icmp .gt 41, 3) := by decide +kernel
theorem i_M_copy_143 : decode (mb 194) 143 = .ok (.iload 5, 2) := by decide +kernel
theorem i_M_copy_145 : decode (mb 194) 145 = .ok (.aload_n 0, 1) := by decide +kernel
theorem i_M_copy_146 : decode (mb 194) 146 = .ok (.getfield 16, 3) := by decide +kernel
theorem i_M_copy_149 : decode (mb 194) 149 = .ok (.iload_n 2, 1) := by decide +kernel
theorem i_M_copy_150 : decode (mb 194) 150 = .ok (.iaload, 1) := by decide +kernel
theorem i_M_copy_151 : decode (mb 194) 151 = .ok (.if_icmp .gt 30, 3) := by decide +kernel
theorem i_M_copy_154 : decode (mb 194) 154 = .ok (.iload_n 3, 1) := by decide +kernel
theorem i_M_copy_155 : decode (mb 194) 155 = .ok (.aload_n 0, 1) := by decide +kernel
theorem i_M_copy_156 : decode (mb 194) 156 = .ok (.getfield 16, 3) := by decide +kernel
theorem i_M_copy_159 : decode (mb 194) 159 = .ok (.iload_n 1, 1) := by decide +kernel
theorem i_M_copy_160 : decode (mb 194) 160 = .ok (.iaload, 1) := by decide +kernel
theorem i_M_copy_161 : decode (mb 194) 161 = .ok (.iload 5, 2) := by decide +kernel
theorem i_M_copy_163 : decode (mb 194) 163 = .ok (.isub, 1) := by decide +kernel
theorem i_M_copy_164 : decode (mb 194) 164 = .ok (.if_icmp .gt 17, 3) := by decide +kernel
theorem i_M_copy_167 : decode (mb 194) 167 = .ok (.iload 4, 2) := by decide +kernel
theorem i_M_copy_169 : decode (mb 194) 169 = .ok (.aload_n 0, 1) := by decide +kernel
theorem i_M_copy_170 : decode (mb 194) 170 = .ok (.getfield 16, 3) := by decide +kernel
theorem i_M_copy_173 : decode (mb 194) 173 = .ok (.iload_n 2, 1) := by decide +kernel
theorem i_M_copy_174 : decode (mb 194) 174 = .ok (.iaload, 1) := by decide +kernel
theorem i_M_copy_175 : decode (mb 194) 175 = .ok (.iload 5, 2) := by decide +kernel
theorem i_M_copy_177 : decode (mb 194) 177 = .ok (.isub, 1) := by decide +kernel
theorem i_M_copy_178 : decode (mb 194) 178 = .ok (.if_icmp .le 10, 3) := by decide +kernel
theorem i_M_copy_181 : decode (mb 194) 181 = .ok (.aload_n 0, 1) := by decide +kernel
theorem i_M_copy_182 : decode (mb 194) 182 = .ok (.bipush (-2), 2) := by decide +kernel
theorem i_M_copy_184 : decode (mb 194) 184 = .ok (.invokevirtual 89, 3) := by decide +kernel
theorem i_M_copy_187 : decode (mb 194) 187 = .ok (.ireturn, 1) := by decide +kernel
theorem i_M_copy_188 : decode (mb 194) 188 = .ok (.iconst 0, 1) := by decide +kernel
theorem i_M_copy_189 : decode (mb 194) 189 = .ok (.istore 6, 2) := by decide +kernel
theorem i_M_copy_191 : decode (mb 194) 191 = .ok (.iload 6, 2) := by decide +kernel
theorem i_M_copy_193 : decode (mb 194) 193 = .ok (.iload 5, 2) := by decide +kernel
theorem i_M_copy_195 : decode (mb 194) 195 = .ok (.if_icmp .ge 27, 3) := by decide +kernel
theorem i_M_copy_198 : decode (mb 194) 198 = .ok (.aload_n 0, 1) := by decide +kernel
theorem i_M_copy_199 : decode (mb 194) 199 = .ok (.getfield 24, 3) := by decide +kernel
theorem i_M_copy_202 : decode (mb 194) 202 = .ok (.iload 6, 2) := by decide +kernel
theorem i_M_copy_204 : decode (mb 194) 204 = .ok (.aload_n 0, 1) := by decide +kernel
theorem i_M_copy_205 : decode (mb 194) 205 = .ok (.getfield 21, 3) := by decide +kernel
theorem i_M_copy_208 : decode (mb 194) 208 = .ok (.iload_n 1, 1) := by decide +kernel
theorem i_M_copy_209 : decode (mb 194) 209 = .ok (.aaload, 1) := by decide +kernel
theorem i_M_copy_210 : decode (mb 194) 210 = .ok (.iload_n 3, 1) := by decide +kernel
theorem i_M_copy_211 : decode (mb 194) 211 = .ok (.iload 6, 2) := by decide +kernel
theorem i_M_copy_213 : decode (mb 194) 213 = .ok (.iadd, 1) := by decide +kernel
theorem i_M_copy_214 : decode (mb 194) 214 = .ok (.laload, 1) := by decide +kernel
theorem i_M_copy_215 : decode (mb 194) 215 = .ok (.lastore, 1) := by decide +kernel
theorem i_M_copy_216 : decode (mb 194) 216 = .ok (.iinc 6 1, 3) := by decide +kernel
theorem i_M_copy_219 : decode (mb 194) 219 = .ok (.goto (-28), 3) := by decide +kernel
theorem i_M_copy_222 : decode (mb 194) 222 = .ok (.iconst 0, 1) := by decide +kernel
theorem i_M_copy_223 : decode (mb 194) 223 = .ok (.istore 6, 2) := by decide +kernel
theorem i_M_copy_225 : decode (mb 194) 225 = .ok (.iload 6, 2) := by decide +kernel
theorem i_M_copy_227 : decode (mb 194) 227 = .ok (.iload 5, 2) := by decide +kernel
theorem i_M_copy_229 : decode (mb 194) 229 = .ok (.if_icmp .ge 28, 3) := by decide +kernel
theorem i_M_copy_232 : decode (mb 194) 232 = .ok (.aload_n 0, 1) := by decide +kernel
theorem i_M_copy_233 : decode (mb 194) 233 = .ok (.getfield 21, 3) := by decide +kernel
theorem i_M_copy_236 : decode (mb 194) 236 = .ok (.iload_n 2, 1) := by decide +kernel
theorem i_M_copy_237 : decode (mb 194) 237 = .ok (.aaload, 1) := by decide +kernel
theorem i_M_copy_238 : decode (mb 194) 238 = .ok (.iload 4, 2) := by decide +kernel
theorem i_M_copy_240 : decode (mb 194) 240 = .ok (.iload 6, 2) := by decide +kernel
theorem i_M_copy_242 : decode (mb 194) 242 = .ok (.iadd, 1) := by decide +kernel
theorem i_M_copy_243 : decode (mb 194) 243 = .ok (.aload_n 0, 1) := by decide +kernel
theorem i_M_copy_244 : decode (mb 194) 244 = .ok (.getfield 24, 3) := by decide +kernel
theorem i_M_copy_247 : decode (mb 194) 247 = .ok (.iload 6, 2) := by decide +kernel
theorem i_M_copy_249 : decode (mb 194) 249 = .ok (.laload, 1) := by decide +kernel
theorem i_M_copy_250 : decode (mb 194) 250 = .ok (.lastore, 1) := by decide +kernel
theorem i_M_copy_251 : decode (mb 194) 251 = .ok (.iinc 6 1, 3) := by decide +kernel
theorem i_M_copy_254 : decode (mb 194) 254 = .ok (.goto (-29), 3) := by decide +kernel
theorem i_M_copy_257 : decode (mb 194) 257 = .ok (.iload 5, 2) := by decide +kernel
theorem i_M_copy_259 : decode (mb 194) 259 = .ok (.ireturn, 1) := by decide +kernel
theorem o_M_element : (mn 195).cls = "NeedsALoserModel" := by decide +kernel
theorem l_M_element : ml 195 = 3 := by decide +kernel
theorem t_M_element : mr 195 = some (FieldType.long) := by decide +kernel
theorem i_M_element_0 : decode (mb 195) 0 = .ok (.iload_n 1, 1) := by decide +kernel
theorem i_M_element_1 : decode (mb 195) 1 = .ok (.i2l, 1) := by decide +kernel
theorem i_M_element_2 : decode (mb 195) 2 = .ok (.lconst 0, 1) := by decide +kernel
theorem i_M_element_3 : decode (mb 195) 3 = .ok (.ldc2_w 83, 3) := by decide +kernel
theorem i_M_element_6 : decode (mb 195) 6 = .ok (.invokestatic 76, 3) := by decide +kernel
theorem i_M_element_9 : decode (mb 195) 9 = .ok (.ifCond .eq 42, 3) := by decide +kernel
theorem i_M_element_12 : decode (mb 195) 12 = .ok (.aload_n 0, 1) := by decide +kernel
theorem i_M_element_13 : decode (mb 195) 13 = .ok (.getfield 7, 3) := by decide +kernel
theorem i_M_element_16 : decode (mb 195) 16 = .ok (.iload_n 1, 1) := by decide +kernel
theorem i_M_element_17 : decode (mb 195) 17 = .ok (.iaload, 1) := by decide +kernel
theorem i_M_element_18 : decode (mb 195) 18 = .ok (.iconst 1, 1) := by decide +kernel
theorem i_M_element_19 : decode (mb 195) 19 = .ok (.if_icmp .ne 32, 3) := by decide +kernel
theorem i_M_element_22 : decode (mb 195) 22 = .ok (.iload_n 2, 1) := by decide +kernel
theorem i_M_element_23 : decode (mb 195) 23 = .ok (.i2l, 1) := by decide +kernel
theorem i_M_element_24 : decode (mb 195) 24 = .ok (.lconst 0, 1) := by decide +kernel
theorem i_M_element_25 : decode (mb 195) 25 = .ok (.aload_n 0, 1) := by decide +kernel
theorem i_M_element_26 : decode (mb 195) 26 = .ok (.getfield 16, 3) := by decide +kernel
theorem i_M_element_29 : decode (mb 195) 29 = .ok (.iload_n 1, 1) := by decide +kernel
theorem i_M_element_30 : decode (mb 195) 30 = .ok (.iaload, 1) := by decide +kernel
theorem i_M_element_31 : decode (mb 195) 31 = .ok (.iconst 1, 1) := by decide +kernel
theorem i_M_element_32 : decode (mb 195) 32 = .ok (.isub, 1) := by decide +kernel
theorem i_M_element_33 : decode (mb 195) 33 = .ok (.i2l, 1) := by decide +kernel
theorem i_M_element_34 : decode (mb 195) 34 = .ok (.invokestatic 76, 3) := by decide +kernel
theorem i_M_element_37 : decode (mb 195) 37 = .ok (.ifCond .eq 14, 3) := by decide +kernel
theorem i_M_element_40 : decode (mb 195) 40 = .ok (.aload_n 0, 1) := by decide +kernel
theorem i_M_element_41 : decode (mb 195) 41 = .ok (.getfield 21, 3) := by decide +kernel
theorem i_M_element_44 : decode (mb 195) 44 = .ok (.iload_n 1, 1) := by decide +kernel
theorem i_M_element_45 : decode (mb 195) 45 = .ok (.aaload, 1) := by decide +kernel
theorem i_M_element_46 : decode (mb 195) 46 = .ok (.iload_n 2, 1) := by decide +kernel
theorem i_M_element_47 : decode (mb 195) 47 = .ok (.laload, 1) := by decide +kernel
theorem i_M_element_48 : decode (mb 195) 48 = .ok (.goto 4, 3) := by decide +kernel
theorem i_M_element_51 : decode (mb 195) 51 = .ok (.lconst 0, 1) := by decide +kernel
theorem i_M_element_52 : decode (mb 195) 52 = .ok (.lreturn, 1) := by decide +kernel
theorem o_M_holds : (mn 196).cls = "NeedsALoserModel" := by decide +kernel
theorem l_M_holds : ml 196 = 2 := by decide +kernel
theorem t_M_holds : mr 196 = some (FieldType.int) := by decide +kernel
theorem i_M_holds_0 : decode (mb 196) 0 = .ok (.iload_n 1, 1) := by decide +kernel
theorem i_M_holds_1 : decode (mb 196) 1 = .ok (.i2l, 1) := by decide +kernel
theorem i_M_holds_2 : decode (mb 196) 2 = .ok (.lconst 0, 1) := by decide +kernel
theorem i_M_holds_3 : decode (mb 196) 3 = .ok (.ldc2_w 83, 3) := by decide +kernel
theorem i_M_holds_6 : decode (mb 196) 6 = .ok (.invokestatic 76, 3) := by decide +kernel
theorem i_M_holds_9 : decode (mb 196) 9 = .ok (.ifCond .eq 12, 3) := by decide +kernel
theorem i_M_holds_12 : decode (mb 196) 12 = .ok (.aload_n 0, 1) := by decide +kernel
theorem i_M_holds_13 : decode (mb 196) 13 = .ok (.getfield 7, 3) := by decide +kernel
theorem i_M_holds_16 : decode (mb 196) 16 = .ok (.iload_n 1, 1) := by decide +kernel
theorem i_M_holds_17 : decode (mb 196) 17 = .ok (.iaload, 1) := by decide +kernel
theorem i_M_holds_18 : decode (mb 196) 18 = .ok (.ifCond .ne 5, 3) := by decide +kernel
theorem i_M_holds_21 : decode (mb 196) 21 = .ok (.iconst (-1), 1) := by decide +kernel
theorem i_M_holds_22 : decode (mb 196) 22 = .ok (.ireturn, 1) := by decide +kernel
theorem i_M_holds_23 : decode (mb 196) 23 = .ok (.aload_n 0, 1) := by decide +kernel
theorem i_M_holds_24 : decode (mb 196) 24 = .ok (.getfield 7, 3) := by decide +kernel
theorem i_M_holds_27 : decode (mb 196) 27 = .ok (.iload_n 1, 1) := by decide +kernel
theorem i_M_holds_28 : decode (mb 196) 28 = .ok (.iaload, 1) := by decide +kernel
theorem i_M_holds_29 : decode (mb 196) 29 = .ok (.iconst 1, 1) := by decide +kernel
theorem i_M_holds_30 : decode (mb 196) 30 = .ok (.if_icmp .ne 12, 3) := by decide +kernel
theorem i_M_holds_33 : decode (mb 196) 33 = .ok (.aload_n 0, 1) := by decide +kernel
theorem i_M_holds_34 : decode (mb 196) 34 = .ok (.getfield 13, 3) := by decide +kernel
theorem i_M_holds_37 : decode (mb 196) 37 = .ok (.iload_n 1, 1) := by decide +kernel
theorem i_M_holds_38 : decode (mb 196) 38 = .ok (.iaload, 1) := by decide +kernel
theorem i_M_holds_39 : decode (mb 196) 39 = .ok (.goto 12, 3) := by decide +kernel
theorem i_M_holds_42 : decode (mb 196) 42 = .ok (.bipush 10, 2) := by decide +kernel
theorem i_M_holds_44 : decode (mb 196) 44 = .ok (.aload_n 0, 1) := by decide +kernel
theorem i_M_holds_45 : decode (mb 196) 45 = .ok (.getfield 28, 3) := by decide +kernel
theorem i_M_holds_48 : decode (mb 196) 48 = .ok (.iload_n 1, 1) := by decide +kernel
theorem i_M_holds_49 : decode (mb 196) 49 = .ok (.iaload, 1) := by decide +kernel
theorem i_M_holds_50 : decode (mb 196) 50 = .ok (.iadd, 1) := by decide +kernel
theorem i_M_holds_51 : decode (mb 196) 51 = .ok (.ireturn, 1) := by decide +kernel
theorem o_M_rule : (mn 197).cls = "NeedsALoserModel" := by decide +kernel
theorem l_M_rule : ml 197 = 4 := by decide +kernel
theorem t_M_rule : mr 197 = some (FieldType.int) := by decide +kernel
theorem i_M_rule_0 : decode (mb 197) 0 = .ok (.iload_n 1, 1) := by decide +kernel
theorem i_M_rule_1 : decode (mb 197) 1 = .ok (.i2l, 1) := by decide +kernel
theorem i_M_rule_2 : decode (mb 197) 2 = .ok (.lconst 0, 1) := by decide +kernel
theorem i_M_rule_3 : decode (mb 197) 3 = .ok (.ldc2_w 83, 3) := by decide +kernel
theorem i_M_rule_6 : decode (mb 197) 6 = .ok (.invokestatic 76, 3) := by decide +kernel
theorem i_M_rule_9 : decode (mb 197) 9 = .ok (.ifCond .eq 27, 3) := by decide +kernel
theorem i_M_rule_12 : decode (mb 197) 12 = .ok (.iload_n 2, 1) := by decide +kernel
theorem i_M_rule_13 : decode (mb 197) 13 = .ok (.i2l, 1) := by decide +kernel
theorem i_M_rule_14 : decode (mb 197) 14 = .ok (.lconst 1, 1) := by decide +kernel
theorem i_M_rule_15 : decode (mb 197) 15 = .ok (.ldc2_w 100, 3) := by decide +kernel
theorem i_M_rule_18 : decode (mb 197) 18 = .ok (.invokestatic 76, 3) := by decide +kernel
theorem i_M_rule_21 : decode (mb 197) 21 = .ok (.ifCond .eq 15, 3) := by decide +kernel
theorem i_M_rule_24 : decode (mb 197) 24 = .ok (.iload_n 3, 1) := by decide +kernel
theorem i_M_rule_25 : decode (mb 197) 25 = .ok (.i2l, 1) := by decide +kernel
theorem i_M_rule_26 : decode (mb 197) 26 = .ok (.lconst 0, 1) := by decide +kernel
theorem i_M_rule_27 : decode (mb 197) 27 = .ok (.ldc2_w 102, 3) := by decide +kernel
theorem i_M_rule_30 : decode (mb 197) 30 = .ok (.invokestatic 76, 3) := by decide +kernel
theorem i_M_rule_33 : decode (mb 197) 33 = .ok (.ifCond .ne 10, 3) := by decide +kernel
theorem i_M_rule_36 : decode (mb 197) 36 = .ok (.aload_n 0, 1) := by decide +kernel
theorem i_M_rule_37 : decode (mb 197) 37 = .ok (.bipush (-2), 2) := by decide +kernel
theorem i_M_rule_39 : decode (mb 197) 39 = .ok (.invokevirtual 89, 3) := by decide +kernel
theorem i_M_rule_42 : decode (mb 197) 42 = .ok (.ireturn, 1) := by decide +kernel
theorem i_M_rule_43 : decode (mb 197) 43 = .ok (.aload_n 0, 1) := by decide +kernel
theorem i_M_rule_44 : decode (mb 197) 44 = .ok (.getfield 7, 3) := by decide +kernel
theorem i_M_rule_47 : decode (mb 197) 47 = .ok (.iload_n 1, 1) := by decide +kernel
theorem i_M_rule_48 : decode (mb 197) 48 = .ok (.iconst 2, 1) := by decide +kernel
theorem i_M_rule_49 : decode (mb 197) 49 = .ok (.iastore, 1) := by decide +kernel
theorem i_M_rule_50 : decode (mb 197) 50 = .ok (.aload_n 0, 1) := by decide +kernel
theorem i_M_rule_51 : decode (mb 197) 51 = .ok (.getfield 28, 3) := by decide +kernel
theorem i_M_rule_54 : decode (mb 197) 54 = .ok (.iload_n 1, 1) := by decide +kernel
theorem i_M_rule_55 : decode (mb 197) 55 = .ok (.iload_n 2, 1) := by decide +kernel
theorem i_M_rule_56 : decode (mb 197) 56 = .ok (.iastore, 1) := by decide +kernel
theorem i_M_rule_57 : decode (mb 197) 57 = .ok (.aload_n 0, 1) := by decide +kernel
theorem i_M_rule_58 : decode (mb 197) 58 = .ok (.getfield 31, 3) := by decide +kernel
theorem i_M_rule_61 : decode (mb 197) 61 = .ok (.iload_n 1, 1) := by decide +kernel
theorem i_M_rule_62 : decode (mb 197) 62 = .ok (.iload_n 3, 1) := by decide +kernel
theorem i_M_rule_63 : decode (mb 197) 63 = .ok (.iastore, 1) := by decide +kernel
theorem i_M_rule_64 : decode (mb 197) 64 = .ok (.iconst 1, 1) := by decide +kernel
theorem i_M_rule_65 : decode (mb 197) 65 = .ok (.ireturn, 1) := by decide +kernel
theorem o_M_says : (mn 198).cls = "NeedsALoserModel" := by decide +kernel
theorem l_M_says : ml 198 = 3 := by decide +kernel
theorem t_M_says : mr 198 = some (FieldType.int) := by decide +kernel
theorem i_M_says_0 : decode (mb 198) 0 = .ok (.iload_n 1, 1) := by decide +kernel
theorem i_M_says_1 : decode (mb 198) 1 = .ok (.i2l, 1) := by decide +kernel
theorem i_M_says_2 : decode (mb 198) 2 = .ok (.lconst 0, 1) := by decide +kernel
theorem i_M_says_3 : decode (mb 198) 3 = .ok (.ldc2_w 83, 3) := by decide +kernel
theorem i_M_says_6 : decode (mb 198) 6 = .ok (.invokestatic 76, 3) := by decide +kernel
theorem i_M_says_9 : decode (mb 198) 9 = .ok (.ifCond .eq 15, 3) := by decide +kernel
theorem i_M_says_12 : decode (mb 198) 12 = .ok (.iload_n 2, 1) := by decide +kernel
theorem i_M_says_13 : decode (mb 198) 13 = .ok (.i2l, 1) := by decide +kernel
theorem i_M_says_14 : decode (mb 198) 14 = .ok (.lconst 0, 1) := by decide +kernel
theorem i_M_says_15 : decode (mb 198) 15 = .ok (.ldc2_w 100, 3) := by decide +kernel
theorem i_M_says_18 : decode (mb 198) 18 = .ok (.invokestatic 76, 3) := by decide +kernel
theorem i_M_says_21 : decode (mb 198) 21 = .ok (.ifCond .ne 10, 3) := by decide +kernel
theorem i_M_says_24 : decode (mb 198) 24 = .ok (.aload_n 0, 1) := by decide +kernel
theorem i_M_says_25 : decode (mb 198) 25 = .ok (.bipush (-2), 2) := by decide +kernel
theorem i_M_says_27 : decode (mb 198) 27 = .ok (.invokevirtual 89, 3) := by decide +kernel
theorem i_M_says_30 : decode (mb 198) 30 = .ok (.ireturn, 1) := by decide +kernel
theorem i_M_says_31 : decode (mb 198) 31 = .ok (.aload_n 0, 1) := by decide +kernel
theorem i_M_says_32 : decode (mb 198) 32 = .ok (.getfield 7, 3) := by decide +kernel
theorem i_M_says_35 : decode (mb 198) 35 = .ok (.iload_n 1, 1) := by decide +kernel
theorem i_M_says_36 : decode (mb 198) 36 = .ok (.iaload, 1) := by decide +kernel
theorem i_M_says_37 : decode (mb 198) 37 = .ok (.iconst 1, 1) := by decide +kernel
theorem i_M_says_38 : decode (mb 198) 38 = .ok (.if_icmp .eq 26, 3) := by decide +kernel
theorem i_M_says_41 : decode (mb 198) 41 = .ok (.aload_n 0, 1) := by decide +kernel
theorem i_M_says_42 : decode (mb 198) 42 = .ok (.getfield 7, 3) := by decide +kernel
theorem i_M_says_45 : decode (mb 198) 45 = .ok (.iload_n 1, 1) := by decide +kernel
theorem i_M_says_46 : decode (mb 198) 46 = .ok (.iaload, 1) := by decide +kernel
theorem i_M_says_47 : decode (mb 198) 47 = .ok (.iconst 2, 1) := by decide +kernel
theorem i_M_says_48 : decode (mb 198) 48 = .ok (.if_icmp .ne 23, 3) := by decide +kernel
theorem i_M_says_51 : decode (mb 198) 51 = .ok (.aload_n 0, 1) := by decide +kernel
theorem i_M_says_52 : decode (mb 198) 52 = .ok (.getfield 28, 3) := by decide +kernel
theorem i_M_says_55 : decode (mb 198) 55 = .ok (.iload_n 1, 1) := by decide +kernel
theorem i_M_says_56 : decode (mb 198) 56 = .ok (.iaload, 1) := by decide +kernel
theorem i_M_says_57 : decode (mb 198) 57 = .ok (.iload_n 2, 1) := by decide +kernel
theorem i_M_says_58 : decode (mb 198) 58 = .ok (.invokestatic 104, 3) := by decide +kernel
theorem i_M_says_61 : decode (mb 198) 61 = .ok (.ifCond .ne 10, 3) := by decide +kernel
theorem i_M_says_64 : decode (mb 198) 64 = .ok (.aload_n 0, 1) := by decide +kernel
theorem i_M_says_65 : decode (mb 198) 65 = .ok (.bipush (-3), 2) := by decide +kernel
theorem i_M_says_67 : decode (mb 198) 67 = .ok (.invokevirtual 89, 3) := by decide +kernel
theorem i_M_says_70 : decode (mb 198) 70 = .ok (.ireturn, 1) := by decide +kernel
theorem i_M_says_71 : decode (mb 198) 71 = .ok (.aload_n 0, 1) := by decide +kernel
theorem i_M_says_72 : decode (mb 198) 72 = .ok (.getfield 7, 3) := by decide +kernel
theorem i_M_says_75 : decode (mb 198) 75 = .ok (.iload_n 1, 1) := by decide +kernel
theorem i_M_says_76 : decode (mb 198) 76 = .ok (.iaload, 1) := by decide +kernel
theorem i_M_says_77 : decode (mb 198) 77 = .ok (.ifCond .ne 10, 3) := by decide +kernel
theorem i_M_says_80 : decode (mb 198) 80 = .ok (.aload_n 0, 1) := by decide +kernel
theorem i_M_says_81 : decode (mb 198) 81 = .ok (.bipush (-4), 2) := by decide +kernel
theorem i_M_says_83 : decode (mb 198) 83 = .ok (.invokevirtual 89, 3) := by decide +kernel
theorem i_M_says_86 : decode (mb 198) 86 = .ok (.ireturn, 1) := by decide +kernel
theorem i_M_says_87 : decode (mb 198) 87 = .ok (.iload_n 2, 1) := by decide +kernel
theorem i_M_says_88 : decode (mb 198) 88 = .ok (.ifCond .ne 10, 3) := by decide +kernel
theorem i_M_says_91 : decode (mb 198) 91 = .ok (.aload_n 0, 1) := by decide +kernel
theorem i_M_says_92 : decode (mb 198) 92 = .ok (.getfield 31, 3) := by decide +kernel
theorem i_M_says_95 : decode (mb 198) 95 = .ok (.iload_n 1, 1) := by decide +kernel
theorem i_M_says_96 : decode (mb 198) 96 = .ok (.iaload, 1) := by decide +kernel
theorem i_M_says_97 : decode (mb 198) 97 = .ok (.ireturn, 1) := by decide +kernel
theorem i_M_says_98 : decode (mb 198) 98 = .ok (.aload_n 0, 1) := by decide +kernel
theorem i_M_says_99 : decode (mb 198) 99 = .ok (.getfield 80, 3) := by decide +kernel
theorem i_M_says_102 : decode (mb 198) 102 = .ok (.ifCond .ne 12, 3) := by decide +kernel
theorem i_M_says_105 : decode (mb 198) 105 = .ok (.aload_n 0, 1) := by decide +kernel
theorem i_M_says_106 : decode (mb 198) 106 = .ok (.bipush (-5), 2) := by decide +kernel
theorem i_M_says_108 : decode (mb 198) 108 = .ok (.invokevirtual 89, 3) := by decide +kernel
theorem i_M_says_111 : decode (mb 198) 111 = .ok (.goto 21, 3) := by decide +kernel
theorem i_M_says_114 : decode (mb 198) 114 = .ok (.aload_n 0, 1) := by decide +kernel
theorem i_M_says_115 : decode (mb 198) 115 = .ok (.aload_n 0, 1) := by decide +kernel
theorem i_M_says_116 : decode (mb 198) 116 = .ok (.getfield 28, 3) := by decide +kernel
theorem i_M_says_119 : decode (mb 198) 119 = .ok (.iload_n 1, 1) := by decide +kernel
theorem i_M_says_120 : decode (mb 198) 120 = .ok (.iaload, 1) := by decide +kernel
theorem i_M_says_121 : decode (mb 198) 121 = .ok (.aload_n 0, 1) := by decide +kernel
theorem i_M_says_122 : decode (mb 198) 122 = .ok (.getfield 31, 3) := by decide +kernel
theorem i_M_says_125 : decode (mb 198) 125 = .ok (.iload_n 1, 1) := by decide +kernel
theorem i_M_says_126 : decode (mb 198) 126 = .ok (.iaload, 1) := by decide +kernel
theorem i_M_says_127 : decode (mb 198) 127 = .ok (.iconst 0, 1) := by decide +kernel
theorem i_M_says_128 : decode (mb 198) 128 = .ok (.iconst 0, 1) := by decide +kernel
theorem i_M_says_129 : decode (mb 198) 129 = .ok (.invokevirtual 108, 3) := by decide +kernel
theorem i_M_says_132 : decode (mb 198) 132 = .ok (.ireturn, 1) := by decide +kernel
theorem o_M_isUnder : (mn 199).cls = "NeedsALoserModel" := by decide +kernel
theorem l_M_isUnder : ml 199 = 2 := by decide +kernel
theorem t_M_isUnder : mr 199 = some (FieldType.boolean) := by decide +kernel
theorem i_M_isUnder_0 : decode (mb 199) 0 = .ok (.iload_n 1, 1) := by decide +kernel
theorem i_M_isUnder_1 : decode (mb 199) 1 = .ok (.ifCond .eq 28, 3) := by decide +kernel
theorem i_M_isUnder_4 : decode (mb 199) 4 = .ok (.iload_n 0, 1) := by decide +kernel
theorem i_M_isUnder_5 : decode (mb 199) 5 = .ok (.iload_n 1, 1) := by decide +kernel
theorem i_M_isUnder_6 : decode (mb 199) 6 = .ok (.if_icmp .eq 23, 3) := by decide +kernel
theorem i_M_isUnder_9 : decode (mb 199) 9 = .ok (.iload_n 1, 1) := by decide +kernel
theorem i_M_isUnder_10 : decode (mb 199) 10 = .ok (.iconst 1, 1) := by decide +kernel
theorem i_M_isUnder_11 : decode (mb 199) 11 = .ok (.if_icmp .ne 22, 3) := by decide +kernel
theorem i_M_isUnder_14 : decode (mb 199) 14 = .ok (.iload_n 0, 1) := by decide +kernel
theorem i_M_isUnder_15 : decode (mb 199) 15 = .ok (.iconst 2, 1) := by decide +kernel
theorem i_M_isUnder_16 : decode (mb 199) 16 = .ok (.if_icmp .eq 13, 3) := by decide +kernel
theorem i_M_isUnder_19 : decode (mb 199) 19 = .ok (.iload_n 0, 1) := by decide +kernel
theorem i_M_isUnder_20 : decode (mb 199) 20 = .ok (.iconst 3, 1) := by decide +kernel
theorem i_M_isUnder_21 : decode (mb 199) 21 = .ok (.if_icmp .eq 8, 3) := by decide +kernel
theorem i_M_isUnder_24 : decode (mb 199) 24 = .ok (.iload_n 0, 1) := by decide +kernel
theorem i_M_isUnder_25 : decode (mb 199) 25 = .ok (.iconst 5, 1) := by decide +kernel
theorem i_M_isUnder_26 : decode (mb 199) 26 = .ok (.if_icmp .ne 7, 3) := by decide +kernel
theorem i_M_isUnder_29 : decode (mb 199) 29 = .ok (.iconst 1, 1) := by decide +kernel
theorem i_M_isUnder_30 : decode (mb 199) 30 = .ok (.goto 4, 3) := by decide +kernel
theorem i_M_isUnder_33 : decode (mb 199) 33 = .ok (.iconst 0, 1) := by decide +kernel
theorem i_M_isUnder_34 : decode (mb 199) 34 = .ok (.ireturn, 1) := by decide +kernel
theorem o_M_names : (mn 200).cls = "NeedsALoserModel" := by decide +kernel
theorem l_M_names : ml 200 = 8 := by decide +kernel
theorem t_M_names : mr 200 = some (FieldType.int) := by decide +kernel
theorem i_M_names_0 : decode (mb 200) 0 = .ok (.iconst (-1), 1) := by decide +kernel
theorem i_M_names_1 : decode (mb 200) 1 = .ok (.istore 5, 2) := by decide +kernel
theorem i_M_names_3 : decode (mb 200) 3 = .ok (.iload_n 1, 1) := by decide +kernel
theorem i_M_names_4 : decode (mb 200) 4 = .ok (.tableswitch 243 1 5 #[36, 44, 76, 141, 210], 36) := by decide +kernel
theorem i_M_names_40 : decode (mb 200) 40 = .ok (.aload_n 0, 1) := by decide +kernel
theorem i_M_names_41 : decode (mb 200) 41 = .ok (.iload_n 3, 1) := by decide +kernel
theorem i_M_names_42 : decode (mb 200) 42 = .ok (.iload 4, 2) := by decide +kernel
theorem i_M_names_44 : decode (mb 200) 44 = .ok (.invokevirtual 258, 3) := by decide +kernel
theorem i_M_names_47 : decode (mb 200) 47 = .ok (.ireturn, 1) := by decide +kernel
theorem i_M_names_48 : decode (mb 200) 48 = .ok (.aload_n 0, 1) := by decide +kernel
theorem i_M_names_49 : decode (mb 200) 49 = .ok (.iload_n 2, 1) := by decide +kernel
theorem i_M_names_50 : decode (mb 200) 50 = .ok (.i2l, 1) := by decide +kernel
theorem i_M_names_51 : decode (mb 200) 51 = .ok (.invokevirtual 112, 3) := by decide +kernel
theorem i_M_names_54 : decode (mb 200) 54 = .ok (.ifCond .eq 18, 3) := by decide +kernel
theorem i_M_names_57 : decode (mb 200) 57 = .ok (.aload_n 0, 1) := by decide +kernel
theorem i_M_names_58 : decode (mb 200) 58 = .ok (.iload_n 3, 1) := by decide +kernel
theorem i_M_names_59 : decode (mb 200) 59 = .ok (.iload_n 2, 1) := by decide +kernel
theorem i_M_names_60 : decode (mb 200) 60 = .ok (.iload 4, 2) := by decide +kernel
theorem i_M_names_62 : decode (mb 200) 62 = .ok (.invokevirtual 255, 3) := by decide +kernel
theorem i_M_names_65 : decode (mb 200) 65 = .ok (.ifCond .eq 7, 3) := by decide +kernel
theorem i_M_names_68 : decode (mb 200) 68 = .ok (.iload_n 2, 1) := by decide +kernel
theorem i_M_names_69 : decode (mb 200) 69 = .ok (.goto 10, 3) := by decide +kernel
theorem i_M_names_72 : decode (mb 200) 72 = .ok (.aload_n 0, 1) := by decide +kernel
theorem i_M_names_73 : decode (mb 200) 73 = .ok (.iload_n 3, 1) := by decide +kernel
theorem i_M_names_74 : decode (mb 200) 74 = .ok (.iload 4, 2) := by decide +kernel
theorem i_M_names_76 : decode (mb 200) 76 = .ok (.invokevirtual 258, 3) := by decide +kernel
theorem i_M_names_79 : decode (mb 200) 79 = .ok (.ireturn, 1) := by decide +kernel
theorem i_M_names_80 : decode (mb 200) 80 = .ok (.iconst 0, 1) := by decide +kernel
theorem i_M_names_81 : decode (mb 200) 81 = .ok (.istore 6, 2) := by decide +kernel
theorem i_M_names_83 : decode (mb 200) 83 = .ok (.iload 6, 2) := by decide +kernel
theorem i_M_names_85 : decode (mb 200) 85 = .ok (.aload_n 0, 1) := by decide +kernel
theorem i_M_names_86 : decode (mb 200) 86 = .ok (.getfield 73, 3) := by decide +kernel
theorem i_M_names_89 : decode (mb 200) 89 = .ok (.if_icmp .ge 53, 3) := by decide +kernel
theorem i_M_names_92 : decode (mb 200) 92 = .ok (.aload_n 0, 1) := by decide +kernel
theorem i_M_names_93 : decode (mb 200) 93 = .ok (.iload_n 3, 1) := by decide +kernel
theorem i_M_names_94 : decode (mb 200) 94 = .ok (.iload 6, 2) := by decide +kernel
theorem i_M_names_96 : decode (mb 200) 96 = .ok (.iload 4, 2) := by decide +kernel
theorem i_M_names_98 : decode (mb 200) 98 = .ok (.invokevirtual 255, 3) := by decide +kernel
theorem i_M_names_101 : decode (mb 200) 101 = .ok (.ifCond .eq 31, 3) := by decide +kernel
theorem i_M_names_104 : decode (mb 200) 104 = .ok (.iload 5, 2) := by decide +kernel
theorem i_M_names_106 : decode (mb 200) 106 = .ok (.iconst (-1), 1) := by decide +kernel
theorem i_M_names_107 : decode (mb 200) 107 = .ok (.if_icmp .eq 20, 3) := by decide +kernel
theorem i_M_names_110 : decode (mb 200) 110 = .ok (.aload_n 0, 1) := by decide +kernel
theorem i_M_names_111 : decode (mb 200) 111 = .ok (.getfield 40, 3) := by decide +kernel
theorem i_M_names_114 : decode (mb 200) 114 = .ok (.iload 6, 2) := by decide +kernel
theorem i_M_names_116 : decode (mb 200) 116 = .ok (.iaload, 1) := by decide +kernel
theorem i_M_names_117 : decode (mb 200) 117 = .ok (.aload_n 0, 1) := by decide +kernel
theorem i_M_names_118 : decode (mb 200) 118 = .ok (.getfield 40, 3) := by decide +kernel
theorem i_M_names_121 : decode (mb 200) 121 = .ok (.iload 5, 2) := by decide +kernel
theorem i_M_names_123 : decode (mb 200) 123 = .ok (.iaload, 1) := by decide +kernel
theorem i_M_names_124 : decode (mb 200) 124 = .ok (.if_icmp .le 8, 3) := by decide +kernel
theorem i_M_names_127 : decode (mb 200) 127 = .ok (.iload 6, 2) := by decide +kernel
theorem i_M_names_129 : decode (mb 200) 129 = .ok (.goto 5, 3) := by decide +kernel
theorem i_M_names_132 : decode (mb 200) 132 = .ok (.iload 5, 2) := by decide +kernel
theorem i_M_names_134 : decode (mb 200) 134 = .ok (.istore 5, 2) := by decide +kernel
theorem i_M_names_136 : decode (mb 200) 136 = .ok (.iinc 6 1, 3) := by decide +kernel
theorem i_M_names_139 : decode (mb 200) 139 = .ok (.goto (-56), 3) := by decide +kernel
theorem i_M_names_142 : decode (mb 200) 142 = .ok (.iload 5, 2) := by decide +kernel
theorem i_M_names_144 : decode (mb 200) 144 = .ok (.ireturn, 1) := by decide +kernel
theorem i_M_names_145 : decode (mb 200) 145 = .ok (.iconst 0, 1) := by decide +kernel
theorem i_M_names_146 : decode (mb 200) 146 = .ok (.istore 6, 2) := by decide +kernel
theorem i_M_names_148 : decode (mb 200) 148 = .ok (.iload 6, 2) := by decide +kernel
theorem i_M_names_150 : decode (mb 200) 150 = .ok (.aload_n 0, 1) := by decide +kernel
theorem i_M_names_151 : decode (mb 200) 151 = .ok (.getfield 73, 3) := by decide +kernel
theorem i_M_names_154 : decode (mb 200) 154 = .ok (.if_icmp .ge 57, 3) := by decide +kernel
theorem i_M_names_157 : decode (mb 200) 157 = .ok (.aload_n 0, 1) := by decide +kernel
theorem i_M_names_158 : decode (mb 200) 158 = .ok (.iload_n 3, 1) := by decide +kernel
theorem i_M_names_159 : decode (mb 200) 159 = .ok (.iload 6, 2) := by decide +kernel
theorem i_M_names_161 : decode (mb 200) 161 = .ok (.iload 4, 2) := by decide +kernel
theorem i_M_names_163 : decode (mb 200) 163 = .ok (.invokevirtual 255, 3) := by decide +kernel
theorem i_M_names_166 : decode (mb 200) 166 = .ok (.ifCond .eq 35, 3) := by decide +kernel
theorem i_M_names_169 : decode (mb 200) 169 = .ok (.iload 5, 2) := by decide +kernel
theorem i_M_names_171 : decode (mb 200) 171 = .ok (.iconst (-1), 1) := by decide +kernel
theorem i_M_names_172 : decode (mb 200) 172 = .ok (.if_icmp .eq 24, 3) := by decide +kernel
theorem i_M_names_175 : decode (mb 200) 175 = .ok (.aload_n 0, 1) := by decide +kernel
theorem i_M_names_176 : decode (mb 200) 176 = .ok (.getfield 51, 3) := by decide +kernel
theorem i_M_names_179 : decode (mb 200) 179 = .ok (.iload_n 3, 1) := by decide +kernel
theorem i_M_names_180 : decode (mb 200) 180 = .ok (.aaload, 1) := by decide +kernel
theorem i_M_names_181 : decode (mb 200) 181 = .ok (.iload 6, 2) := by decide +kernel
theorem i_M_names_183 : decode (mb 200) 183 = .ok (.iaload, 1) := by decide +kernel
theorem i_M_names_184 : decode (mb 200) 184 = .ok (.aload_n 0, 1) := by decide +kernel
theorem i_M_names_185 : decode (mb 200) 185 = .ok (.getfield 51, 3) := by decide +kernel
theorem i_M_names_188 : decode (mb 200) 188 = .ok (.iload_n 3, 1) := by decide +kernel
theorem i_M_names_189 : decode (mb 200) 189 = .ok (.aaload, 1) := by decide +kernel
theorem i_M_names_190 : decode (mb 200) 190 = .ok (.iload 5, 2) := by decide +kernel
theorem i_M_names_192 : decode (mb 200) 192 = .ok (.iaload, 1) := by decide +kernel
theorem i_M_names_193 : decode (mb 200) 193 = .ok (.if_icmp .le 8, 3) := by decide +kernel
theorem i_M_names_196 : decode (mb 200) 196 = .ok (.iload 6, 2) := by decide +kernel
theorem i_M_names_198 : decode (mb 200) 198 = .ok (.goto 5, 3) := by decide +kernel
theorem i_M_names_201 : decode (mb 200) 201 = .ok (.iload 5, 2) := by decide +kernel
theorem i_M_names_203 : decode (mb 200) 203 = .ok (.istore 5, 2) := by decide +kernel
theorem i_M_names_205 : decode (mb 200) 205 = .ok (.iinc 6 1, 3) := by decide +kernel
theorem i_M_names_208 : decode (mb 200) 208 = .ok (.goto (-60), 3) := by decide +kernel
theorem i_M_names_211 : decode (mb 200) 211 = .ok (.iload 5, 2) := by decide +kernel
theorem i_M_names_213 : decode (mb 200) 213 = .ok (.ireturn, 1) := by decide +kernel
theorem i_M_names_214 : decode (mb 200) 214 = .ok (.aload_n 0, 1) := by decide +kernel
theorem i_M_names_215 : decode (mb 200) 215 = .ok (.iload_n 3, 1) := by decide +kernel
theorem i_M_names_216 : decode (mb 200) 216 = .ok (.iload 4, 2) := by decide +kernel
theorem i_M_names_218 : decode (mb 200) 218 = .ok (.invokevirtual 258, 3) := by decide +kernel
theorem i_M_names_221 : decode (mb 200) 221 = .ok (.istore 5, 2) := by decide +kernel
theorem i_M_names_223 : decode (mb 200) 223 = .ok (.iload 5, 2) := by decide +kernel
theorem i_M_names_225 : decode (mb 200) 225 = .ok (.iconst (-1), 1) := by decide +kernel
theorem i_M_names_226 : decode (mb 200) 226 = .ok (.if_icmp .eq 18, 3) := by decide +kernel
theorem i_M_names_229 : decode (mb 200) 229 = .ok (.aload_n 0, 1) := by decide +kernel
theorem i_M_names_230 : decode (mb 200) 230 = .ok (.iload_n 3, 1) := by decide +kernel
theorem i_M_names_231 : decode (mb 200) 231 = .ok (.iload 5, 2) := by decide +kernel
theorem i_M_names_233 : decode (mb 200) 233 = .ok (.invokevirtual 251, 3) := by decide +kernel
theorem i_M_names_236 : decode (mb 200) 236 = .ok (.iload_n 2, 1) := by decide +kernel
theorem i_M_names_237 : decode (mb 200) 237 = .ok (.if_icmp .ge 7, 3) := by decide +kernel
theorem i_M_names_240 : decode (mb 200) 240 = .ok (.iconst (-1), 1) := by decide +kernel
theorem i_M_names_241 : decode (mb 200) 241 = .ok (.goto 5, 3) := by decide +kernel
theorem i_M_names_244 : decode (mb 200) 244 = .ok (.iload 5, 2) := by decide +kernel
theorem i_M_names_246 : decode (mb 200) 246 = .ok (.ireturn, 1) := by decide +kernel
theorem i_M_names_247 : decode (mb 200) 247 = .ok (.iconst 0, 1) := by decide +kernel
theorem i_M_names_248 : decode (mb 200) 248 = .ok (.istore 6, 2) := by decide +kernel
theorem i_M_names_250 : decode (mb 200) 250 = .ok (.iload 6, 2) := by decide +kernel
theorem i_M_names_252 : decode (mb 200) 252 = .ok (.aload_n 0, 1) := by decide +kernel
theorem i_M_names_253 : decode (mb 200) 253 = .ok (.getfield 73, 3) := by decide +kernel
theorem i_M_names_256 : decode (mb 200) 256 = .ok (.if_icmp .ge 35, 3) := by decide +kernel
theorem i_M_names_259 : decode (mb 200) 259 = .ok (.iload_n 2, 1) := by decide +kernel
theorem i_M_names_260 : decode (mb 200) 260 = .ok (.iload 6, 2) := by decide +kernel
theorem i_M_names_262 : decode (mb 200) 262 = .ok (.iadd, 1) := by decide +kernel
theorem i_M_names_263 : decode (mb 200) 263 = .ok (.aload_n 0, 1) := by decide +kernel
theorem i_M_names_264 : decode (mb 200) 264 = .ok (.getfield 73, 3) := by decide +kernel
theorem i_M_names_267 : decode (mb 200) 267 = .ok (.irem, 1) := by decide +kernel
theorem i_M_names_268 : decode (mb 200) 268 = .ok (.istore 7, 2) := by decide +kernel
theorem i_M_names_270 : decode (mb 200) 270 = .ok (.aload_n 0, 1) := by decide +kernel
theorem i_M_names_271 : decode (mb 200) 271 = .ok (.iload_n 3, 1) := by decide +kernel
theorem i_M_names_272 : decode (mb 200) 272 = .ok (.iload 7, 2) := by decide +kernel
theorem i_M_names_274 : decode (mb 200) 274 = .ok (.iload 4, 2) := by decide +kernel
theorem i_M_names_276 : decode (mb 200) 276 = .ok (.invokevirtual 255, 3) := by decide +kernel
theorem i_M_names_279 : decode (mb 200) 279 = .ok (.ifCond .eq 6, 3) := by decide +kernel
theorem i_M_names_282 : decode (mb 200) 282 = .ok (.iload 7, 2) := by decide +kernel
theorem i_M_names_284 : decode (mb 200) 284 = .ok (.ireturn, 1) := by decide +kernel
theorem i_M_names_285 : decode (mb 200) 285 = .ok (.iinc 6 1, 3) := by decide +kernel
theorem i_M_names_288 : decode (mb 200) 288 = .ok (.goto (-38), 3) := by decide +kernel
theorem i_M_names_291 : decode (mb 200) 291 = .ok (.iconst (-1), 1) := by decide +kernel
theorem i_M_names_292 : decode (mb 200) 292 = .ok (.ireturn, 1) := by decide +kernel
theorem o_M_mildest : (mn 201).cls = "NeedsALoserModel" := by decide +kernel
theorem l_M_mildest : ml 201 = 5 := by decide +kernel
theorem t_M_mildest : mr 201 = some (FieldType.int) := by decide +kernel
theorem i_M_mildest_0 : decode (mb 201) 0 = .ok (.iconst (-1), 1) := by decide +kernel
theorem i_M_mildest_1 : decode (mb 201) 1 = .ok (.istore_n 3, 1) := by decide +kernel
theorem i_M_mildest_2 : decode (mb 201) 2 = .ok (.iconst 0, 1) := by decide +kernel
theorem i_M_mildest_3 : decode (mb 201) 3 = .ok (.istore 4, 2) := by decide +kernel
theorem i_M_mildest_5 : decode (mb 201) 5 = .ok (.iload 4, 2) := by decide +kernel
theorem i_M_mildest_7 : decode (mb 201) 7 = .ok (.aload_n 0, 1) := by decide +kernel
theorem i_M_mildest_8 : decode (mb 201) 8 = .ok (.getfield 73, 3) := by decide +kernel
theorem i_M_mildest_11 : decode (mb 201) 11 = .ok (.if_icmp .ge 52, 3) := by decide +kernel
theorem i_M_mildest_14 : decode (mb 201) 14 = .ok (.aload_n 0, 1) := by decide +kernel
theorem i_M_mildest_15 : decode (mb 201) 15 = .ok (.iload_n 1, 1) := by decide +kernel
theorem i_M_mildest_16 : decode (mb 201) 16 = .ok (.iload 4, 2) := by decide +kernel
theorem i_M_mildest_18 : decode (mb 201) 18 = .ok (.iload_n 2, 1) := by decide +kernel
theorem i_M_mildest_19 : decode (mb 201) 19 = .ok (.invokevirtual 255, 3) := by decide +kernel
theorem i_M_mildest_22 : decode (mb 201) 22 = .ok (.ifCond .eq 33, 3) := by decide +kernel
theorem i_M_mildest_25 : decode (mb 201) 25 = .ok (.iload_n 3, 1) := by decide +kernel
theorem i_M_mildest_26 : decode (mb 201) 26 = .ok (.iconst (-1), 1) := by decide +kernel
theorem i_M_mildest_27 : decode (mb 201) 27 = .ok (.if_icmp .eq 23, 3) := by decide +kernel
theorem i_M_mildest_30 : decode (mb 201) 30 = .ok (.aload_n 0, 1) := by decide +kernel
theorem i_M_mildest_31 : decode (mb 201) 31 = .ok (.getfield 51, 3) := by decide +kernel
theorem i_M_mildest_34 : decode (mb 201) 34 = .ok (.iload_n 1, 1) := by decide +kernel
theorem i_M_mildest_35 : decode (mb 201) 35 = .ok (.aaload, 1) := by decide +kernel
theorem i_M_mildest_36 : decode (mb 201) 36 = .ok (.iload 4, 2) := by decide +kernel
theorem i_M_mildest_38 : decode (mb 201) 38 = .ok (.iaload, 1) := by decide +kernel
theorem i_M_mildest_39 : decode (mb 201) 39 = .ok (.aload_n 0, 1) := by decide +kernel
theorem i_M_mildest_40 : decode (mb 201) 40 = .ok (.getfield 51, 3) := by decide +kernel
theorem i_M_mildest_43 : decode (mb 201) 43 = .ok (.iload_n 1, 1) := by decide +kernel
theorem i_M_mildest_44 : decode (mb 201) 44 = .ok (.aaload, 1) := by decide +kernel
theorem i_M_mildest_45 : decode (mb 201) 45 = .ok (.iload_n 3, 1) := by decide +kernel
theorem i_M_mildest_46 : decode (mb 201) 46 = .ok (.iaload, 1) := by decide +kernel
theorem i_M_mildest_47 : decode (mb 201) 47 = .ok (.if_icmp .ge 8, 3) := by decide +kernel
theorem i_M_mildest_50 : decode (mb 201) 50 = .ok (.iload 4, 2) := by decide +kernel
theorem i_M_mildest_52 : decode (mb 201) 52 = .ok (.goto 4, 3) := by decide +kernel
theorem i_M_mildest_55 : decode (mb 201) 55 = .ok (.iload_n 3, 1) := by decide +kernel
theorem i_M_mildest_56 : decode (mb 201) 56 = .ok (.istore_n 3, 1) := by decide +kernel
theorem i_M_mildest_57 : decode (mb 201) 57 = .ok (.iinc 4 1, 3) := by decide +kernel
theorem i_M_mildest_60 : decode (mb 201) 60 = .ok (.goto (-55), 3) := by decide +kernel
theorem i_M_mildest_63 : decode (mb 201) 63 = .ok (.iload_n 3, 1) := by decide +kernel
theorem i_M_mildest_64 : decode (mb 201) 64 = .ok (.ireturn, 1) := by decide +kernel
theorem o_M_may : (mn 202).cls = "NeedsALoserModel" := by decide +kernel
theorem l_M_may : ml 202 = 4 := by decide +kernel
theorem t_M_may : mr 202 = some (FieldType.boolean) := by decide +kernel
theorem i_M_may_0 : decode (mb 202) 0 = .ok (.aload_n 0, 1) := by decide +kernel
theorem i_M_may_1 : decode (mb 202) 1 = .ok (.iload_n 1, 1) := by decide +kernel
theorem i_M_may_2 : decode (mb 202) 2 = .ok (.iload_n 2, 1) := by decide +kernel
theorem i_M_may_3 : decode (mb 202) 3 = .ok (.invokevirtual 243, 3) := by decide +kernel
theorem i_M_may_6 : decode (mb 202) 6 = .ok (.ifCond .eq 24, 3) := by decide +kernel
theorem i_M_may_9 : decode (mb 202) 9 = .ok (.aload_n 0, 1) := by decide +kernel
theorem i_M_may_10 : decode (mb 202) 10 = .ok (.getfield 54, 3) := by decide +kernel
theorem i_M_may_13 : decode (mb 202) 13 = .ok (.iconst 1, 1) := by decide +kernel
theorem i_M_may_14 : decode (mb 202) 14 = .ok (.iaload, 1) := by decide +kernel
theorem i_M_may_15 : decode (mb 202) 15 = .ok (.ifCond .eq 11, 3) := by decide +kernel
theorem i_M_may_18 : decode (mb 202) 18 = .ok (.iload_n 3, 1) := by decide +kernel
theorem i_M_may_19 : decode (mb 202) 19 = .ok (.iload_n 2, 1) := by decide +kernel
theorem i_M_may_20 : decode (mb 202) 20 = .ok (.invokestatic 122, 3) := by decide +kernel
theorem i_M_may_23 : decode (mb 202) 23 = .ok (.ifCond .ne 7, 3) := by decide +kernel
theorem i_M_may_26 : decode (mb 202) 26 = .ok (.iconst 1, 1) := by decide +kernel
theorem i_M_may_27 : decode (mb 202) 27 = .ok (.goto 4, 3) := by decide +kernel
theorem i_M_may_30 : decode (mb 202) 30 = .ok (.iconst 0, 1) := by decide +kernel
theorem i_M_may_31 : decode (mb 202) 31 = .ok (.ireturn, 1) := by decide +kernel
theorem o_M_isGood : (mn 203).cls = "NeedsALoserModel" := by decide +kernel
theorem l_M_isGood : ml 203 = 3 := by decide +kernel
theorem t_M_isGood : mr 203 = some (FieldType.boolean) := by decide +kernel
theorem i_M_isGood_0 : decode (mb 203) 0 = .ok (.aload_n 0, 1) := by decide +kernel
theorem i_M_isGood_1 : decode (mb 203) 1 = .ok (.iload_n 1, 1) := by decide +kernel
theorem i_M_isGood_2 : decode (mb 203) 2 = .ok (.iload_n 2, 1) := by decide +kernel
theorem i_M_isGood_3 : decode (mb 203) 3 = .ok (.invokevirtual 240, 3) := by decide +kernel
theorem i_M_isGood_6 : decode (mb 203) 6 = .ok (.ifCond .ne 24, 3) := by decide +kernel
theorem i_M_isGood_9 : decode (mb 203) 9 = .ok (.aload_n 0, 1) := by decide +kernel
theorem i_M_isGood_10 : decode (mb 203) 10 = .ok (.getfield 51, 3) := by decide +kernel
theorem i_M_isGood_13 : decode (mb 203) 13 = .ok (.iload_n 1, 1) := by decide +kernel
theorem i_M_isGood_14 : decode (mb 203) 14 = .ok (.aaload, 1) := by decide +kernel
theorem i_M_isGood_15 : decode (mb 203) 15 = .ok (.iload_n 2, 1) := by decide +kernel
theorem i_M_isGood_16 : decode (mb 203) 16 = .ok (.iaload, 1) := by decide +kernel
theorem i_M_isGood_17 : decode (mb 203) 17 = .ok (.aload_n 0, 1) := by decide +kernel
theorem i_M_isGood_18 : decode (mb 203) 18 = .ok (.getfield 54, 3) := by decide +kernel
theorem i_M_isGood_21 : decode (mb 203) 21 = .ok (.iconst 0, 1) := by decide +kernel
theorem i_M_isGood_22 : decode (mb 203) 22 = .ok (.iaload, 1) := by decide +kernel
theorem i_M_isGood_23 : decode (mb 203) 23 = .ok (.if_icmp .lt 7, 3) := by decide +kernel
theorem i_M_isGood_26 : decode (mb 203) 26 = .ok (.iconst 1, 1) := by decide +kernel
theorem i_M_isGood_27 : decode (mb 203) 27 = .ok (.goto 4, 3) := by decide +kernel
theorem i_M_isGood_30 : decode (mb 203) 30 = .ok (.iconst 0, 1) := by decide +kernel
theorem i_M_isGood_31 : decode (mb 203) 31 = .ok (.ireturn, 1) := by decide +kernel
theorem o_M_isParty : (mn 204).cls = "NeedsALoserModel" := by decide +kernel
theorem l_M_isParty : ml 204 = 3 := by decide +kernel
theorem t_M_isParty : mr 204 = some (FieldType.boolean) := by decide +kernel
theorem i_M_isParty_0 : decode (mb 204) 0 = .ok (.aload_n 0, 1) := by decide +kernel
theorem i_M_isParty_1 : decode (mb 204) 1 = .ok (.getfield 48, 3) := by decide +kernel
theorem i_M_isParty_4 : decode (mb 204) 4 = .ok (.iload_n 1, 1) := by decide +kernel
theorem i_M_isParty_5 : decode (mb 204) 5 = .ok (.aaload, 1) := by decide +kernel
theorem i_M_isParty_6 : decode (mb 204) 6 = .ok (.iconst 0, 1) := by decide +kernel
theorem i_M_isParty_7 : decode (mb 204) 7 = .ok (.iaload, 1) := by decide +kernel
theorem i_M_isParty_8 : decode (mb 204) 8 = .ok (.iload_n 2, 1) := by decide +kernel
theorem i_M_isParty_9 : decode (mb 204) 9 = .ok (.if_icmp .eq 15, 3) := by decide +kernel
theorem i_M_isParty_12 : decode (mb 204) 12 = .ok (.aload_n 0, 1) := by decide +kernel
theorem i_M_isParty_13 : decode (mb 204) 13 = .ok (.getfield 48, 3) := by decide +kernel
theorem i_M_isParty_16 : decode (mb 204) 16 = .ok (.iload_n 1, 1) := by decide +kernel
theorem i_M_isParty_17 : decode (mb 204) 17 = .ok (.aaload, 1) := by decide +kernel
theorem i_M_isParty_18 : decode (mb 204) 18 = .ok (.iconst 1, 1) := by decide +kernel
theorem i_M_isParty_19 : decode (mb 204) 19 = .ok (.iaload, 1) := by decide +kernel
theorem i_M_isParty_20 : decode (mb 204) 20 = .ok (.iload_n 2, 1) := by decide +kernel
theorem i_M_isParty_21 : decode (mb 204) 21 = .ok (.if_icmp .ne 7, 3) := by decide +kernel
theorem i_M_isParty_24 : decode (mb 204) 24 = .ok (.iconst 1, 1) := by decide +kernel
theorem i_M_isParty_25 : decode (mb 204) 25 = .ok (.goto 4, 3) := by decide +kernel
theorem i_M_isParty_28 : decode (mb 204) 28 = .ok (.iconst 0, 1) := by decide +kernel
theorem i_M_isParty_29 : decode (mb 204) 29 = .ok (.ireturn, 1) := by decide +kernel
theorem o_M_has : (mn 205).cls = "NeedsALoserModel" := by decide +kernel
theorem l_M_has : ml 205 = 2 := by decide +kernel
theorem t_M_has : mr 205 = some (FieldType.boolean) := by decide +kernel
theorem i_M_has_0 : decode (mb 205) 0 = .ok (.iload_n 0, 1) := by decide +kernel
theorem i_M_has_1 : decode (mb 205) 1 = .ok (.iload_n 1, 1) := by decide +kernel
theorem i_M_has_2 : decode (mb 205) 2 = .ok (.ishr, 1) := by decide +kernel
theorem i_M_has_3 : decode (mb 205) 3 = .ok (.iconst 1, 1) := by decide +kernel
theorem i_M_has_4 : decode (mb 205) 4 = .ok (.iand, 1) := by decide +kernel
theorem i_M_has_5 : decode (mb 205) 5 = .ok (.ifCond .eq 7, 3) := by decide +kernel
theorem i_M_has_8 : decode (mb 205) 8 = .ok (.iconst 1, 1) := by decide +kernel
theorem i_M_has_9 : decode (mb 205) 9 = .ok (.goto 4, 3) := by decide +kernel
theorem i_M_has_12 : decode (mb 205) 12 = .ok (.iconst 0, 1) := by decide +kernel
theorem i_M_has_13 : decode (mb 205) 13 = .ok (.ireturn, 1) := by decide +kernel
theorem o_M_isOne : (mn 206).cls = "NeedsALoserModel" := by decide +kernel
theorem l_M_isOne : ml 206 = 3 := by decide +kernel
theorem t_M_isOne : mr 206 = some (FieldType.boolean) := by decide +kernel
theorem i_M_isOne_0 : decode (mb 206) 0 = .ok (.lload_n 1, 1) := by decide +kernel
theorem i_M_isOne_1 : decode (mb 206) 1 = .ok (.lconst 0, 1) := by decide +kernel
theorem i_M_isOne_2 : decode (mb 206) 2 = .ok (.aload_n 0, 1) := by decide +kernel
theorem i_M_isOne_3 : decode (mb 206) 3 = .ok (.getfield 73, 3) := by decide +kernel
theorem i_M_isOne_6 : decode (mb 206) 6 = .ok (.iconst 1, 1) := by decide +kernel
theorem i_M_isOne_7 : decode (mb 206) 7 = .ok (.isub, 1) := by decide +kernel
theorem i_M_isOne_8 : decode (mb 206) 8 = .ok (.i2l, 1) := by decide +kernel
theorem i_M_isOne_9 : decode (mb 206) 9 = .ok (.invokestatic 76, 3) := by decide +kernel
theorem i_M_isOne_12 : decode (mb 206) 12 = .ok (.ireturn, 1) := by decide +kernel
theorem o_M_valueOf : (mn 207).cls = "NeedsALoserModel" := by decide +kernel
theorem l_M_valueOf : ml 207 = 3 := by decide +kernel
theorem t_M_valueOf : mr 207 = some (FieldType.int) := by decide +kernel
theorem i_M_valueOf_0 : decode (mb 207) 0 = .ok (.aload_n 0, 1) := by decide +kernel
theorem i_M_valueOf_1 : decode (mb 207) 1 = .ok (.iload_n 1, 1) := by decide +kernel
theorem i_M_valueOf_2 : decode (mb 207) 2 = .ok (.invokevirtual 246, 3) := by decide +kernel
theorem i_M_valueOf_5 : decode (mb 207) 5 = .ok (.aload_n 0, 1) := by decide +kernel
theorem i_M_valueOf_6 : decode (mb 207) 6 = .ok (.getfield 51, 3) := by decide +kernel
theorem i_M_valueOf_9 : decode (mb 207) 9 = .ok (.iload_n 1, 1) := by decide +kernel
theorem i_M_valueOf_10 : decode (mb 207) 10 = .ok (.aaload, 1) := by decide +kernel
theorem i_M_valueOf_11 : decode (mb 207) 11 = .ok (.iload_n 2, 1) := by decide +kernel
theorem i_M_valueOf_12 : decode (mb 207) 12 = .ok (.iaload, 1) := by decide +kernel
theorem i_M_valueOf_13 : decode (mb 207) 13 = .ok (.isub, 1) := by decide +kernel
theorem i_M_valueOf_14 : decode (mb 207) 14 = .ok (.ireturn, 1) := by decide +kernel
theorem o_M_gains : (mn 208).cls = "NeedsALoserModel" := by decide +kernel
theorem l_M_gains : ml 208 = 2 := by decide +kernel
theorem t_M_gains : mr 208 = some (FieldType.int) := by decide +kernel
theorem i_M_gains_0 : decode (mb 208) 0 = .ok (.aload_n 0, 1) := by decide +kernel
theorem i_M_gains_1 : decode (mb 208) 1 = .ok (.getfield 48, 3) := by decide +kernel
theorem i_M_gains_4 : decode (mb 208) 4 = .ok (.iload_n 1, 1) := by decide +kernel
theorem i_M_gains_5 : decode (mb 208) 5 = .ok (.aaload, 1) := by decide +kernel
theorem i_M_gains_6 : decode (mb 208) 6 = .ok (.iconst 2, 1) := by decide +kernel
theorem i_M_gains_7 : decode (mb 208) 7 = .ok (.iaload, 1) := by decide +kernel
theorem i_M_gains_8 : decode (mb 208) 8 = .ok (.aload_n 0, 1) := by decide +kernel
theorem i_M_gains_9 : decode (mb 208) 9 = .ok (.getfield 48, 3) := by decide +kernel
theorem i_M_gains_12 : decode (mb 208) 12 = .ok (.iload_n 1, 1) := by decide +kernel
theorem i_M_gains_13 : decode (mb 208) 13 = .ok (.aaload, 1) := by decide +kernel
theorem i_M_gains_14 : decode (mb 208) 14 = .ok (.iconst 3, 1) := by decide +kernel
theorem i_M_gains_15 : decode (mb 208) 15 = .ok (.iaload, 1) := by decide +kernel
theorem i_M_gains_16 : decode (mb 208) 16 = .ok (.iadd, 1) := by decide +kernel
theorem i_M_gains_17 : decode (mb 208) 17 = .ok (.ireturn, 1) := by decide +kernel
theorem o_M_one : (mn 209).cls = "NeedsALoserModel" := by decide +kernel
theorem l_M_one : ml 209 = 2 := by decide +kernel
theorem t_M_one : mr 209 = some (FieldType.int) := by decide +kernel
theorem i_M_one_0 : decode (mb 209) 0 = .ok (.aload_n 0, 1) := by decide +kernel
theorem i_M_one_1 : decode (mb 209) 1 = .ok (.getfield 73, 3) := by decide +kernel
theorem i_M_one_4 : decode (mb 209) 4 = .ok (.bipush 7, 2) := by decide +kernel
theorem i_M_one_6 : decode (mb 209) 6 = .ok (.if_icmp .ne 10, 3) := by decide +kernel
theorem i_M_one_9 : decode (mb 209) 9 = .ok (.aload_n 0, 1) := by decide +kernel
theorem i_M_one_10 : decode (mb 209) 10 = .ok (.bipush (-6), 2) := by decide +kernel
theorem i_M_one_12 : decode (mb 209) 12 = .ok (.invokevirtual 89, 3) := by decide +kernel
theorem i_M_one_15 : decode (mb 209) 15 = .ok (.ireturn, 1) := by decide +kernel
theorem i_M_one_16 : decode (mb 209) 16 = .ok (.aload_n 0, 1) := by decide +kernel
theorem i_M_one_17 : decode (mb 209) 17 = .ok (.getfield 40, 3) := by decide +kernel
theorem i_M_one_20 : decode (mb 209) 20 = .ok (.aload_n 0, 1) := by decide +kernel
theorem i_M_one_21 : decode (mb 209) 21 = .ok (.getfield 73, 3) := by decide +kernel
theorem i_M_one_24 : decode (mb 209) 24 = .ok (.iconst 0, 1) := by decide +kernel
theorem i_M_one_25 : decode (mb 209) 25 = .ok (.iastore, 1) := by decide +kernel
theorem i_M_one_26 : decode (mb 209) 26 = .ok (.aload_n 0, 1) := by decide +kernel
theorem i_M_one_27 : decode (mb 209) 27 = .ok (.getfield 43, 3) := by decide +kernel
theorem i_M_one_30 : decode (mb 209) 30 = .ok (.aload_n 0, 1) := by decide +kernel
theorem i_M_one_31 : decode (mb 209) 31 = .ok (.getfield 73, 3) := by decide +kernel
theorem i_M_one_34 : decode (mb 209) 34 = .ok (.iconst 0, 1) := by decide +kernel
theorem i_M_one_35 : decode (mb 209) 35 = .ok (.iastore, 1) := by decide +kernel
theorem i_M_one_36 : decode (mb 209) 36 = .ok (.iconst 0, 1) := by decide +kernel
theorem i_M_one_37 : decode (mb 209) 37 = .ok (.istore_n 1, 1) := by decide +kernel
theorem i_M_one_38 : decode (mb 209) 38 = .ok (.iload_n 1, 1) := by decide +kernel
theorem i_M_one_39 : decode (mb 209) 39 = .ok (.bipush 7, 2) := by decide +kernel
theorem i_M_one_41 : decode (mb 209) 41 = .ok (.if_icmp .ge 21, 3) := by decide +kernel
theorem i_M_one_44 : decode (mb 209) 44 = .ok (.aload_n 0, 1) := by decide +kernel
theorem i_M_one_45 : decode (mb 209) 45 = .ok (.getfield 51, 3) := by decide +kernel
theorem i_M_one_48 : decode (mb 209) 48 = .ok (.iload_n 1, 1) := by decide +kernel
theorem i_M_one_49 : decode (mb 209) 49 = .ok (.aaload, 1) := by decide +kernel
theorem i_M_one_50 : decode (mb 209) 50 = .ok (.aload_n 0, 1) := by decide +kernel
theorem i_M_one_51 : decode (mb 209) 51 = .ok (.getfield 73, 3) := by decide +kernel
theorem i_M_one_54 : decode (mb 209) 54 = .ok (.iconst 0, 1) := by decide +kernel
theorem i_M_one_55 : decode (mb 209) 55 = .ok (.iastore, 1) := by decide +kernel
theorem i_M_one_56 : decode (mb 209) 56 = .ok (.iinc 1 1, 3) := by decide +kernel
theorem i_M_one_59 : decode (mb 209) 59 = .ok (.goto (-21), 3) := by decide +kernel
theorem i_M_one_62 : decode (mb 209) 62 = .ok (.aload_n 0, 1) := by decide +kernel
theorem i_M_one_63 : decode (mb 209) 63 = .ok (.dup, 1) := by decide +kernel
theorem i_M_one_64 : decode (mb 209) 64 = .ok (.getfield 73, 3) := by decide +kernel
theorem i_M_one_67 : decode (mb 209) 67 = .ok (.dup_x1, 1) := by decide +kernel
theorem i_M_one_68 : decode (mb 209) 68 = .ok (.iconst 1, 1) := by decide +kernel
theorem i_M_one_69 : decode (mb 209) 69 = .ok (.iadd, 1) := by decide +kernel
theorem i_M_one_70 : decode (mb 209) 70 = .ok (.putfield 73, 3) := by decide +kernel
theorem i_M_one_73 : decode (mb 209) 73 = .ok (.ireturn, 1) := by decide +kernel
theorem o_M_bargain : (mn 210).cls = "NeedsALoserModel" := by decide +kernel
theorem l_M_bargain : ml 210 = 7 := by decide +kernel
theorem t_M_bargain : mr 210 = some (FieldType.int) := by decide +kernel
theorem i_M_bargain_0 : decode (mb 210) 0 = .ok (.aload_n 0, 1) := by decide +kernel
theorem i_M_bargain_1 : decode (mb 210) 1 = .ok (.iload_n 1, 1) := by decide +kernel
theorem i_M_bargain_2 : decode (mb 210) 2 = .ok (.i2l, 1) := by decide +kernel
theorem i_M_bargain_3 : decode (mb 210) 3 = .ok (.invokevirtual 112, 3) := by decide +kernel
theorem i_M_bargain_6 : decode (mb 210) 6 = .ok (.ifCond .eq 42, 3) := by decide +kernel
theorem i_M_bargain_9 : decode (mb 210) 9 = .ok (.aload_n 0, 1) := by decide +kernel
theorem i_M_bargain_10 : decode (mb 210) 10 = .ok (.iload_n 2, 1) := by decide +kernel
theorem i_M_bargain_11 : decode (mb 210) 11 = .ok (.i2l, 1) := by decide +kernel
theorem i_M_bargain_12 : decode (mb 210) 12 = .ok (.invokevirtual 112, 3) := by decide +kernel
theorem i_M_bargain_15 : decode (mb 210) 15 = .ok (.ifCond .eq 33, 3) := by decide +kernel
theorem i_M_bargain_18 : decode (mb 210) 18 = .ok (.iload_n 1, 1) := by decide +kernel
theorem i_M_bargain_19 : decode (mb 210) 19 = .ok (.iload_n 2, 1) := by decide +kernel
theorem i_M_bargain_20 : decode (mb 210) 20 = .ok (.if_icmp .eq 28, 3) := by decide +kernel
theorem i_M_bargain_23 : decode (mb 210) 23 = .ok (.iload_n 3, 1) := by decide +kernel
theorem i_M_bargain_24 : decode (mb 210) 24 = .ok (.i2l, 1) := by decide +kernel
theorem i_M_bargain_25 : decode (mb 210) 25 = .ok (.lconst 0, 1) := by decide +kernel
theorem i_M_bargain_26 : decode (mb 210) 26 = .ok (.ldc2_w 102, 3) := by decide +kernel
theorem i_M_bargain_29 : decode (mb 210) 29 = .ok (.invokestatic 76, 3) := by decide +kernel
theorem i_M_bargain_32 : decode (mb 210) 32 = .ok (.ifCond .eq 16, 3) := by decide +kernel
theorem i_M_bargain_35 : decode (mb 210) 35 = .ok (.iload 4, 2) := by decide +kernel
theorem i_M_bargain_37 : decode (mb 210) 37 = .ok (.i2l, 1) := by decide +kernel
theorem i_M_bargain_38 : decode (mb 210) 38 = .ok (.lconst 0, 1) := by decide +kernel
theorem i_M_bargain_39 : decode (mb 210) 39 = .ok (.ldc2_w 102, 3) := by decide +kernel
theorem i_M_bargain_42 : decode (mb 210) 42 = .ok (.invokestatic 76, 3) := by decide +kernel
theorem i_M_bargain_45 : decode (mb 210) 45 = .ok (.ifCond .ne 10, 3) := by decide +kernel
theorem i_M_bargain_48 : decode (mb 210) 48 = .ok (.aload_n 0, 1) := by decide +kernel
theorem i_M_bargain_49 : decode (mb 210) 49 = .ok (.bipush (-2), 2) := by decide +kernel
theorem i_M_bargain_51 : decode (mb 210) 51 = .ok (.invokevirtual 89, 3) := by decide +kernel
theorem i_M_bargain_54 : decode (mb 210) 54 = .ok (.ireturn, 1) := by decide +kernel
theorem i_M_bargain_55 : decode (mb 210) 55 = .ok (.aload_n 0, 1) := by decide +kernel
theorem i_M_bargain_56 : decode (mb 210) 56 = .ok (.getfield 80, 3) := by decide +kernel
theorem i_M_bargain_59 : decode (mb 210) 59 = .ok (.bipush 7, 2) := by decide +kernel
theorem i_M_bargain_61 : decode (mb 210) 61 = .ok (.if_icmp .ne 10, 3) := by decide +kernel
theorem i_M_bargain_64 : decode (mb 210) 64 = .ok (.aload_n 0, 1) := by decide +kernel
theorem i_M_bargain_65 : decode (mb 210) 65 = .ok (.bipush (-6), 2) := by decide +kernel
theorem i_M_bargain_67 : decode (mb 210) 67 = .ok (.invokevirtual 89, 3) := by decide +kernel
theorem i_M_bargain_70 : decode (mb 210) 70 = .ok (.ireturn, 1) := by decide +kernel
theorem i_M_bargain_71 : decode (mb 210) 71 = .ok (.aload_n 0, 1) := by decide +kernel
theorem i_M_bargain_72 : decode (mb 210) 72 = .ok (.getfield 48, 3) := by decide +kernel
theorem i_M_bargain_75 : decode (mb 210) 75 = .ok (.aload_n 0, 1) := by decide +kernel
theorem i_M_bargain_76 : decode (mb 210) 76 = .ok (.getfield 80, 3) := by decide +kernel
theorem i_M_bargain_79 : decode (mb 210) 79 = .ok (.aaload, 1) := by decide +kernel
theorem i_M_bargain_80 : decode (mb 210) 80 = .ok (.astore 5, 2) := by decide +kernel
theorem i_M_bargain_82 : decode (mb 210) 82 = .ok (.aload 5, 2) := by decide +kernel
theorem i_M_bargain_84 : decode (mb 210) 84 = .ok (.iconst 0, 1) := by decide +kernel
theorem i_M_bargain_85 : decode (mb 210) 85 = .ok (.iload_n 1, 1) := by decide +kernel
theorem i_M_bargain_86 : decode (mb 210) 86 = .ok (.iastore, 1) := by decide +kernel
theorem i_M_bargain_87 : decode (mb 210) 87 = .ok (.aload 5, 2) := by decide +kernel
theorem i_M_bargain_89 : decode (mb 210) 89 = .ok (.iconst 1, 1) := by decide +kernel
theorem i_M_bargain_90 : decode (mb 210) 90 = .ok (.iload_n 2, 1) := by decide +kernel
theorem i_M_bargain_91 : decode (mb 210) 91 = .ok (.iastore, 1) := by decide +kernel
theorem i_M_bargain_92 : decode (mb 210) 92 = .ok (.aload 5, 2) := by decide +kernel
theorem i_M_bargain_94 : decode (mb 210) 94 = .ok (.iconst 2, 1) := by decide +kernel
theorem i_M_bargain_95 : decode (mb 210) 95 = .ok (.iload_n 3, 1) := by decide +kernel
theorem i_M_bargain_96 : decode (mb 210) 96 = .ok (.iastore, 1) := by decide +kernel
theorem i_M_bargain_97 : decode (mb 210) 97 = .ok (.aload 5, 2) := by decide +kernel
theorem i_M_bargain_99 : decode (mb 210) 99 = .ok (.iconst 3, 1) := by decide +kernel
theorem i_M_bargain_100 : decode (mb 210) 100 = .ok (.iload 4, 2) := by decide +kernel
theorem i_M_bargain_102 : decode (mb 210) 102 = .ok (.iastore, 1) := by decide +kernel
theorem i_M_bargain_103 : decode (mb 210) 103 = .ok (.aload 5, 2) := by decide +kernel
theorem i_M_bargain_105 : decode (mb 210) 105 = .ok (.iconst 4, 1) := by decide +kernel
theorem i_M_bargain_106 : decode (mb 210) 106 = .ok (.iconst 0, 1) := by decide +kernel
theorem i_M_bargain_107 : decode (mb 210) 107 = .ok (.iastore, 1) := by decide +kernel
theorem i_M_bargain_108 : decode (mb 210) 108 = .ok (.iconst 0, 1) := by decide +kernel
theorem i_M_bargain_109 : decode (mb 210) 109 = .ok (.istore 6, 2) := by decide +kernel
theorem i_M_bargain_111 : decode (mb 210) 111 = .ok (.iload 6, 2) := by decide +kernel
theorem i_M_bargain_113 : decode (mb 210) 113 = .ok (.bipush 7, 2) := by decide +kernel
theorem i_M_bargain_115 : decode (mb 210) 115 = .ok (.if_icmp .ge 22, 3) := by decide +kernel
theorem i_M_bargain_118 : decode (mb 210) 118 = .ok (.aload_n 0, 1) := by decide +kernel
theorem i_M_bargain_119 : decode (mb 210) 119 = .ok (.getfield 51, 3) := by decide +kernel
theorem i_M_bargain_122 : decode (mb 210) 122 = .ok (.aload_n 0, 1) := by decide +kernel
theorem i_M_bargain_123 : decode (mb 210) 123 = .ok (.getfield 80, 3) := by decide +kernel
theorem i_M_bargain_126 : decode (mb 210) 126 = .ok (.aaload, 1) := by decide +kernel
theorem i_M_bargain_127 : decode (mb 210) 127 = .ok (.iload 6, 2) := by decide +kernel
theorem i_M_bargain_129 : decode (mb 210) 129 = .ok (.iconst 0, 1) := by decide +kernel
theorem i_M_bargain_130 : decode (mb 210) 130 = .ok (.iastore, 1) := by decide +kernel
theorem i_M_bargain_131 : decode (mb 210) 131 = .ok (.iinc 6 1, 3) := by decide +kernel
theorem i_M_bargain_134 : decode (mb 210) 134 = .ok (.goto (-23), 3) := by decide +kernel
theorem i_M_bargain_137 : decode (mb 210) 137 = .ok (.aload_n 0, 1) := by decide +kernel
theorem i_M_bargain_138 : decode (mb 210) 138 = .ok (.dup, 1) := by decide +kernel
theorem i_M_bargain_139 : decode (mb 210) 139 = .ok (.getfield 80, 3) := by decide +kernel
theorem i_M_bargain_142 : decode (mb 210) 142 = .ok (.dup_x1, 1) := by decide +kernel
theorem i_M_bargain_143 : decode (mb 210) 143 = .ok (.iconst 1, 1) := by decide +kernel
theorem i_M_bargain_144 : decode (mb 210) 144 = .ok (.iadd, 1) := by decide +kernel
theorem i_M_bargain_145 : decode (mb 210) 145 = .ok (.putfield 80, 3) := by decide +kernel
theorem i_M_bargain_148 : decode (mb 210) 148 = .ok (.ireturn, 1) := by decide +kernel
theorem o_M_hurts : (mn 211).cls = "NeedsALoserModel" := by decide +kernel
theorem l_M_hurts : ml 211 = 4 := by decide +kernel
theorem t_M_hurts : mr 211 = some (FieldType.int) := by decide +kernel
theorem i_M_hurts_0 : decode (mb 211) 0 = .ok (.aload_n 0, 1) := by decide +kernel
theorem i_M_hurts_1 : decode (mb 211) 1 = .ok (.iload_n 1, 1) := by decide +kernel
theorem i_M_hurts_2 : decode (mb 211) 2 = .ok (.invokevirtual 116, 3) := by decide +kernel
theorem i_M_hurts_5 : decode (mb 211) 5 = .ok (.ifCond .eq 26, 3) := by decide +kernel
theorem i_M_hurts_8 : decode (mb 211) 8 = .ok (.aload_n 0, 1) := by decide +kernel
theorem i_M_hurts_9 : decode (mb 211) 9 = .ok (.iload_n 2, 1) := by decide +kernel
theorem i_M_hurts_10 : decode (mb 211) 10 = .ok (.i2l, 1) := by decide +kernel
theorem i_M_hurts_11 : decode (mb 211) 11 = .ok (.invokevirtual 112, 3) := by decide +kernel
theorem i_M_hurts_14 : decode (mb 211) 14 = .ok (.ifCond .eq 17, 3) := by decide +kernel
theorem i_M_hurts_17 : decode (mb 211) 17 = .ok (.iload_n 3, 1) := by decide +kernel
theorem i_M_hurts_18 : decode (mb 211) 18 = .ok (.i2l, 1) := by decide +kernel
theorem i_M_hurts_19 : decode (mb 211) 19 = .ok (.ldc2_w 120, 3) := by decide +kernel
theorem i_M_hurts_22 : decode (mb 211) 22 = .ok (.ldc2_w 102, 3) := by decide +kernel
theorem i_M_hurts_25 : decode (mb 211) 25 = .ok (.invokestatic 76, 3) := by decide +kernel
theorem i_M_hurts_28 : decode (mb 211) 28 = .ok (.ifCond .ne 10, 3) := by decide +kernel
theorem i_M_hurts_31 : decode (mb 211) 31 = .ok (.aload_n 0, 1) := by decide +kernel
theorem i_M_hurts_32 : decode (mb 211) 32 = .ok (.bipush (-2), 2) := by decide +kernel
theorem i_M_hurts_34 : decode (mb 211) 34 = .ok (.invokevirtual 89, 3) := by decide +kernel
theorem i_M_hurts_37 : decode (mb 211) 37 = .ok (.ireturn, 1) := by decide +kernel
theorem i_M_hurts_38 : decode (mb 211) 38 = .ok (.aload_n 0, 1) := by decide +kernel
theorem i_M_hurts_39 : decode (mb 211) 39 = .ok (.getfield 51, 3) := by decide +kernel
theorem i_M_hurts_42 : decode (mb 211) 42 = .ok (.iload_n 1, 1) := by decide +kernel
theorem i_M_hurts_43 : decode (mb 211) 43 = .ok (.aaload, 1) := by decide +kernel
theorem i_M_hurts_44 : decode (mb 211) 44 = .ok (.iload_n 2, 1) := by decide +kernel
theorem i_M_hurts_45 : decode (mb 211) 45 = .ok (.iload_n 3, 1) := by decide +kernel
theorem i_M_hurts_46 : decode (mb 211) 46 = .ok (.iastore, 1) := by decide +kernel
theorem i_M_hurts_47 : decode (mb 211) 47 = .ok (.iconst 1, 1) := by decide +kernel
theorem i_M_hurts_48 : decode (mb 211) 48 = .ok (.ireturn, 1) := by decide +kernel
theorem o_M_isBargain : (mn 212).cls = "NeedsALoserModel" := by decide +kernel
theorem l_M_isBargain : ml 212 = 2 := by decide +kernel
theorem t_M_isBargain : mr 212 = some (FieldType.boolean) := by decide +kernel
theorem i_M_isBargain_0 : decode (mb 212) 0 = .ok (.iload_n 1, 1) := by decide +kernel
theorem i_M_isBargain_1 : decode (mb 212) 1 = .ok (.i2l, 1) := by decide +kernel
theorem i_M_isBargain_2 : decode (mb 212) 2 = .ok (.lconst 0, 1) := by decide +kernel
theorem i_M_isBargain_3 : decode (mb 212) 3 = .ok (.aload_n 0, 1) := by decide +kernel
theorem i_M_isBargain_4 : decode (mb 212) 4 = .ok (.getfield 80, 3) := by decide +kernel
theorem i_M_isBargain_7 : decode (mb 212) 7 = .ok (.iconst 1, 1) := by decide +kernel
theorem i_M_isBargain_8 : decode (mb 212) 8 = .ok (.isub, 1) := by decide +kernel
theorem i_M_isBargain_9 : decode (mb 212) 9 = .ok (.i2l, 1) := by decide +kernel
theorem i_M_isBargain_10 : decode (mb 212) 10 = .ok (.invokestatic 76, 3) := by decide +kernel
theorem i_M_isBargain_13 : decode (mb 212) 13 = .ok (.ireturn, 1) := by decide +kernel
theorem o_M_bars : (mn 213).cls = "NeedsALoserModel" := by decide +kernel
theorem l_M_bars : ml 213 = 5 := by decide +kernel
theorem t_M_bars : mr 213 = some (FieldType.int) := by decide +kernel
theorem i_M_bars_0 : decode (mb 213) 0 = .ok (.aload_n 0, 1) := by decide +kernel
theorem i_M_bars_1 : decode (mb 213) 1 = .ok (.iload_n 1, 1) := by decide +kernel
theorem i_M_bars_2 : decode (mb 213) 2 = .ok (.invokevirtual 116, 3) := by decide +kernel
theorem i_M_bars_5 : decode (mb 213) 5 = .ok (.ifCond .eq 16, 3) := by decide +kernel
theorem i_M_bars_8 : decode (mb 213) 8 = .ok (.aload_n 0, 1) := by decide +kernel
theorem i_M_bars_9 : decode (mb 213) 9 = .ok (.iload_n 2, 1) := by decide +kernel
theorem i_M_bars_10 : decode (mb 213) 10 = .ok (.invokevirtual 116, 3) := by decide +kernel
theorem i_M_bars_13 : decode (mb 213) 13 = .ok (.ifCond .eq 8, 3) := by decide +kernel
theorem i_M_bars_16 : decode (mb 213) 16 = .ok (.iload_n 1, 1) := by decide +kernel
theorem i_M_bars_17 : decode (mb 213) 17 = .ok (.iload_n 2, 1) := by decide +kernel
theorem i_M_bars_18 : decode (mb 213) 18 = .ok (.if_icmp .ne 10, 3) := by decide +kernel
theorem i_M_bars_21 : decode (mb 213) 21 = .ok (.aload_n 0, 1) := by decide +kernel
theorem i_M_bars_22 : decode (mb 213) 22 = .ok (.bipush (-2), 2) := by decide +kernel
theorem i_M_bars_24 : decode (mb 213) 24 = .ok (.invokevirtual 89, 3) := by decide +kernel
theorem i_M_bars_27 : decode (mb 213) 27 = .ok (.ireturn, 1) := by decide +kernel
theorem i_M_bars_28 : decode (mb 213) 28 = .ok (.aload_n 0, 1) := by decide +kernel
theorem i_M_bars_29 : decode (mb 213) 29 = .ok (.getfield 48, 3) := by decide +kernel
theorem i_M_bars_32 : decode (mb 213) 32 = .ok (.iload_n 1, 1) := by decide +kernel
theorem i_M_bars_33 : decode (mb 213) 33 = .ok (.aaload, 1) := by decide +kernel
theorem i_M_bars_34 : decode (mb 213) 34 = .ok (.iconst 4, 1) := by decide +kernel
theorem i_M_bars_35 : decode (mb 213) 35 = .ok (.iaload, 1) := by decide +kernel
theorem i_M_bars_36 : decode (mb 213) 36 = .ok (.iload_n 2, 1) := by decide +kernel
theorem i_M_bars_37 : decode (mb 213) 37 = .ok (.invokestatic 122, 3) := by decide +kernel
theorem i_M_bars_40 : decode (mb 213) 40 = .ok (.istore 4, 2) := by decide +kernel
theorem i_M_bars_42 : decode (mb 213) 42 = .ok (.aload_n 0, 1) := by decide +kernel
theorem i_M_bars_43 : decode (mb 213) 43 = .ok (.getfield 48, 3) := by decide +kernel
theorem i_M_bars_46 : decode (mb 213) 46 = .ok (.iload_n 1, 1) := by decide +kernel
theorem i_M_bars_47 : decode (mb 213) 47 = .ok (.aaload, 1) := by decide +kernel
theorem i_M_bars_48 : decode (mb 213) 48 = .ok (.iconst 4, 1) := by decide +kernel
theorem i_M_bars_49 : decode (mb 213) 49 = .ok (.iload_n 3, 1) := by decide +kernel
theorem i_M_bars_50 : decode (mb 213) 50 = .ok (.ifCond .eq 18, 3) := by decide +kernel
theorem i_M_bars_53 : decode (mb 213) 53 = .ok (.aload_n 0, 1) := by decide +kernel
theorem i_M_bars_54 : decode (mb 213) 54 = .ok (.getfield 48, 3) := by decide +kernel
theorem i_M_bars_57 : decode (mb 213) 57 = .ok (.iload_n 1, 1) := by decide +kernel
theorem i_M_bars_58 : decode (mb 213) 58 = .ok (.aaload, 1) := by decide +kernel
theorem i_M_bars_59 : decode (mb 213) 59 = .ok (.iconst 4, 1) := by decide +kernel
theorem i_M_bars_60 : decode (mb 213) 60 = .ok (.iaload, 1) := by decide +kernel
theorem i_M_bars_61 : decode (mb 213) 61 = .ok (.iconst 1, 1) := by decide +kernel
theorem i_M_bars_62 : decode (mb 213) 62 = .ok (.iload_n 2, 1) := by decide +kernel
theorem i_M_bars_63 : decode (mb 213) 63 = .ok (.ishl, 1) := by decide +kernel
theorem i_M_bars_64 : decode (mb 213) 64 = .ok (.ior, 1) := by decide +kernel
theorem i_M_bars_65 : decode (mb 213) 65 = .ok (.goto 17, 3) := by decide +kernel
theorem i_M_bars_68 : decode (mb 213) 68 = .ok (.aload_n 0, 1) := by decide +kernel
theorem i_M_bars_69 : decode (mb 213) 69 = .ok (.getfield 48, 3) := by decide +kernel
theorem i_M_bars_72 : decode (mb 213) 72 = .ok (.iload_n 1, 1) := by decide +kernel
theorem i_M_bars_73 : decode (mb 213) 73 = .ok (.aaload, 1) := by decide +kernel
theorem i_M_bars_74 : decode (mb 213) 74 = .ok (.iconst 4, 1) := by decide +kernel
theorem i_M_bars_75 : decode (mb 213) 75 = .ok (.iaload, 1) := by decide +kernel
theorem i_M_bars_76 : decode (mb 213) 76 = .ok (.iconst 1, 1) := by decide +kernel
theorem i_M_bars_77 : decode (mb 213) 77 = .ok (.iload_n 2, 1) := by decide +kernel
theorem i_M_bars_78 : decode (mb 213) 78 = .ok (.ishl, 1) := by decide +kernel
theorem i_M_bars_79 : decode (mb 213) 79 = .ok (.iconst (-1), 1) := by decide +kernel
theorem i_M_bars_80 : decode (mb 213) 80 = .ok (.ixor, 1) := by decide +kernel
theorem i_M_bars_81 : decode (mb 213) 81 = .ok (.iand, 1) := by decide +kernel
theorem i_M_bars_82 : decode (mb 213) 82 = .ok (.iastore, 1) := by decide +kernel
theorem i_M_bars_83 : decode (mb 213) 83 = .ok (.aload_n 0, 1) := by decide +kernel
theorem i_M_bars_84 : decode (mb 213) 84 = .ok (.getfield 48, 3) := by decide +kernel
theorem i_M_bars_87 : decode (mb 213) 87 = .ok (.iload_n 2, 1) := by decide +kernel
theorem i_M_bars_88 : decode (mb 213) 88 = .ok (.aaload, 1) := by decide +kernel
theorem i_M_bars_89 : decode (mb 213) 89 = .ok (.iconst 4, 1) := by decide +kernel
theorem i_M_bars_90 : decode (mb 213) 90 = .ok (.iload_n 3, 1) := by decide +kernel
theorem i_M_bars_91 : decode (mb 213) 91 = .ok (.ifCond .eq 18, 3) := by decide +kernel
theorem i_M_bars_94 : decode (mb 213) 94 = .ok (.aload_n 0, 1) := by decide +kernel
theorem i_M_bars_95 : decode (mb 213) 95 = .ok (.getfield 48, 3) := by decide +kernel
theorem i_M_bars_98 : decode (mb 213) 98 = .ok (.iload_n 2, 1) := by decide +kernel
theorem i_M_bars_99 : decode (mb 213) 99 = .ok (.aaload, 1) := by decide +kernel
theorem i_M_bars_100 : decode (mb 213) 100 = .ok (.iconst 4, 1) := by decide +kernel
theorem i_M_bars_101 : decode (mb 213) 101 = .ok (.iaload, 1) := by decide +kernel
theorem i_M_bars_102 : decode (mb 213) 102 = .ok (.iconst 1, 1) := by decide +kernel
theorem i_M_bars_103 : decode (mb 213) 103 = .ok (.iload_n 1, 1) := by decide +kernel
theorem i_M_bars_104 : decode (mb 213) 104 = .ok (.ishl, 1) := by decide +kernel
theorem i_M_bars_105 : decode (mb 213) 105 = .ok (.ior, 1) := by decide +kernel
theorem i_M_bars_106 : decode (mb 213) 106 = .ok (.goto 17, 3) := by decide +kernel
theorem i_M_bars_109 : decode (mb 213) 109 = .ok (.aload_n 0, 1) := by decide +kernel
theorem i_M_bars_110 : decode (mb 213) 110 = .ok (.getfield 48, 3) := by decide +kernel
theorem i_M_bars_113 : decode (mb 213) 113 = .ok (.iload_n 2, 1) := by decide +kernel
theorem i_M_bars_114 : decode (mb 213) 114 = .ok (.aaload, 1) := by decide +kernel
theorem i_M_bars_115 : decode (mb 213) 115 = .ok (.iconst 4, 1) := by decide +kernel
theorem i_M_bars_116 : decode (mb 213) 116 = .ok (.iaload, 1) := by decide +kernel
theorem i_M_bars_117 : decode (mb 213) 117 = .ok (.iconst 1, 1) := by decide +kernel
theorem i_M_bars_118 : decode (mb 213) 118 = .ok (.iload_n 1, 1) := by decide +kernel
theorem i_M_bars_119 : decode (mb 213) 119 = .ok (.ishl, 1) := by decide +kernel
theorem i_M_bars_120 : decode (mb 213) 120 = .ok (.iconst (-1), 1) := by decide +kernel
theorem i_M_bars_121 : decode (mb 213) 121 = .ok (.ixor, 1) := by decide +kernel
theorem i_M_bars_122 : decode (mb 213) 122 = .ok (.iand, 1) := by decide +kernel
theorem i_M_bars_123 : decode (mb 213) 123 = .ok (.iastore, 1) := by decide +kernel
theorem i_M_bars_124 : decode (mb 213) 124 = .ok (.iload 4, 2) := by decide +kernel
theorem i_M_bars_126 : decode (mb 213) 126 = .ok (.iload_n 3, 1) := by decide +kernel
theorem i_M_bars_127 : decode (mb 213) 127 = .ok (.if_icmp .eq 7, 3) := by decide +kernel
theorem i_M_bars_130 : decode (mb 213) 130 = .ok (.iconst 1, 1) := by decide +kernel
theorem i_M_bars_131 : decode (mb 213) 131 = .ok (.goto 4, 3) := by decide +kernel
theorem i_M_bars_134 : decode (mb 213) 134 = .ok (.iconst 0, 1) := by decide +kernel
theorem i_M_bars_135 : decode (mb 213) 135 = .ok (.ireturn, 1) := by decide +kernel
theorem o_M_ask : (mn 214).cls = "NeedsALoserModel" := by decide +kernel
theorem l_M_ask : ml 214 = 4 := by decide +kernel
theorem t_M_ask : mr 214 = some (FieldType.int) := by decide +kernel
theorem i_M_ask_0 : decode (mb 214) 0 = .ok (.iload_n 1, 1) := by decide +kernel
theorem i_M_ask_1 : decode (mb 214) 1 = .ok (.i2l, 1) := by decide +kernel
theorem i_M_ask_2 : decode (mb 214) 2 = .ok (.lconst 0, 1) := by decide +kernel
theorem i_M_ask_3 : decode (mb 214) 3 = .ok (.ldc2_w 125, 3) := by decide +kernel
theorem i_M_ask_6 : decode (mb 214) 6 = .ok (.invokestatic 76, 3) := by decide +kernel
theorem i_M_ask_9 : decode (mb 214) 9 = .ok (.ifCond .eq 25, 3) := by decide +kernel
theorem i_M_ask_12 : decode (mb 214) 12 = .ok (.iload_n 2, 1) := by decide +kernel
theorem i_M_ask_13 : decode (mb 214) 13 = .ok (.i2l, 1) := by decide +kernel
theorem i_M_ask_14 : decode (mb 214) 14 = .ok (.iload_n 1, 1) := by decide +kernel
theorem i_M_ask_15 : decode (mb 214) 15 = .ok (.ifCond .ne 7, 3) := by decide +kernel
theorem i_M_ask_18 : decode (mb 214) 18 = .ok (.lconst 1, 1) := by decide +kernel
theorem i_M_ask_19 : decode (mb 214) 19 = .ok (.goto 4, 3) := by decide +kernel
theorem i_M_ask_22 : decode (mb 214) 22 = .ok (.lconst 0, 1) := by decide +kernel
theorem i_M_ask_23 : decode (mb 214) 23 = .ok (.iload_n 1, 1) := by decide +kernel
theorem i_M_ask_24 : decode (mb 214) 24 = .ok (.invokestatic 127, 3) := by decide +kernel
theorem i_M_ask_27 : decode (mb 214) 27 = .ok (.i2l, 1) := by decide +kernel
theorem i_M_ask_28 : decode (mb 214) 28 = .ok (.invokestatic 76, 3) := by decide +kernel
theorem i_M_ask_31 : decode (mb 214) 31 = .ok (.ifCond .ne 10, 3) := by decide +kernel
theorem i_M_ask_34 : decode (mb 214) 34 = .ok (.aload_n 0, 1) := by decide +kernel
theorem i_M_ask_35 : decode (mb 214) 35 = .ok (.bipush (-2), 2) := by decide +kernel
theorem i_M_ask_37 : decode (mb 214) 37 = .ok (.invokevirtual 89, 3) := by decide +kernel
theorem i_M_ask_40 : decode (mb 214) 40 = .ok (.ireturn, 1) := by decide +kernel
theorem i_M_ask_41 : decode (mb 214) 41 = .ok (.aload_n 0, 1) := by decide +kernel
theorem i_M_ask_42 : decode (mb 214) 42 = .ok (.getfield 54, 3) := by decide +kernel
theorem i_M_ask_45 : decode (mb 214) 45 = .ok (.iload_n 1, 1) := by decide +kernel
theorem i_M_ask_46 : decode (mb 214) 46 = .ok (.iaload, 1) := by decide +kernel
theorem i_M_ask_47 : decode (mb 214) 47 = .ok (.istore_n 3, 1) := by decide +kernel
theorem i_M_ask_48 : decode (mb 214) 48 = .ok (.aload_n 0, 1) := by decide +kernel
theorem i_M_ask_49 : decode (mb 214) 49 = .ok (.getfield 54, 3) := by decide +kernel
theorem i_M_ask_52 : decode (mb 214) 52 = .ok (.iload_n 1, 1) := by decide +kernel
theorem i_M_ask_53 : decode (mb 214) 53 = .ok (.iload_n 2, 1) := by decide +kernel
theorem i_M_ask_54 : decode (mb 214) 54 = .ok (.iastore, 1) := by decide +kernel
theorem i_M_ask_55 : decode (mb 214) 55 = .ok (.iload_n 3, 1) := by decide +kernel
theorem i_M_ask_56 : decode (mb 214) 56 = .ok (.ireturn, 1) := by decide +kernel
theorem o_M_mostOf : (mn 215).cls = "NeedsALoserModel" := by decide +kernel
theorem l_M_mostOf : ml 215 = 1 := by decide +kernel
theorem t_M_mostOf : mr 215 = some (FieldType.int) := by decide +kernel
theorem i_M_mostOf_0 : decode (mb 215) 0 = .ok (.iload_n 0, 1) := by decide +kernel
theorem i_M_mostOf_1 : decode (mb 215) 1 = .ok (.ifCond .ne 8, 3) := by decide +kernel
theorem i_M_mostOf_4 : decode (mb 215) 4 = .ok (.bipush 99, 2) := by decide +kernel
theorem i_M_mostOf_6 : decode (mb 215) 6 = .ok (.goto 25, 3) := by decide +kernel
theorem i_M_mostOf_9 : decode (mb 215) 9 = .ok (.iload_n 0, 1) := by decide +kernel
theorem i_M_mostOf_10 : decode (mb 215) 10 = .ok (.iconst 1, 1) := by decide +kernel
theorem i_M_mostOf_11 : decode (mb 215) 11 = .ok (.if_icmp .ne 7, 3) := by decide +kernel
theorem i_M_mostOf_14 : decode (mb 215) 14 = .ok (.iconst 1, 1) := by decide +kernel
theorem i_M_mostOf_15 : decode (mb 215) 15 = .ok (.goto 16, 3) := by decide +kernel
theorem i_M_mostOf_18 : decode (mb 215) 18 = .ok (.iload_n 0, 1) := by decide +kernel
theorem i_M_mostOf_19 : decode (mb 215) 19 = .ok (.iconst 2, 1) := by decide +kernel
theorem i_M_mostOf_20 : decode (mb 215) 20 = .ok (.if_icmp .ne 8, 3) := by decide +kernel
theorem i_M_mostOf_23 : decode (mb 215) 23 = .ok (.bipush 10, 2) := by decide +kernel
theorem i_M_mostOf_25 : decode (mb 215) 25 = .ok (.goto 6, 3) := by decide +kernel
theorem i_M_mostOf_28 : decode (mb 215) 28 = .ok (.sipush 999, 3) := by decide +kernel
theorem i_M_mostOf_31 : decode (mb 215) 31 = .ok (.ireturn, 1) := by decide +kernel
theorem o_M_feed : (mn 216).cls = "NeedsALoserModel" := by decide +kernel
theorem l_M_feed : ml 216 = 2 := by decide +kernel
theorem t_M_feed : mr 216 = some (FieldType.int) := by decide +kernel
theorem i_M_feed_0 : decode (mb 216) 0 = .ok (.iload_n 1, 1) := by decide +kernel
theorem i_M_feed_1 : decode (mb 216) 1 = .ok (.i2l, 1) := by decide +kernel
theorem i_M_feed_2 : decode (mb 216) 2 = .ok (.lconst 0, 1) := by decide +kernel
theorem i_M_feed_3 : decode (mb 216) 3 = .ok (.ldc2_w 130, 3) := by decide +kernel
theorem i_M_feed_6 : decode (mb 216) 6 = .ok (.invokestatic 76, 3) := by decide +kernel
theorem i_M_feed_9 : decode (mb 216) 9 = .ok (.ifCond .ne 10, 3) := by decide +kernel
theorem i_M_feed_12 : decode (mb 216) 12 = .ok (.aload_n 0, 1) := by decide +kernel
theorem i_M_feed_13 : decode (mb 216) 13 = .ok (.bipush (-2), 2) := by decide +kernel
theorem i_M_feed_15 : decode (mb 216) 15 = .ok (.invokevirtual 89, 3) := by decide +kernel
theorem i_M_feed_18 : decode (mb 216) 18 = .ok (.ireturn, 1) := by decide +kernel
theorem i_M_feed_19 : decode (mb 216) 19 = .ok (.aload_n 0, 1) := by decide +kernel
theorem i_M_feed_20 : decode (mb 216) 20 = .ok (.getfield 132, 3) := by decide +kernel
theorem i_M_feed_23 : decode (mb 216) 23 = .ok (.sipush 250, 3) := by decide +kernel
theorem i_M_feed_26 : decode (mb 216) 26 = .ok (.if_icmp .ne 10, 3) := by decide +kernel
theorem i_M_feed_29 : decode (mb 216) 29 = .ok (.aload_n 0, 1) := by decide +kernel
theorem i_M_feed_30 : decode (mb 216) 30 = .ok (.bipush (-6), 2) := by decide +kernel
theorem i_M_feed_32 : decode (mb 216) 32 = .ok (.invokevirtual 89, 3) := by decide +kernel
theorem i_M_feed_35 : decode (mb 216) 35 = .ok (.ireturn, 1) := by decide +kernel
theorem i_M_feed_36 : decode (mb 216) 36 = .ok (.aload_n 0, 1) := by decide +kernel
theorem i_M_feed_37 : decode (mb 216) 37 = .ok (.getfield 34, 3) := by decide +kernel
theorem i_M_feed_40 : decode (mb 216) 40 = .ok (.aload_n 0, 1) := by decide +kernel
theorem i_M_feed_41 : decode (mb 216) 41 = .ok (.dup, 1) := by decide +kernel
theorem i_M_feed_42 : decode (mb 216) 42 = .ok (.getfield 132, 3) := by decide +kernel
theorem i_M_feed_45 : decode (mb 216) 45 = .ok (.dup_x1, 1) := by decide +kernel
theorem i_M_feed_46 : decode (mb 216) 46 = .ok (.iconst 1, 1) := by decide +kernel
theorem i_M_feed_47 : decode (mb 216) 47 = .ok (.iadd, 1) := by decide +kernel
theorem i_M_feed_48 : decode (mb 216) 48 = .ok (.putfield 132, 3) := by decide +kernel
theorem i_M_feed_51 : decode (mb 216) 51 = .ok (.iload_n 1, 1) := by decide +kernel
theorem i_M_feed_52 : decode (mb 216) 52 = .ok (.iastore, 1) := by decide +kernel
theorem i_M_feed_53 : decode (mb 216) 53 = .ok (.aload_n 0, 1) := by decide +kernel
theorem i_M_feed_54 : decode (mb 216) 54 = .ok (.getfield 132, 3) := by decide +kernel
theorem i_M_feed_57 : decode (mb 216) 57 = .ok (.ireturn, 1) := by decide +kernel
theorem o_M_wipe : (mn 217).cls = "NeedsALoserModel" := by decide +kernel
theorem l_M_wipe : ml 217 = 2 := by decide +kernel
theorem t_M_wipe : mr 217 = some (FieldType.int) := by decide +kernel
theorem i_M_wipe_0 : decode (mb 217) 0 = .ok (.aload_n 0, 1) := by decide +kernel
theorem i_M_wipe_1 : decode (mb 217) 1 = .ok (.getfield 132, 3) := by decide +kernel
theorem i_M_wipe_4 : decode (mb 217) 4 = .ok (.istore_n 1, 1) := by decide +kernel
theorem i_M_wipe_5 : decode (mb 217) 5 = .ok (.aload_n 0, 1) := by decide +kernel
theorem i_M_wipe_6 : decode (mb 217) 6 = .ok (.iconst 0, 1) := by decide +kernel
theorem i_M_wipe_7 : decode (mb 217) 7 = .ok (.putfield 132, 3) := by decide +kernel
theorem i_M_wipe_10 : decode (mb 217) 10 = .ok (.iload_n 1, 1) := by decide +kernel
theorem i_M_wipe_11 : decode (mb 217) 11 = .ok (.ireturn, 1) := by decide +kernel
theorem o_M_town : (mn 218).cls = "NeedsALoserModel" := by decide +kernel
theorem l_M_town : ml 218 = 3 := by decide +kernel
theorem t_M_town : mr 218 = some (FieldType.int) := by decide +kernel
theorem i_M_town_0 : decode (mb 218) 0 = .ok (.aload_n 0, 1) := by decide +kernel
theorem i_M_town_1 : decode (mb 218) 1 = .ok (.invokevirtual 228, 3) := by decide +kernel
theorem i_M_town_4 : decode (mb 218) 4 = .ok (.astore_n 1, 1) := by decide +kernel
theorem i_M_town_5 : decode (mb 218) 5 = .ok (.aload_n 0, 1) := by decide +kernel
theorem i_M_town_6 : decode (mb 218) 6 = .ok (.invokevirtual 232, 3) := by decide +kernel
theorem i_M_town_9 : decode (mb 218) 9 = .ok (.istore_n 2, 1) := by decide +kernel
theorem i_M_town_10 : decode (mb 218) 10 = .ok (.aload_n 0, 1) := by decide +kernel
theorem i_M_town_11 : decode (mb 218) 11 = .ok (.iconst 0, 1) := by decide +kernel
theorem i_M_town_12 : decode (mb 218) 12 = .ok (.putfield 132, 3) := by decide +kernel
theorem i_M_town_15 : decode (mb 218) 15 = .ok (.iload_n 2, 1) := by decide +kernel
theorem i_M_town_16 : decode (mb 218) 16 = .ok (.ifCond .ne 23, 3) := by decide +kernel
theorem i_M_town_19 : decode (mb 218) 19 = .ok (.aload_n 0, 1) := by decide +kernel
theorem i_M_town_20 : decode (mb 218) 20 = .ok (.aload_n 1, 1) := by decide +kernel
theorem i_M_town_21 : decode (mb 218) 21 = .ok (.invokevirtual 235, 3) := by decide +kernel
theorem i_M_town_24 : decode (mb 218) 24 = .ok (.aload_n 0, 1) := by decide +kernel
theorem i_M_town_25 : decode (mb 218) 25 = .ok (.bipush (-2), 2) := by decide +kernel
theorem i_M_town_27 : decode (mb 218) 27 = .ok (.invokevirtual 89, 3) := by decide +kernel
theorem i_M_town_30 : decode (mb 218) 30 = .ok (.pop, 1) := by decide +kernel
theorem i_M_town_31 : decode (mb 218) 31 = .ok (.bipush (-20), 2) := by decide +kernel
theorem i_M_town_33 : decode (mb 218) 33 = .ok (.aload_n 0, 1) := by decide +kernel
theorem i_M_town_34 : decode (mb 218) 34 = .ok (.getfield 154, 3) := by decide +kernel
theorem i_M_town_37 : decode (mb 218) 37 = .ok (.isub, 1) := by decide +kernel
theorem i_M_town_38 : decode (mb 218) 38 = .ok (.ireturn, 1) := by decide +kernel
theorem i_M_town_39 : decode (mb 218) 39 = .ok (.aload_n 0, 1) := by decide +kernel
theorem i_M_town_40 : decode (mb 218) 40 = .ok (.getfield 222, 3) := by decide +kernel
theorem i_M_town_43 : decode (mb 218) 43 = .ok (.ireturn, 1) := by decide +kernel
theorem o_M_fresh : (mn 219).cls = "NeedsALoserModel" := by decide +kernel
theorem l_M_fresh : ml 219 = 1 := by decide +kernel
theorem t_M_fresh : mr 219 = some ((FieldType.object "NeedsALoserModel")) := by decide +kernel
theorem i_M_fresh_0 : decode (mb 219) 0 = .ok (.aload_n 0, 1) := by decide +kernel
theorem i_M_fresh_1 : decode (mb 219) 1 = .ok (.getfield 344, 3) := by decide +kernel
theorem i_M_fresh_4 : decode (mb 219) 4 = .ok (.ifnonnull 14, 3) := by decide +kernel
theorem i_M_fresh_7 : decode (mb 219) 7 = .ok (.aload_n 0, 1) := by decide +kernel
theorem i_M_fresh_8 : decode (mb 219) 8 = .ok (.new 8, 3) := by decide +kernel
theorem i_M_fresh_11 : decode (mb 219) 11 = .ok (.dup, 1) := by decide +kernel
theorem i_M_fresh_12 : decode (mb 219) 12 = .ok (.invokespecial 348, 3) := by decide +kernel
theorem i_M_fresh_15 : decode (mb 219) 15 = .ok (.putfield 344, 3) := by decide +kernel
theorem i_M_fresh_18 : decode (mb 219) 18 = .ok (.aload_n 0, 1) := by decide +kernel
theorem i_M_fresh_19 : decode (mb 219) 19 = .ok (.getfield 344, 3) := by decide +kernel
theorem i_M_fresh_22 : decode (mb 219) 22 = .ok (.aload_n 0, 1) := by decide +kernel
theorem i_M_fresh_23 : decode (mb 219) 23 = .ok (.invokevirtual 235, 3) := by decide +kernel
theorem i_M_fresh_26 : decode (mb 219) 26 = .ok (.aload_n 0, 1) := by decide +kernel
theorem i_M_fresh_27 : decode (mb 219) 27 = .ok (.getfield 344, 3) := by decide +kernel
theorem i_M_fresh_30 : decode (mb 219) 30 = .ok (.areturn, 1) := by decide +kernel
theorem o_M_takeFrom : (mn 220).cls = "NeedsALoserModel" := by decide +kernel
theorem l_M_takeFrom : ml 220 = 3 := by decide +kernel
theorem t_M_takeFrom : mr 220 = none := by decide +kernel
theorem i_M_takeFrom_0 : decode (mb 220) 0 = .ok (.aload_n 0, 1) := by decide +kernel
theorem i_M_takeFrom_1 : decode (mb 220) 1 = .ok (.aload_n 1, 1) := by decide +kernel
theorem i_M_takeFrom_2 : decode (mb 220) 2 = .ok (.getfield 73, 3) := by decide +kernel
theorem i_M_takeFrom_5 : decode (mb 220) 5 = .ok (.putfield 73, 3) := by decide +kernel
theorem i_M_takeFrom_8 : decode (mb 220) 8 = .ok (.aload_n 1, 1) := by decide +kernel
theorem i_M_takeFrom_9 : decode (mb 220) 9 = .ok (.getfield 40, 3) := by decide +kernel
theorem i_M_takeFrom_12 : decode (mb 220) 12 = .ok (.aload_n 0, 1) := by decide +kernel
theorem i_M_takeFrom_13 : decode (mb 220) 13 = .ok (.getfield 40, 3) := by decide +kernel
theorem i_M_takeFrom_16 : decode (mb 220) 16 = .ok (.invokestatic 349, 3) := by decide +kernel
theorem i_M_takeFrom_19 : decode (mb 220) 19 = .ok (.aload_n 1, 1) := by decide +kernel
theorem i_M_takeFrom_20 : decode (mb 220) 20 = .ok (.getfield 43, 3) := by decide +kernel
theorem i_M_takeFrom_23 : decode (mb 220) 23 = .ok (.aload_n 0, 1) := by decide +kernel
theorem i_M_takeFrom_24 : decode (mb 220) 24 = .ok (.getfield 43, 3) := by decide +kernel
theorem i_M_takeFrom_27 : decode (mb 220) 27 = .ok (.invokestatic 349, 3) := by decide +kernel
theorem i_M_takeFrom_30 : decode (mb 220) 30 = .ok (.aload_n 0, 1) := by decide +kernel
theorem i_M_takeFrom_31 : decode (mb 220) 31 = .ok (.aload_n 1, 1) := by decide +kernel
theorem i_M_takeFrom_32 : decode (mb 220) 32 = .ok (.getfield 80, 3) := by decide +kernel
theorem i_M_takeFrom_35 : decode (mb 220) 35 = .ok (.putfield 80, 3) := by decide +kernel
theorem i_M_takeFrom_38 : decode (mb 220) 38 = .ok (.iconst 0, 1) := by decide +kernel
theorem i_M_takeFrom_39 : decode (mb 220) 39 = .ok (.istore_n 2, 1) := by decide +kernel
theorem i_M_takeFrom_40 : decode (mb 220) 40 = .ok (.iload_n 2, 1) := by decide +kernel
theorem i_M_takeFrom_41 : decode (mb 220) 41 = .ok (.bipush 7, 2) := by decide +kernel
theorem i_M_takeFrom_43 : decode (mb 220) 43 = .ok (.if_icmp .ge 39, 3) := by decide +kernel
theorem i_M_takeFrom_46 : decode (mb 220) 46 = .ok (.aload_n 1, 1) := by decide +kernel
theorem i_M_takeFrom_47 : decode (mb 220) 47 = .ok (.getfield 48, 3) := by decide +kernel
theorem i_M_takeFrom_50 : decode (mb 220) 50 = .ok (.iload_n 2, 1) := by decide +kernel
theorem i_M_takeFrom_51 : decode (mb 220) 51 = .ok (.aaload, 1) := by decide +kernel
theorem i_M_takeFrom_52 : decode (mb 220) 52 = .ok (.aload_n 0, 1) := by decide +kernel
theorem i_M_takeFrom_53 : decode (mb 220) 53 = .ok (.getfield 48, 3) := by decide +kernel
theorem i_M_takeFrom_56 : decode (mb 220) 56 = .ok (.iload_n 2, 1) := by decide +kernel
theorem i_M_takeFrom_57 : decode (mb 220) 57 = .ok (.aaload, 1) := by decide +kernel
theorem i_M_takeFrom_58 : decode (mb 220) 58 = .ok (.invokestatic 349, 3) := by decide +kernel
theorem i_M_takeFrom_61 : decode (mb 220) 61 = .ok (.aload_n 1, 1) := by decide +kernel
theorem i_M_takeFrom_62 : decode (mb 220) 62 = .ok (.getfield 51, 3) := by decide +kernel
theorem i_M_takeFrom_65 : decode (mb 220) 65 = .ok (.iload_n 2, 1) := by decide +kernel
theorem i_M_takeFrom_66 : decode (mb 220) 66 = .ok (.aaload, 1) := by decide +kernel
theorem i_M_takeFrom_67 : decode (mb 220) 67 = .ok (.aload_n 0, 1) := by decide +kernel
theorem i_M_takeFrom_68 : decode (mb 220) 68 = .ok (.getfield 51, 3) := by decide +kernel
theorem i_M_takeFrom_71 : decode (mb 220) 71 = .ok (.iload_n 2, 1) := by decide +kernel
theorem i_M_takeFrom_72 : decode (mb 220) 72 = .ok (.aaload, 1) := by decide +kernel
theorem i_M_takeFrom_73 : decode (mb 220) 73 = .ok (.invokestatic 349, 3) := by decide +kernel
theorem i_M_takeFrom_76 : decode (mb 220) 76 = .ok (.iinc 2 1, 3) := by decide +kernel
theorem i_M_takeFrom_79 : decode (mb 220) 79 = .ok (.goto (-39), 3) := by decide +kernel
theorem i_M_takeFrom_82 : decode (mb 220) 82 = .ok (.aload_n 1, 1) := by decide +kernel
theorem i_M_takeFrom_83 : decode (mb 220) 83 = .ok (.getfield 54, 3) := by decide +kernel
theorem i_M_takeFrom_86 : decode (mb 220) 86 = .ok (.aload_n 0, 1) := by decide +kernel
theorem i_M_takeFrom_87 : decode (mb 220) 87 = .ok (.getfield 54, 3) := by decide +kernel
theorem i_M_takeFrom_90 : decode (mb 220) 90 = .ok (.invokestatic 349, 3) := by decide +kernel
theorem i_M_takeFrom_93 : decode (mb 220) 93 = .ok (.aload_n 0, 1) := by decide +kernel
theorem i_M_takeFrom_94 : decode (mb 220) 94 = .ok (.aload_n 1, 1) := by decide +kernel
theorem i_M_takeFrom_95 : decode (mb 220) 95 = .ok (.getfield 279, 3) := by decide +kernel
theorem i_M_takeFrom_98 : decode (mb 220) 98 = .ok (.putfield 279, 3) := by decide +kernel
theorem i_M_takeFrom_101 : decode (mb 220) 101 = .ok (.aload_n 0, 1) := by decide +kernel
theorem i_M_takeFrom_102 : decode (mb 220) 102 = .ok (.aload_n 1, 1) := by decide +kernel
theorem i_M_takeFrom_103 : decode (mb 220) 103 = .ok (.getfield 282, 3) := by decide +kernel
theorem i_M_takeFrom_106 : decode (mb 220) 106 = .ok (.putfield 282, 3) := by decide +kernel
theorem i_M_takeFrom_109 : decode (mb 220) 109 = .ok (.aload_n 0, 1) := by decide +kernel
theorem i_M_takeFrom_110 : decode (mb 220) 110 = .ok (.aload_n 1, 1) := by decide +kernel
theorem i_M_takeFrom_111 : decode (mb 220) 111 = .ok (.getfield 57, 3) := by decide +kernel
theorem i_M_takeFrom_114 : decode (mb 220) 114 = .ok (.putfield 57, 3) := by decide +kernel
theorem i_M_takeFrom_117 : decode (mb 220) 117 = .ok (.return_, 1) := by decide +kernel
theorem o_M_over : (mn 221).cls = "NeedsALoserModel" := by decide +kernel
theorem l_M_over : ml 221 = 3 := by decide +kernel
theorem t_M_over : mr 221 = none := by decide +kernel
theorem i_M_over_0 : decode (mb 221) 0 = .ok (.iconst 0, 1) := by decide +kernel
theorem i_M_over_1 : decode (mb 221) 1 = .ok (.istore_n 2, 1) := by decide +kernel
theorem i_M_over_2 : decode (mb 221) 2 = .ok (.iload_n 2, 1) := by decide +kernel
theorem i_M_over_3 : decode (mb 221) 3 = .ok (.aload_n 0, 1) := by decide +kernel
theorem i_M_over_4 : decode (mb 221) 4 = .ok (.arraylength, 1) := by decide +kernel
theorem i_M_over_5 : decode (mb 221) 5 = .ok (.if_icmp .ge 15, 3) := by decide +kernel
theorem i_M_over_8 : decode (mb 221) 8 = .ok (.aload_n 1, 1) := by decide +kernel
theorem i_M_over_9 : decode (mb 221) 9 = .ok (.iload_n 2, 1) := by decide +kernel
theorem i_M_over_10 : decode (mb 221) 10 = .ok (.aload_n 0, 1) := by decide +kernel
theorem i_M_over_11 : decode (mb 221) 11 = .ok (.iload_n 2, 1) := by decide +kernel
theorem i_M_over_12 : decode (mb 221) 12 = .ok (.iaload, 1) := by decide +kernel
theorem i_M_over_13 : decode (mb 221) 13 = .ok (.iastore, 1) := by decide +kernel
theorem i_M_over_14 : decode (mb 221) 14 = .ok (.iinc 2 1, 3) := by decide +kernel
theorem i_M_over_17 : decode (mb 221) 17 = .ok (.goto (-15), 3) := by decide +kernel
theorem i_M_over_20 : decode (mb 221) 20 = .ok (.return_, 1) := by decide +kernel
theorem o_M_readAll : (mn 222).cls = "NeedsALoserModel" := by decide +kernel
theorem l_M_readAll : ml 222 = 1 := by decide +kernel
theorem t_M_readAll : mr 222 = some (FieldType.boolean) := by decide +kernel
theorem i_M_readAll_0 : decode (mb 222) 0 = .ok (.aload_n 0, 1) := by decide +kernel
theorem i_M_readAll_1 : decode (mb 222) 1 = .ok (.iconst 1, 1) := by decide +kernel
theorem i_M_readAll_2 : decode (mb 222) 2 = .ok (.putfield 222, 3) := by decide +kernel
theorem i_M_readAll_5 : decode (mb 222) 5 = .ok (.aload_n 0, 1) := by decide +kernel
theorem i_M_readAll_6 : decode (mb 222) 6 = .ok (.iconst 0, 1) := by decide +kernel
theorem i_M_readAll_7 : decode (mb 222) 7 = .ok (.putfield 135, 3) := by decide +kernel
theorem i_M_readAll_10 : decode (mb 222) 10 = .ok (.aload_n 0, 1) := by decide +kernel
theorem i_M_readAll_11 : decode (mb 222) 11 = .ok (.invokevirtual 171, 3) := by decide +kernel
theorem i_M_readAll_14 : decode (mb 222) 14 = .ok (.aload_n 0, 1) := by decide +kernel
theorem i_M_readAll_15 : decode (mb 222) 15 = .ok (.invokevirtual 225, 3) := by decide +kernel
theorem i_M_readAll_18 : decode (mb 222) 18 = .ok (.ifCond .ne 5, 3) := by decide +kernel
theorem i_M_readAll_21 : decode (mb 222) 21 = .ok (.iconst 0, 1) := by decide +kernel
theorem i_M_readAll_22 : decode (mb 222) 22 = .ok (.ireturn, 1) := by decide +kernel
theorem i_M_readAll_23 : decode (mb 222) 23 = .ok (.aload_n 0, 1) := by decide +kernel
theorem i_M_readAll_24 : decode (mb 222) 24 = .ok (.getfield 144, 3) := by decide +kernel
theorem i_M_readAll_27 : decode (mb 222) 27 = .ok (.ifCond .eq 42, 3) := by decide +kernel
theorem i_M_readAll_30 : decode (mb 222) 30 = .ok (.aload_n 0, 1) := by decide +kernel
theorem i_M_readAll_31 : decode (mb 222) 31 = .ok (.getfield 144, 3) := by decide +kernel
theorem i_M_readAll_34 : decode (mb 222) 34 = .ok (.iconst 3, 1) := by decide +kernel
theorem i_M_readAll_35 : decode (mb 222) 35 = .ok (.if_icmp .eq 8, 3) := by decide +kernel
theorem i_M_readAll_38 : decode (mb 222) 38 = .ok (.aload_n 0, 1) := by decide +kernel
theorem i_M_readAll_39 : decode (mb 222) 39 = .ok (.invokevirtual 167, 3) := by decide +kernel
theorem i_M_readAll_42 : decode (mb 222) 42 = .ok (.ireturn, 1) := by decide +kernel
theorem i_M_readAll_43 : decode (mb 222) 43 = .ok (.aload_n 0, 1) := by decide +kernel
theorem i_M_readAll_44 : decode (mb 222) 44 = .ok (.invokevirtual 171, 3) := by decide +kernel
theorem i_M_readAll_47 : decode (mb 222) 47 = .ok (.aload_n 0, 1) := by decide +kernel
theorem i_M_readAll_48 : decode (mb 222) 48 = .ok (.invokevirtual 225, 3) := by decide +kernel
theorem i_M_readAll_51 : decode (mb 222) 51 = .ok (.ifCond .ne 5, 3) := by decide +kernel
theorem i_M_readAll_54 : decode (mb 222) 54 = .ok (.iconst 0, 1) := by decide +kernel
theorem i_M_readAll_55 : decode (mb 222) 55 = .ok (.ireturn, 1) := by decide +kernel
theorem i_M_readAll_56 : decode (mb 222) 56 = .ok (.aload_n 0, 1) := by decide +kernel
theorem i_M_readAll_57 : decode (mb 222) 57 = .ok (.dup, 1) := by decide +kernel
theorem i_M_readAll_58 : decode (mb 222) 58 = .ok (.getfield 222, 3) := by decide +kernel
theorem i_M_readAll_61 : decode (mb 222) 61 = .ok (.iconst 1, 1) := by decide +kernel
theorem i_M_readAll_62 : decode (mb 222) 62 = .ok (.iadd, 1) := by decide +kernel
theorem i_M_readAll_63 : decode (mb 222) 63 = .ok (.putfield 222, 3) := by decide +kernel
theorem i_M_readAll_66 : decode (mb 222) 66 = .ok (.goto (-43), 3) := by decide +kernel
theorem i_M_readAll_69 : decode (mb 222) 69 = .ok (.iconst 1, 1) := by decide +kernel
theorem i_M_readAll_70 : decode (mb 222) 70 = .ok (.ireturn, 1) := by decide +kernel
theorem o_M_look : (mn 223).cls = "NeedsALoserModel" := by decide +kernel
theorem l_M_look : ml 223 = 1 := by decide +kernel
theorem t_M_look : mr 223 = none := by decide +kernel
theorem i_M_look_0 : decode (mb 223) 0 = .ok (.aload_n 0, 1) := by decide +kernel
theorem i_M_look_1 : decode (mb 223) 1 = .ok (.getfield 135, 3) := by decide +kernel
theorem i_M_look_4 : decode (mb 223) 4 = .ok (.aload_n 0, 1) := by decide +kernel
theorem i_M_look_5 : decode (mb 223) 5 = .ok (.getfield 132, 3) := by decide +kernel
theorem i_M_look_8 : decode (mb 223) 8 = .ok (.if_icmp .ge 30, 3) := by decide +kernel
theorem i_M_look_11 : decode (mb 223) 11 = .ok (.aload_n 0, 1) := by decide +kernel
theorem i_M_look_12 : decode (mb 223) 12 = .ok (.getfield 34, 3) := by decide +kernel
theorem i_M_look_15 : decode (mb 223) 15 = .ok (.aload_n 0, 1) := by decide +kernel
theorem i_M_look_16 : decode (mb 223) 16 = .ok (.getfield 135, 3) := by decide +kernel
theorem i_M_look_19 : decode (mb 223) 19 = .ok (.iaload, 1) := by decide +kernel
theorem i_M_look_20 : decode (mb 223) 20 = .ok (.bipush 32, 2) := by decide +kernel
theorem i_M_look_22 : decode (mb 223) 22 = .ok (.if_icmp .ne 16, 3) := by decide +kernel
theorem i_M_look_25 : decode (mb 223) 25 = .ok (.aload_n 0, 1) := by decide +kernel
theorem i_M_look_26 : decode (mb 223) 26 = .ok (.dup, 1) := by decide +kernel
theorem i_M_look_27 : decode (mb 223) 27 = .ok (.getfield 135, 3) := by decide +kernel
theorem i_M_look_30 : decode (mb 223) 30 = .ok (.iconst 1, 1) := by decide +kernel
theorem i_M_look_31 : decode (mb 223) 31 = .ok (.iadd, 1) := by decide +kernel
theorem i_M_look_32 : decode (mb 223) 32 = .ok (.putfield 135, 3) := by decide +kernel
theorem i_M_look_35 : decode (mb 223) 35 = .ok (.goto (-35), 3) := by decide +kernel
theorem i_M_look_38 : decode (mb 223) 38 = .ok (.aload_n 0, 1) := by decide +kernel
theorem i_M_look_39 : decode (mb 223) 39 = .ok (.aload_n 0, 1) := by decide +kernel
theorem i_M_look_40 : decode (mb 223) 40 = .ok (.getfield 135, 3) := by decide +kernel
theorem i_M_look_43 : decode (mb 223) 43 = .ok (.putfield 138, 3) := by decide +kernel
theorem i_M_look_46 : decode (mb 223) 46 = .ok (.aload_n 0, 1) := by decide +kernel
theorem i_M_look_47 : decode (mb 223) 47 = .ok (.iconst 0, 1) := by decide +kernel
theorem i_M_look_48 : decode (mb 223) 48 = .ok (.putfield 141, 3) := by decide +kernel
theorem i_M_look_51 : decode (mb 223) 51 = .ok (.aload_n 0, 1) := by decide +kernel
theorem i_M_look_52 : decode (mb 223) 52 = .ok (.getfield 135, 3) := by decide +kernel
theorem i_M_look_55 : decode (mb 223) 55 = .ok (.aload_n 0, 1) := by decide +kernel
theorem i_M_look_56 : decode (mb 223) 56 = .ok (.getfield 132, 3) := by decide +kernel
theorem i_M_look_59 : decode (mb 223) 59 = .ok (.if_icmp .ne 11, 3) := by decide +kernel
theorem i_M_look_62 : decode (mb 223) 62 = .ok (.aload_n 0, 1) := by decide +kernel
theorem i_M_look_63 : decode (mb 223) 63 = .ok (.iconst 0, 1) := by decide +kernel
theorem i_M_look_64 : decode (mb 223) 64 = .ok (.putfield 144, 3) := by decide +kernel
theorem i_M_look_67 : decode (mb 223) 67 = .ok (.goto 196, 3) := by decide +kernel
theorem i_M_look_70 : decode (mb 223) 70 = .ok (.aload_n 0, 1) := by decide +kernel
theorem i_M_look_71 : decode (mb 223) 71 = .ok (.getfield 34, 3) := by decide +kernel
theorem i_M_look_74 : decode (mb 223) 74 = .ok (.aload_n 0, 1) := by decide +kernel
theorem i_M_look_75 : decode (mb 223) 75 = .ok (.getfield 135, 3) := by decide +kernel
theorem i_M_look_78 : decode (mb 223) 78 = .ok (.iaload, 1) := by decide +kernel
theorem i_M_look_79 : decode (mb 223) 79 = .ok (.invokestatic 147, 3) := by decide +kernel
theorem i_M_look_82 : decode (mb 223) 82 = .ok (.ifCond .eq 47, 3) := by decide +kernel
theorem i_M_look_85 : decode (mb 223) 85 = .ok (.aload_n 0, 1) := by decide +kernel
theorem i_M_look_86 : decode (mb 223) 86 = .ok (.iconst 1, 1) := by decide +kernel
theorem i_M_look_87 : decode (mb 223) 87 = .ok (.putfield 144, 3) := by decide +kernel
theorem i_M_look_90 : decode (mb 223) 90 = .ok (.aload_n 0, 1) := by decide +kernel
theorem i_M_look_91 : decode (mb 223) 91 = .ok (.getfield 135, 3) := by decide +kernel
theorem i_M_look_94 : decode (mb 223) 94 = .ok (.aload_n 0, 1) := by decide +kernel
theorem i_M_look_95 : decode (mb 223) 95 = .ok (.getfield 132, 3) := by decide +kernel
theorem i_M_look_98 : decode (mb 223) 98 = .ok (.if_icmp .ge 165, 3) := by decide +kernel
theorem i_M_look_101 : decode (mb 223) 101 = .ok (.aload_n 0, 1) := by decide +kernel
theorem i_M_look_102 : decode (mb 223) 102 = .ok (.getfield 34, 3) := by decide +kernel
theorem i_M_look_105 : decode (mb 223) 105 = .ok (.aload_n 0, 1) := by decide +kernel
theorem i_M_look_106 : decode (mb 223) 106 = .ok (.getfield 135, 3) := by decide +kernel
theorem i_M_look_109 : decode (mb 223) 109 = .ok (.iaload, 1) := by decide +kernel
theorem i_M_look_110 : decode (mb 223) 110 = .ok (.invokestatic 147, 3) := by decide +kernel
theorem i_M_look_113 : decode (mb 223) 113 = .ok (.ifCond .eq 150, 3) := by decide +kernel
theorem i_M_look_116 : decode (mb 223) 116 = .ok (.aload_n 0, 1) := by decide +kernel
theorem i_M_look_117 : decode (mb 223) 117 = .ok (.dup, 1) := by decide +kernel
theorem i_M_look_118 : decode (mb 223) 118 = .ok (.getfield 135, 3) := by decide +kernel
theorem i_M_look_121 : decode (mb 223) 121 = .ok (.iconst 1, 1) := by decide +kernel
theorem i_M_look_122 : decode (mb 223) 122 = .ok (.iadd, 1) := by decide +kernel
theorem i_M_look_123 : decode (mb 223) 123 = .ok (.putfield 135, 3) := by decide +kernel
theorem i_M_look_126 : decode (mb 223) 126 = .ok (.goto (-36), 3) := by decide +kernel
theorem i_M_look_129 : decode (mb 223) 129 = .ok (.aload_n 0, 1) := by decide +kernel
theorem i_M_look_130 : decode (mb 223) 130 = .ok (.getfield 34, 3) := by decide +kernel
theorem i_M_look_133 : decode (mb 223) 133 = .ok (.aload_n 0, 1) := by decide +kernel
theorem i_M_look_134 : decode (mb 223) 134 = .ok (.getfield 135, 3) := by decide +kernel
theorem i_M_look_137 : decode (mb 223) 137 = .ok (.iaload, 1) := by decide +kernel
theorem i_M_look_138 : decode (mb 223) 138 = .ok (.invokestatic 150, 3) := by decide +kernel
theorem i_M_look_141 : decode (mb 223) 141 = .ok (.ifCond .eq 89, 3) := by decide +kernel
theorem i_M_look_144 : decode (mb 223) 144 = .ok (.aload_n 0, 1) := by decide +kernel
theorem i_M_look_145 : decode (mb 223) 145 = .ok (.iconst 2, 1) := by decide +kernel
theorem i_M_look_146 : decode (mb 223) 146 = .ok (.putfield 144, 3) := by decide +kernel
theorem i_M_look_149 : decode (mb 223) 149 = .ok (.aload_n 0, 1) := by decide +kernel
theorem i_M_look_150 : decode (mb 223) 150 = .ok (.getfield 135, 3) := by decide +kernel
theorem i_M_look_153 : decode (mb 223) 153 = .ok (.aload_n 0, 1) := by decide +kernel
theorem i_M_look_154 : decode (mb 223) 154 = .ok (.getfield 132, 3) := by decide +kernel
theorem i_M_look_157 : decode (mb 223) 157 = .ok (.if_icmp .ge 106, 3) := by decide +kernel
theorem i_M_look_160 : decode (mb 223) 160 = .ok (.aload_n 0, 1) := by decide +kernel
theorem i_M_look_161 : decode (mb 223) 161 = .ok (.getfield 34, 3) := by decide +kernel
theorem i_M_look_164 : decode (mb 223) 164 = .ok (.aload_n 0, 1) := by decide +kernel
theorem i_M_look_165 : decode (mb 223) 165 = .ok (.getfield 135, 3) := by decide +kernel
theorem i_M_look_168 : decode (mb 223) 168 = .ok (.iaload, 1) := by decide +kernel
theorem i_M_look_169 : decode (mb 223) 169 = .ok (.invokestatic 150, 3) := by decide +kernel
theorem i_M_look_172 : decode (mb 223) 172 = .ok (.ifCond .eq 91, 3) := by decide +kernel
theorem i_M_look_175 : decode (mb 223) 175 = .ok (.aload_n 0, 1) := by decide +kernel
theorem i_M_look_176 : decode (mb 223) 176 = .ok (.aload_n 0, 1) := by decide +kernel
theorem i_M_look_177 : decode (mb 223) 177 = .ok (.getfield 135, 3) := by decide +kernel
theorem i_M_look_180 : decode (mb 223) 180 = .ok (.aload_n 0, 1) := by decide +kernel
theorem i_M_look_181 : decode (mb 223) 181 = .ok (.getfield 138, 3) := by decide +kernel
theorem i_M_look_184 : decode (mb 223) 184 = .ok (.isub, 1) := by decide +kernel
theorem i_M_look_185 : decode (mb 223) 185 = .ok (.iconst 3, 1) := by decide +kernel
theorem i_M_look_186 : decode (mb 223) 186 = .ok (.if_icmp .ge 26, 3) := by decide +kernel
theorem i_M_look_189 : decode (mb 223) 189 = .ok (.aload_n 0, 1) := by decide +kernel
theorem i_M_look_190 : decode (mb 223) 190 = .ok (.getfield 141, 3) := by decide +kernel
theorem i_M_look_193 : decode (mb 223) 193 = .ok (.bipush 10, 2) := by decide +kernel
theorem i_M_look_195 : decode (mb 223) 195 = .ok (.imul, 1) := by decide +kernel
theorem i_M_look_196 : decode (mb 223) 196 = .ok (.aload_n 0, 1) := by decide +kernel
theorem i_M_look_197 : decode (mb 223) 197 = .ok (.getfield 34, 3) := by decide +kernel
theorem i_M_look_200 : decode (mb 223) 200 = .ok (.aload_n 0, 1) := by decide +kernel
theorem i_M_look_201 : decode (mb 223) 201 = .ok (.getfield 135, 3) := by decide +kernel
theorem i_M_look_204 : decode (mb 223) 204 = .ok (.iaload, 1) := by decide +kernel
theorem i_M_look_205 : decode (mb 223) 205 = .ok (.iadd, 1) := by decide +kernel
theorem i_M_look_206 : decode (mb 223) 206 = .ok (.bipush 48, 2) := by decide +kernel
theorem i_M_look_208 : decode (mb 223) 208 = .ok (.isub, 1) := by decide +kernel
theorem i_M_look_209 : decode (mb 223) 209 = .ok (.goto 5, 3) := by decide +kernel
theorem i_M_look_212 : decode (mb 223) 212 = .ok (.ldc 153, 2) := by decide +kernel
theorem i_M_look_214 : decode (mb 223) 214 = .ok (.putfield 141, 3) := by decide +kernel
theorem i_M_look_217 : decode (mb 223) 217 = .ok (.aload_n 0, 1) := by decide +kernel
theorem i_M_look_218 : decode (mb 223) 218 = .ok (.dup, 1) := by decide +kernel
theorem i_M_look_219 : decode (mb 223) 219 = .ok (.getfield 135, 3) := by decide +kernel
theorem i_M_look_222 : decode (mb 223) 222 = .ok (.iconst 1, 1) := by decide +kernel
theorem i_M_look_223 : decode (mb 223) 223 = .ok (.iadd, 1) := by decide +kernel
theorem i_M_look_224 : decode (mb 223) 224 = .ok (.putfield 135, 3) := by decide +kernel
theorem i_M_look_227 : decode (mb 223) 227 = .ok (.goto (-78), 3) := by decide +kernel
theorem i_M_look_230 : decode (mb 223) 230 = .ok (.aload_n 0, 1) := by decide +kernel
theorem i_M_look_231 : decode (mb 223) 231 = .ok (.aload_n 0, 1) := by decide +kernel
theorem i_M_look_232 : decode (mb 223) 232 = .ok (.getfield 34, 3) := by decide +kernel
theorem i_M_look_235 : decode (mb 223) 235 = .ok (.aload_n 0, 1) := by decide +kernel
theorem i_M_look_236 : decode (mb 223) 236 = .ok (.getfield 135, 3) := by decide +kernel
theorem i_M_look_239 : decode (mb 223) 239 = .ok (.iaload, 1) := by decide +kernel
theorem i_M_look_240 : decode (mb 223) 240 = .ok (.bipush 59, 2) := by decide +kernel
theorem i_M_look_242 : decode (mb 223) 242 = .ok (.if_icmp .ne 7, 3) := by decide +kernel
theorem i_M_look_245 : decode (mb 223) 245 = .ok (.iconst 3, 1) := by decide +kernel
theorem i_M_look_246 : decode (mb 223) 246 = .ok (.goto 4, 3) := by decide +kernel
theorem i_M_look_249 : decode (mb 223) 249 = .ok (.iconst 4, 1) := by decide +kernel
theorem i_M_look_250 : decode (mb 223) 250 = .ok (.putfield 144, 3) := by decide +kernel
theorem i_M_look_253 : decode (mb 223) 253 = .ok (.aload_n 0, 1) := by decide +kernel
theorem i_M_look_254 : decode (mb 223) 254 = .ok (.dup, 1) := by decide +kernel
theorem i_M_look_255 : decode (mb 223) 255 = .ok (.getfield 135, 3) := by decide +kernel
theorem i_M_look_258 : decode (mb 223) 258 = .ok (.iconst 1, 1) := by decide +kernel
theorem i_M_look_259 : decode (mb 223) 259 = .ok (.iadd, 1) := by decide +kernel
theorem i_M_look_260 : decode (mb 223) 260 = .ok (.putfield 135, 3) := by decide +kernel
theorem i_M_look_263 : decode (mb 223) 263 = .ok (.return_, 1) := by decide +kernel
theorem o_M_isLetter : (mn 224).cls = "NeedsALoserModel" := by decide +kernel
theorem l_M_isLetter : ml 224 = 1 := by decide +kernel
theorem t_M_isLetter : mr 224 = some (FieldType.boolean) := by decide +kernel
theorem i_M_isLetter_0 : decode (mb 224) 0 = .ok (.iload_n 0, 1) := by decide +kernel
theorem i_M_isLetter_1 : decode (mb 224) 1 = .ok (.bipush 97, 2) := by decide +kernel
theorem i_M_isLetter_3 : decode (mb 224) 3 = .ok (.if_icmp .lt 13, 3) := by decide +kernel
theorem i_M_isLetter_6 : decode (mb 224) 6 = .ok (.iload_n 0, 1) := by decide +kernel
theorem i_M_isLetter_7 : decode (mb 224) 7 = .ok (.bipush 122, 2) := by decide +kernel
theorem i_M_isLetter_9 : decode (mb 224) 9 = .ok (.if_icmp .gt 7, 3) := by decide +kernel
theorem i_M_isLetter_12 : decode (mb 224) 12 = .ok (.iconst 1, 1) := by decide +kernel
theorem i_M_isLetter_13 : decode (mb 224) 13 = .ok (.goto 4, 3) := by decide +kernel
theorem i_M_isLetter_16 : decode (mb 224) 16 = .ok (.iconst 0, 1) := by decide +kernel
theorem i_M_isLetter_17 : decode (mb 224) 17 = .ok (.ireturn, 1) := by decide +kernel
theorem o_M_isDigit : (mn 225).cls = "NeedsALoserModel" := by decide +kernel
theorem l_M_isDigit : ml 225 = 1 := by decide +kernel
theorem t_M_isDigit : mr 225 = some (FieldType.boolean) := by decide +kernel
theorem i_M_isDigit_0 : decode (mb 225) 0 = .ok (.iload_n 0, 1) := by decide +kernel
theorem i_M_isDigit_1 : decode (mb 225) 1 = .ok (.bipush 48, 2) := by decide +kernel
theorem i_M_isDigit_3 : decode (mb 225) 3 = .ok (.if_icmp .lt 13, 3) := by decide +kernel
theorem i_M_isDigit_6 : decode (mb 225) 6 = .ok (.iload_n 0, 1) := by decide +kernel
theorem i_M_isDigit_7 : decode (mb 225) 7 = .ok (.bipush 57, 2) := by decide +kernel
theorem i_M_isDigit_9 : decode (mb 225) 9 = .ok (.if_icmp .gt 7, 3) := by decide +kernel
theorem i_M_isDigit_12 : decode (mb 225) 12 = .ok (.iconst 1, 1) := by decide +kernel
theorem i_M_isDigit_13 : decode (mb 225) 13 = .ok (.goto 4, 3) := by decide +kernel
theorem i_M_isDigit_16 : decode (mb 225) 16 = .ok (.iconst 0, 1) := by decide +kernel
theorem i_M_isDigit_17 : decode (mb 225) 17 = .ok (.ireturn, 1) := by decide +kernel
theorem o_M_statement : (mn 226).cls = "NeedsALoserModel" := by decide +kernel
theorem l_M_statement : ml 226 = 1 := by decide +kernel
theorem t_M_statement : mr 226 = some (FieldType.boolean) := by decide +kernel
theorem i_M_statement_0 : decode (mb 226) 0 = .ok (.aload_n 0, 1) := by decide +kernel
theorem i_M_statement_1 : decode (mb 226) 1 = .ok (.ldc 196, 2) := by decide +kernel
theorem i_M_statement_3 : decode (mb 226) 3 = .ok (.invokevirtual 174, 3) := by decide +kernel
theorem i_M_statement_6 : decode (mb 226) 6 = .ok (.ifCond .eq 23, 3) := by decide +kernel
theorem i_M_statement_9 : decode (mb 226) 9 = .ok (.aload_n 0, 1) := by decide +kernel
theorem i_M_statement_10 : decode (mb 226) 10 = .ok (.getfield 73, 3) := by decide +kernel
theorem i_M_statement_13 : decode (mb 226) 13 = .ok (.bipush 7, 2) := by decide +kernel
theorem i_M_statement_15 : decode (mb 226) 15 = .ok (.if_icmp .ge 14, 3) := by decide +kernel
theorem i_M_statement_18 : decode (mb 226) 18 = .ok (.aload_n 0, 1) := by decide +kernel
theorem i_M_statement_19 : decode (mb 226) 19 = .ok (.invokevirtual 171, 3) := by decide +kernel
theorem i_M_statement_22 : decode (mb 226) 22 = .ok (.aload_n 0, 1) := by decide +kernel
theorem i_M_statement_23 : decode (mb 226) 23 = .ok (.invokevirtual 198, 3) := by decide +kernel
theorem i_M_statement_26 : decode (mb 226) 26 = .ok (.pop, 1) := by decide +kernel
theorem i_M_statement_27 : decode (mb 226) 27 = .ok (.iconst 1, 1) := by decide +kernel
theorem i_M_statement_28 : decode (mb 226) 28 = .ok (.ireturn, 1) := by decide +kernel
theorem i_M_statement_29 : decode (mb 226) 29 = .ok (.aload_n 0, 1) := by decide +kernel
theorem i_M_statement_30 : decode (mb 226) 30 = .ok (.ldc 182, 2) := by decide +kernel
theorem i_M_statement_32 : decode (mb 226) 32 = .ok (.invokevirtual 174, 3) := by decide +kernel
theorem i_M_statement_35 : decode (mb 226) 35 = .ok (.ifCond .eq 17, 3) := by decide +kernel
theorem i_M_statement_38 : decode (mb 226) 38 = .ok (.aload_n 0, 1) := by decide +kernel
theorem i_M_statement_39 : decode (mb 226) 39 = .ok (.getfield 80, 3) := by decide +kernel
theorem i_M_statement_42 : decode (mb 226) 42 = .ok (.bipush 7, 2) := by decide +kernel
theorem i_M_statement_44 : decode (mb 226) 44 = .ok (.if_icmp .ge 8, 3) := by decide +kernel
theorem i_M_statement_47 : decode (mb 226) 47 = .ok (.aload_n 0, 1) := by decide +kernel
theorem i_M_statement_48 : decode (mb 226) 48 = .ok (.invokevirtual 200, 3) := by decide +kernel
theorem i_M_statement_51 : decode (mb 226) 51 = .ok (.ireturn, 1) := by decide +kernel
theorem i_M_statement_52 : decode (mb 226) 52 = .ok (.aload_n 0, 1) := by decide +kernel
theorem i_M_statement_53 : decode (mb 226) 53 = .ok (.ldc 203, 2) := by decide +kernel
theorem i_M_statement_55 : decode (mb 226) 55 = .ok (.invokevirtual 174, 3) := by decide +kernel
theorem i_M_statement_58 : decode (mb 226) 58 = .ok (.ifCond .eq 75, 3) := by decide +kernel
theorem i_M_statement_61 : decode (mb 226) 61 = .ok (.aload_n 0, 1) := by decide +kernel
theorem i_M_statement_62 : decode (mb 226) 62 = .ok (.ldc 203, 2) := by decide +kernel
theorem i_M_statement_64 : decode (mb 226) 64 = .ok (.iconst 0, 1) := by decide +kernel
theorem i_M_statement_65 : decode (mb 226) 65 = .ok (.iconst 0, 1) := by decide +kernel
theorem i_M_statement_66 : decode (mb 226) 66 = .ok (.aload_n 0, 1) := by decide +kernel
theorem i_M_statement_67 : decode (mb 226) 67 = .ok (.getfield 80, 3) := by decide +kernel
theorem i_M_statement_70 : decode (mb 226) 70 = .ok (.iconst 1, 1) := by decide +kernel
theorem i_M_statement_71 : decode (mb 226) 71 = .ok (.isub, 1) := by decide +kernel
theorem i_M_statement_72 : decode (mb 226) 72 = .ok (.invokevirtual 184, 3) := by decide +kernel
theorem i_M_statement_75 : decode (mb 226) 75 = .ok (.ifCond .eq 29, 3) := by decide +kernel
theorem i_M_statement_78 : decode (mb 226) 78 = .ok (.aload_n 0, 1) := by decide +kernel
theorem i_M_statement_79 : decode (mb 226) 79 = .ok (.iconst 1, 1) := by decide +kernel
theorem i_M_statement_80 : decode (mb 226) 80 = .ok (.iconst 0, 1) := by decide +kernel
theorem i_M_statement_81 : decode (mb 226) 81 = .ok (.aload_n 0, 1) := by decide +kernel
theorem i_M_statement_82 : decode (mb 226) 82 = .ok (.getfield 73, 3) := by decide +kernel
theorem i_M_statement_85 : decode (mb 226) 85 = .ok (.iconst 1, 1) := by decide +kernel
theorem i_M_statement_86 : decode (mb 226) 86 = .ok (.isub, 1) := by decide +kernel
theorem i_M_statement_87 : decode (mb 226) 87 = .ok (.invokevirtual 178, 3) := by decide +kernel
theorem i_M_statement_90 : decode (mb 226) 90 = .ok (.ifCond .eq 14, 3) := by decide +kernel
theorem i_M_statement_93 : decode (mb 226) 93 = .ok (.aload_n 0, 1) := by decide +kernel
theorem i_M_statement_94 : decode (mb 226) 94 = .ok (.iconst 2, 1) := by decide +kernel
theorem i_M_statement_95 : decode (mb 226) 95 = .ok (.iconst 0, 1) := by decide +kernel
theorem i_M_statement_96 : decode (mb 226) 96 = .ok (.bipush 99, 2) := by decide +kernel
theorem i_M_statement_98 : decode (mb 226) 98 = .ok (.invokevirtual 178, 3) := by decide +kernel
theorem i_M_statement_101 : decode (mb 226) 101 = .ok (.ifCond .ne 5, 3) := by decide +kernel
theorem i_M_statement_104 : decode (mb 226) 104 = .ok (.iconst 0, 1) := by decide +kernel
theorem i_M_statement_105 : decode (mb 226) 105 = .ok (.ireturn, 1) := by decide +kernel
theorem i_M_statement_106 : decode (mb 226) 106 = .ok (.aload_n 0, 1) := by decide +kernel
theorem i_M_statement_107 : decode (mb 226) 107 = .ok (.getfield 51, 3) := by decide +kernel
theorem i_M_statement_110 : decode (mb 226) 110 = .ok (.aload_n 0, 1) := by decide +kernel
theorem i_M_statement_111 : decode (mb 226) 111 = .ok (.getfield 61, 3) := by decide +kernel
theorem i_M_statement_114 : decode (mb 226) 114 = .ok (.iconst 0, 1) := by decide +kernel
theorem i_M_statement_115 : decode (mb 226) 115 = .ok (.iaload, 1) := by decide +kernel
theorem i_M_statement_116 : decode (mb 226) 116 = .ok (.aaload, 1) := by decide +kernel
theorem i_M_statement_117 : decode (mb 226) 117 = .ok (.aload_n 0, 1) := by decide +kernel
theorem i_M_statement_118 : decode (mb 226) 118 = .ok (.getfield 61, 3) := by decide +kernel
theorem i_M_statement_121 : decode (mb 226) 121 = .ok (.iconst 1, 1) := by decide +kernel
theorem i_M_statement_122 : decode (mb 226) 122 = .ok (.iaload, 1) := by decide +kernel
theorem i_M_statement_123 : decode (mb 226) 123 = .ok (.aload_n 0, 1) := by decide +kernel
theorem i_M_statement_124 : decode (mb 226) 124 = .ok (.getfield 61, 3) := by decide +kernel
theorem i_M_statement_127 : decode (mb 226) 127 = .ok (.iconst 2, 1) := by decide +kernel
theorem i_M_statement_128 : decode (mb 226) 128 = .ok (.iaload, 1) := by decide +kernel
theorem i_M_statement_129 : decode (mb 226) 129 = .ok (.ineg, 1) := by decide +kernel
theorem i_M_statement_130 : decode (mb 226) 130 = .ok (.iastore, 1) := by decide +kernel
theorem i_M_statement_131 : decode (mb 226) 131 = .ok (.iconst 1, 1) := by decide +kernel
theorem i_M_statement_132 : decode (mb 226) 132 = .ok (.ireturn, 1) := by decide +kernel
theorem i_M_statement_133 : decode (mb 226) 133 = .ok (.aload_n 0, 1) := by decide +kernel
theorem i_M_statement_134 : decode (mb 226) 134 = .ok (.ldc 205, 2) := by decide +kernel
theorem i_M_statement_136 : decode (mb 226) 136 = .ok (.invokevirtual 174, 3) := by decide +kernel
theorem i_M_statement_139 : decode (mb 226) 139 = .ok (.ifCond .eq 11, 3) := by decide +kernel
theorem i_M_statement_142 : decode (mb 226) 142 = .ok (.aload_n 0, 1) := by decide +kernel
theorem i_M_statement_143 : decode (mb 226) 143 = .ok (.ldc 205, 2) := by decide +kernel
theorem i_M_statement_145 : decode (mb 226) 145 = .ok (.iconst 0, 1) := by decide +kernel
theorem i_M_statement_146 : decode (mb 226) 146 = .ok (.invokevirtual 207, 3) := by decide +kernel
theorem i_M_statement_149 : decode (mb 226) 149 = .ok (.ireturn, 1) := by decide +kernel
theorem i_M_statement_150 : decode (mb 226) 150 = .ok (.aload_n 0, 1) := by decide +kernel
theorem i_M_statement_151 : decode (mb 226) 151 = .ok (.ldc 211, 2) := by decide +kernel
theorem i_M_statement_153 : decode (mb 226) 153 = .ok (.invokevirtual 174, 3) := by decide +kernel
theorem i_M_statement_156 : decode (mb 226) 156 = .ok (.ifCond .eq 11, 3) := by decide +kernel
theorem i_M_statement_159 : decode (mb 226) 159 = .ok (.aload_n 0, 1) := by decide +kernel
theorem i_M_statement_160 : decode (mb 226) 160 = .ok (.ldc 211, 2) := by decide +kernel
theorem i_M_statement_162 : decode (mb 226) 162 = .ok (.iconst 1, 1) := by decide +kernel
theorem i_M_statement_163 : decode (mb 226) 163 = .ok (.invokevirtual 207, 3) := by decide +kernel
theorem i_M_statement_166 : decode (mb 226) 166 = .ok (.ireturn, 1) := by decide +kernel
theorem i_M_statement_167 : decode (mb 226) 167 = .ok (.aload_n 0, 1) := by decide +kernel
theorem i_M_statement_168 : decode (mb 226) 168 = .ok (.ldc 213, 2) := by decide +kernel
theorem i_M_statement_170 : decode (mb 226) 170 = .ok (.invokevirtual 174, 3) := by decide +kernel
theorem i_M_statement_173 : decode (mb 226) 173 = .ok (.ifCond .eq 11, 3) := by decide +kernel
theorem i_M_statement_176 : decode (mb 226) 176 = .ok (.aload_n 0, 1) := by decide +kernel
theorem i_M_statement_177 : decode (mb 226) 177 = .ok (.ldc 213, 2) := by decide +kernel
theorem i_M_statement_179 : decode (mb 226) 179 = .ok (.iconst 2, 1) := by decide +kernel
theorem i_M_statement_180 : decode (mb 226) 180 = .ok (.invokevirtual 207, 3) := by decide +kernel
theorem i_M_statement_183 : decode (mb 226) 183 = .ok (.ireturn, 1) := by decide +kernel
theorem i_M_statement_184 : decode (mb 226) 184 = .ok (.aload_n 0, 1) := by decide +kernel
theorem i_M_statement_185 : decode (mb 226) 185 = .ok (.ldc 215, 2) := by decide +kernel
theorem i_M_statement_187 : decode (mb 226) 187 = .ok (.invokevirtual 174, 3) := by decide +kernel
theorem i_M_statement_190 : decode (mb 226) 190 = .ok (.ifCond .eq 11, 3) := by decide +kernel
theorem i_M_statement_193 : decode (mb 226) 193 = .ok (.aload_n 0, 1) := by decide +kernel
theorem i_M_statement_194 : decode (mb 226) 194 = .ok (.ldc 215, 2) := by decide +kernel
theorem i_M_statement_196 : decode (mb 226) 196 = .ok (.iconst 3, 1) := by decide +kernel
theorem i_M_statement_197 : decode (mb 226) 197 = .ok (.invokevirtual 207, 3) := by decide +kernel
theorem i_M_statement_200 : decode (mb 226) 200 = .ok (.ireturn, 1) := by decide +kernel
theorem i_M_statement_201 : decode (mb 226) 201 = .ok (.aload_n 0, 1) := by decide +kernel
theorem i_M_statement_202 : decode (mb 226) 202 = .ok (.ldc 217, 2) := by decide +kernel
theorem i_M_statement_204 : decode (mb 226) 204 = .ok (.iconst 0, 1) := by decide +kernel
theorem i_M_statement_205 : decode (mb 226) 205 = .ok (.iconst 0, 1) := by decide +kernel
theorem i_M_statement_206 : decode (mb 226) 206 = .ok (.aload_n 0, 1) := by decide +kernel
theorem i_M_statement_207 : decode (mb 226) 207 = .ok (.getfield 80, 3) := by decide +kernel
theorem i_M_statement_210 : decode (mb 226) 210 = .ok (.iconst 1, 1) := by decide +kernel
theorem i_M_statement_211 : decode (mb 226) 211 = .ok (.isub, 1) := by decide +kernel
theorem i_M_statement_212 : decode (mb 226) 212 = .ok (.invokevirtual 184, 3) := by decide +kernel
theorem i_M_statement_215 : decode (mb 226) 215 = .ok (.ifCond .eq 17, 3) := by decide +kernel
theorem i_M_statement_218 : decode (mb 226) 218 = .ok (.aload_n 0, 1) := by decide +kernel
theorem i_M_statement_219 : decode (mb 226) 219 = .ok (.iconst 1, 1) := by decide +kernel
theorem i_M_statement_220 : decode (mb 226) 220 = .ok (.aload_n 0, 1) := by decide +kernel
theorem i_M_statement_221 : decode (mb 226) 221 = .ok (.getfield 80, 3) := by decide +kernel
theorem i_M_statement_224 : decode (mb 226) 224 = .ok (.iconst 1, 1) := by decide +kernel
theorem i_M_statement_225 : decode (mb 226) 225 = .ok (.isub, 1) := by decide +kernel
theorem i_M_statement_226 : decode (mb 226) 226 = .ok (.invokevirtual 188, 3) := by decide +kernel
theorem i_M_statement_229 : decode (mb 226) 229 = .ok (.ifCond .ne 5, 3) := by decide +kernel
theorem i_M_statement_232 : decode (mb 226) 232 = .ok (.iconst 0, 1) := by decide +kernel
theorem i_M_statement_233 : decode (mb 226) 233 = .ok (.ireturn, 1) := by decide +kernel
theorem i_M_statement_234 : decode (mb 226) 234 = .ok (.aload_n 0, 1) := by decide +kernel
theorem i_M_statement_235 : decode (mb 226) 235 = .ok (.aload_n 0, 1) := by decide +kernel
theorem i_M_statement_236 : decode (mb 226) 236 = .ok (.getfield 61, 3) := by decide +kernel
theorem i_M_statement_239 : decode (mb 226) 239 = .ok (.iconst 0, 1) := by decide +kernel
theorem i_M_statement_240 : decode (mb 226) 240 = .ok (.iaload, 1) := by decide +kernel
theorem i_M_statement_241 : decode (mb 226) 241 = .ok (.aload_n 0, 1) := by decide +kernel
theorem i_M_statement_242 : decode (mb 226) 242 = .ok (.getfield 61, 3) := by decide +kernel
theorem i_M_statement_245 : decode (mb 226) 245 = .ok (.iconst 1, 1) := by decide +kernel
theorem i_M_statement_246 : decode (mb 226) 246 = .ok (.iaload, 1) := by decide +kernel
theorem i_M_statement_247 : decode (mb 226) 247 = .ok (.iconst 1, 1) := by decide +kernel
theorem i_M_statement_248 : decode (mb 226) 248 = .ok (.invokevirtual 219, 3) := by decide +kernel
theorem i_M_statement_251 : decode (mb 226) 251 = .ok (.pop, 1) := by decide +kernel
theorem i_M_statement_252 : decode (mb 226) 252 = .ok (.iconst 1, 1) := by decide +kernel
theorem i_M_statement_253 : decode (mb 226) 253 = .ok (.ireturn, 1) := by decide +kernel
theorem o_M_isWord : (mn 227).cls = "NeedsALoserModel" := by decide +kernel
theorem l_M_isWord : ml 227 = 3 := by decide +kernel
theorem t_M_isWord : mr 227 = some (FieldType.boolean) := by decide +kernel
theorem i_M_isWord_0 : decode (mb 227) 0 = .ok (.aload_n 0, 1) := by decide +kernel
theorem i_M_isWord_1 : decode (mb 227) 1 = .ok (.getfield 144, 3) := by decide +kernel
theorem i_M_isWord_4 : decode (mb 227) 4 = .ok (.iconst 1, 1) := by decide +kernel
theorem i_M_isWord_5 : decode (mb 227) 5 = .ok (.if_icmp .ne 19, 3) := by decide +kernel
theorem i_M_isWord_8 : decode (mb 227) 8 = .ok (.aload_n 0, 1) := by decide +kernel
theorem i_M_isWord_9 : decode (mb 227) 9 = .ok (.getfield 135, 3) := by decide +kernel
theorem i_M_isWord_12 : decode (mb 227) 12 = .ok (.aload_n 0, 1) := by decide +kernel
theorem i_M_isWord_13 : decode (mb 227) 13 = .ok (.getfield 138, 3) := by decide +kernel
theorem i_M_isWord_16 : decode (mb 227) 16 = .ok (.isub, 1) := by decide +kernel
theorem i_M_isWord_17 : decode (mb 227) 17 = .ok (.aload_n 1, 1) := by decide +kernel
theorem i_M_isWord_18 : decode (mb 227) 18 = .ok (.invokevirtual 157, 3) := by decide +kernel
theorem i_M_isWord_21 : decode (mb 227) 21 = .ok (.if_icmp .eq 5, 3) := by decide +kernel
theorem i_M_isWord_24 : decode (mb 227) 24 = .ok (.iconst 0, 1) := by decide +kernel
theorem i_M_isWord_25 : decode (mb 227) 25 = .ok (.ireturn, 1) := by decide +kernel
theorem i_M_isWord_26 : decode (mb 227) 26 = .ok (.iconst 0, 1) := by decide +kernel
theorem i_M_isWord_27 : decode (mb 227) 27 = .ok (.istore_n 2, 1) := by decide +kernel
theorem i_M_isWord_28 : decode (mb 227) 28 = .ok (.iload_n 2, 1) := by decide +kernel
theorem i_M_isWord_29 : decode (mb 227) 29 = .ok (.aload_n 1, 1) := by decide +kernel
theorem i_M_isWord_30 : decode (mb 227) 30 = .ok (.invokevirtual 157, 3) := by decide +kernel
theorem i_M_isWord_33 : decode (mb 227) 33 = .ok (.if_icmp .ge 30, 3) := by decide +kernel
theorem i_M_isWord_36 : decode (mb 227) 36 = .ok (.aload_n 0, 1) := by decide +kernel
theorem i_M_isWord_37 : decode (mb 227) 37 = .ok (.getfield 34, 3) := by decide +kernel
theorem i_M_isWord_40 : decode (mb 227) 40 = .ok (.aload_n 0, 1) := by decide +kernel
theorem i_M_isWord_41 : decode (mb 227) 41 = .ok (.getfield 138, 3) := by decide +kernel
theorem i_M_isWord_44 : decode (mb 227) 44 = .ok (.iload_n 2, 1) := by decide +kernel
theorem i_M_isWord_45 : decode (mb 227) 45 = .ok (.iadd, 1) := by decide +kernel
theorem i_M_isWord_46 : decode (mb 227) 46 = .ok (.iaload, 1) := by decide +kernel
theorem i_M_isWord_47 : decode (mb 227) 47 = .ok (.aload_n 1, 1) := by decide +kernel
theorem i_M_isWord_48 : decode (mb 227) 48 = .ok (.iload_n 2, 1) := by decide +kernel
theorem i_M_isWord_49 : decode (mb 227) 49 = .ok (.invokevirtual 163, 3) := by decide +kernel
theorem i_M_isWord_52 : decode (mb 227) 52 = .ok (.if_icmp .eq 5, 3) := by decide +kernel
theorem i_M_isWord_55 : decode (mb 227) 55 = .ok (.iconst 0, 1) := by decide +kernel
theorem i_M_isWord_56 : decode (mb 227) 56 = .ok (.ireturn, 1) := by decide +kernel
theorem i_M_isWord_57 : decode (mb 227) 57 = .ok (.iinc 2 1, 3) := by decide +kernel
theorem i_M_isWord_60 : decode (mb 227) 60 = .ok (.goto (-32), 3) := by decide +kernel
theorem i_M_isWord_63 : decode (mb 227) 63 = .ok (.iconst 1, 1) := by decide +kernel
theorem i_M_isWord_64 : decode (mb 227) 64 = .ok (.ireturn, 1) := by decide +kernel
theorem o_M_dealTold : (mn 228).cls = "NeedsALoserModel" := by decide +kernel
theorem l_M_dealTold : ml 228 = 2 := by decide +kernel
theorem t_M_dealTold : mr 228 = some (FieldType.boolean) := by decide +kernel
theorem i_M_dealTold_0 : decode (mb 228) 0 = .ok (.aload_n 0, 1) := by decide +kernel
theorem i_M_dealTold_1 : decode (mb 228) 1 = .ok (.ldc 182, 2) := by decide +kernel
theorem i_M_dealTold_3 : decode (mb 228) 3 = .ok (.iconst 0, 1) := by decide +kernel
theorem i_M_dealTold_4 : decode (mb 228) 4 = .ok (.iconst 0, 1) := by decide +kernel
theorem i_M_dealTold_5 : decode (mb 228) 5 = .ok (.aload_n 0, 1) := by decide +kernel
theorem i_M_dealTold_6 : decode (mb 228) 6 = .ok (.getfield 73, 3) := by decide +kernel
theorem i_M_dealTold_9 : decode (mb 228) 9 = .ok (.iconst 1, 1) := by decide +kernel
theorem i_M_dealTold_10 : decode (mb 228) 10 = .ok (.isub, 1) := by decide +kernel
theorem i_M_dealTold_11 : decode (mb 228) 11 = .ok (.invokevirtual 184, 3) := by decide +kernel
theorem i_M_dealTold_14 : decode (mb 228) 14 = .ok (.ifCond .eq 39, 3) := by decide +kernel
theorem i_M_dealTold_17 : decode (mb 228) 17 = .ok (.aload_n 0, 1) := by decide +kernel
theorem i_M_dealTold_18 : decode (mb 228) 18 = .ok (.iconst 1, 1) := by decide +kernel
theorem i_M_dealTold_19 : decode (mb 228) 19 = .ok (.aload_n 0, 1) := by decide +kernel
theorem i_M_dealTold_20 : decode (mb 228) 20 = .ok (.getfield 73, 3) := by decide +kernel
theorem i_M_dealTold_23 : decode (mb 228) 23 = .ok (.iconst 1, 1) := by decide +kernel
theorem i_M_dealTold_24 : decode (mb 228) 24 = .ok (.isub, 1) := by decide +kernel
theorem i_M_dealTold_25 : decode (mb 228) 25 = .ok (.invokevirtual 188, 3) := by decide +kernel
theorem i_M_dealTold_28 : decode (mb 228) 28 = .ok (.ifCond .eq 25, 3) := by decide +kernel
theorem i_M_dealTold_31 : decode (mb 228) 31 = .ok (.aload_n 0, 1) := by decide +kernel
theorem i_M_dealTold_32 : decode (mb 228) 32 = .ok (.iconst 2, 1) := by decide +kernel
theorem i_M_dealTold_33 : decode (mb 228) 33 = .ok (.iconst 0, 1) := by decide +kernel
theorem i_M_dealTold_34 : decode (mb 228) 34 = .ok (.bipush 99, 2) := by decide +kernel
theorem i_M_dealTold_36 : decode (mb 228) 36 = .ok (.invokevirtual 178, 3) := by decide +kernel
theorem i_M_dealTold_39 : decode (mb 228) 39 = .ok (.ifCond .eq 14, 3) := by decide +kernel
theorem i_M_dealTold_42 : decode (mb 228) 42 = .ok (.aload_n 0, 1) := by decide +kernel
theorem i_M_dealTold_43 : decode (mb 228) 43 = .ok (.iconst 3, 1) := by decide +kernel
theorem i_M_dealTold_44 : decode (mb 228) 44 = .ok (.iconst 0, 1) := by decide +kernel
theorem i_M_dealTold_45 : decode (mb 228) 45 = .ok (.bipush 99, 2) := by decide +kernel
theorem i_M_dealTold_47 : decode (mb 228) 47 = .ok (.invokevirtual 178, 3) := by decide +kernel
theorem i_M_dealTold_50 : decode (mb 228) 50 = .ok (.ifCond .ne 5, 3) := by decide +kernel
theorem i_M_dealTold_53 : decode (mb 228) 53 = .ok (.iconst 0, 1) := by decide +kernel
theorem i_M_dealTold_54 : decode (mb 228) 54 = .ok (.ireturn, 1) := by decide +kernel
theorem i_M_dealTold_55 : decode (mb 228) 55 = .ok (.aload_n 0, 1) := by decide +kernel
theorem i_M_dealTold_56 : decode (mb 228) 56 = .ok (.aload_n 0, 1) := by decide +kernel
theorem i_M_dealTold_57 : decode (mb 228) 57 = .ok (.getfield 61, 3) := by decide +kernel
theorem i_M_dealTold_60 : decode (mb 228) 60 = .ok (.iconst 0, 1) := by decide +kernel
theorem i_M_dealTold_61 : decode (mb 228) 61 = .ok (.iaload, 1) := by decide +kernel
theorem i_M_dealTold_62 : decode (mb 228) 62 = .ok (.aload_n 0, 1) := by decide +kernel
theorem i_M_dealTold_63 : decode (mb 228) 63 = .ok (.getfield 61, 3) := by decide +kernel
theorem i_M_dealTold_66 : decode (mb 228) 66 = .ok (.iconst 1, 1) := by decide +kernel
theorem i_M_dealTold_67 : decode (mb 228) 67 = .ok (.iaload, 1) := by decide +kernel
theorem i_M_dealTold_68 : decode (mb 228) 68 = .ok (.aload_n 0, 1) := by decide +kernel
theorem i_M_dealTold_69 : decode (mb 228) 69 = .ok (.getfield 61, 3) := by decide +kernel
theorem i_M_dealTold_72 : decode (mb 228) 72 = .ok (.iconst 2, 1) := by decide +kernel
theorem i_M_dealTold_73 : decode (mb 228) 73 = .ok (.iaload, 1) := by decide +kernel
theorem i_M_dealTold_74 : decode (mb 228) 74 = .ok (.aload_n 0, 1) := by decide +kernel
theorem i_M_dealTold_75 : decode (mb 228) 75 = .ok (.getfield 61, 3) := by decide +kernel
theorem i_M_dealTold_78 : decode (mb 228) 78 = .ok (.iconst 3, 1) := by decide +kernel
theorem i_M_dealTold_79 : decode (mb 228) 79 = .ok (.iaload, 1) := by decide +kernel
theorem i_M_dealTold_80 : decode (mb 228) 80 = .ok (.invokevirtual 191, 3) := by decide +kernel
theorem i_M_dealTold_83 : decode (mb 228) 83 = .ok (.istore_n 1, 1) := by decide +kernel
theorem i_M_dealTold_84 : decode (mb 228) 84 = .ok (.aload_n 0, 1) := by decide +kernel
theorem i_M_dealTold_85 : decode (mb 228) 85 = .ok (.ldc 194, 2) := by decide +kernel
theorem i_M_dealTold_87 : decode (mb 228) 87 = .ok (.invokevirtual 174, 3) := by decide +kernel
theorem i_M_dealTold_90 : decode (mb 228) 90 = .ok (.ifCond .eq 55, 3) := by decide +kernel
theorem i_M_dealTold_93 : decode (mb 228) 93 = .ok (.aload_n 0, 1) := by decide +kernel
theorem i_M_dealTold_94 : decode (mb 228) 94 = .ok (.ldc 194, 2) := by decide +kernel
theorem i_M_dealTold_96 : decode (mb 228) 96 = .ok (.iconst 0, 1) := by decide +kernel
theorem i_M_dealTold_97 : decode (mb 228) 97 = .ok (.iconst 0, 1) := by decide +kernel
theorem i_M_dealTold_98 : decode (mb 228) 98 = .ok (.aload_n 0, 1) := by decide +kernel
theorem i_M_dealTold_99 : decode (mb 228) 99 = .ok (.getfield 73, 3) := by decide +kernel
theorem i_M_dealTold_102 : decode (mb 228) 102 = .ok (.iconst 1, 1) := by decide +kernel
theorem i_M_dealTold_103 : decode (mb 228) 103 = .ok (.isub, 1) := by decide +kernel
theorem i_M_dealTold_104 : decode (mb 228) 104 = .ok (.invokevirtual 184, 3) := by decide +kernel
theorem i_M_dealTold_107 : decode (mb 228) 107 = .ok (.ifCond .eq 14, 3) := by decide +kernel
theorem i_M_dealTold_110 : decode (mb 228) 110 = .ok (.aload_n 0, 1) := by decide +kernel
theorem i_M_dealTold_111 : decode (mb 228) 111 = .ok (.iconst 1, 1) := by decide +kernel
theorem i_M_dealTold_112 : decode (mb 228) 112 = .ok (.iconst 0, 1) := by decide +kernel
theorem i_M_dealTold_113 : decode (mb 228) 113 = .ok (.bipush 99, 2) := by decide +kernel
theorem i_M_dealTold_115 : decode (mb 228) 115 = .ok (.invokevirtual 178, 3) := by decide +kernel
theorem i_M_dealTold_118 : decode (mb 228) 118 = .ok (.ifCond .ne 5, 3) := by decide +kernel
theorem i_M_dealTold_121 : decode (mb 228) 121 = .ok (.iconst 0, 1) := by decide +kernel
theorem i_M_dealTold_122 : decode (mb 228) 122 = .ok (.ireturn, 1) := by decide +kernel
theorem i_M_dealTold_123 : decode (mb 228) 123 = .ok (.aload_n 0, 1) := by decide +kernel
theorem i_M_dealTold_124 : decode (mb 228) 124 = .ok (.getfield 51, 3) := by decide +kernel
theorem i_M_dealTold_127 : decode (mb 228) 127 = .ok (.iload_n 1, 1) := by decide +kernel
theorem i_M_dealTold_128 : decode (mb 228) 128 = .ok (.aaload, 1) := by decide +kernel
theorem i_M_dealTold_129 : decode (mb 228) 129 = .ok (.aload_n 0, 1) := by decide +kernel
theorem i_M_dealTold_130 : decode (mb 228) 130 = .ok (.getfield 61, 3) := by decide +kernel
theorem i_M_dealTold_133 : decode (mb 228) 133 = .ok (.iconst 0, 1) := by decide +kernel
theorem i_M_dealTold_134 : decode (mb 228) 134 = .ok (.iaload, 1) := by decide +kernel
theorem i_M_dealTold_135 : decode (mb 228) 135 = .ok (.aload_n 0, 1) := by decide +kernel
theorem i_M_dealTold_136 : decode (mb 228) 136 = .ok (.getfield 61, 3) := by decide +kernel
theorem i_M_dealTold_139 : decode (mb 228) 139 = .ok (.iconst 1, 1) := by decide +kernel
theorem i_M_dealTold_140 : decode (mb 228) 140 = .ok (.iaload, 1) := by decide +kernel
theorem i_M_dealTold_141 : decode (mb 228) 141 = .ok (.iastore, 1) := by decide +kernel
theorem i_M_dealTold_142 : decode (mb 228) 142 = .ok (.goto (-58), 3) := by decide +kernel
theorem i_M_dealTold_145 : decode (mb 228) 145 = .ok (.iconst 1, 1) := by decide +kernel
theorem i_M_dealTold_146 : decode (mb 228) 146 = .ok (.ireturn, 1) := by decide +kernel
theorem o_M_tells : (mn 229).cls = "NeedsALoserModel" := by decide +kernel
theorem l_M_tells : ml 229 = 5 := by decide +kernel
theorem t_M_tells : mr 229 = some (FieldType.boolean) := by decide +kernel
theorem i_M_tells_0 : decode (mb 229) 0 = .ok (.aload_n 0, 1) := by decide +kernel
theorem i_M_tells_1 : decode (mb 229) 1 = .ok (.aload_n 1, 1) := by decide +kernel
theorem i_M_tells_2 : decode (mb 229) 2 = .ok (.invokevirtual 174, 3) := by decide +kernel
theorem i_M_tells_5 : decode (mb 229) 5 = .ok (.ifCond .ne 8, 3) := by decide +kernel
theorem i_M_tells_8 : decode (mb 229) 8 = .ok (.aload_n 0, 1) := by decide +kernel
theorem i_M_tells_9 : decode (mb 229) 9 = .ok (.invokevirtual 167, 3) := by decide +kernel
theorem i_M_tells_12 : decode (mb 229) 12 = .ok (.ireturn, 1) := by decide +kernel
theorem i_M_tells_13 : decode (mb 229) 13 = .ok (.aload_n 0, 1) := by decide +kernel
theorem i_M_tells_14 : decode (mb 229) 14 = .ok (.invokevirtual 171, 3) := by decide +kernel
theorem i_M_tells_17 : decode (mb 229) 17 = .ok (.aload_n 0, 1) := by decide +kernel
theorem i_M_tells_18 : decode (mb 229) 18 = .ok (.iload_n 2, 1) := by decide +kernel
theorem i_M_tells_19 : decode (mb 229) 19 = .ok (.iload_n 3, 1) := by decide +kernel
theorem i_M_tells_20 : decode (mb 229) 20 = .ok (.iload 4, 2) := by decide +kernel
theorem i_M_tells_22 : decode (mb 229) 22 = .ok (.invokevirtual 178, 3) := by decide +kernel
theorem i_M_tells_25 : decode (mb 229) 25 = .ok (.ireturn, 1) := by decide +kernel
theorem o_M_wrong : (mn 230).cls = "NeedsALoserModel" := by decide +kernel
theorem l_M_wrong : ml 230 = 1 := by decide +kernel
theorem t_M_wrong : mr 230 = some (FieldType.boolean) := by decide +kernel
theorem i_M_wrong_0 : decode (mb 230) 0 = .ok (.aload_n 0, 1) := by decide +kernel
theorem i_M_wrong_1 : decode (mb 230) 1 = .ok (.aload_n 0, 1) := by decide +kernel
theorem i_M_wrong_2 : decode (mb 230) 2 = .ok (.getfield 138, 3) := by decide +kernel
theorem i_M_wrong_5 : decode (mb 230) 5 = .ok (.putfield 154, 3) := by decide +kernel
theorem i_M_wrong_8 : decode (mb 230) 8 = .ok (.iconst 0, 1) := by decide +kernel
theorem i_M_wrong_9 : decode (mb 230) 9 = .ok (.ireturn, 1) := by decide +kernel
theorem o_M_number : (mn 231).cls = "NeedsALoserModel" := by decide +kernel
theorem l_M_number : ml 231 = 4 := by decide +kernel
theorem t_M_number : mr 231 = some (FieldType.boolean) := by decide +kernel
theorem i_M_number_0 : decode (mb 231) 0 = .ok (.aload_n 0, 1) := by decide +kernel
theorem i_M_number_1 : decode (mb 231) 1 = .ok (.getfield 144, 3) := by decide +kernel
theorem i_M_number_4 : decode (mb 231) 4 = .ok (.iconst 2, 1) := by decide +kernel
theorem i_M_number_5 : decode (mb 231) 5 = .ok (.if_icmp .ne 18, 3) := by decide +kernel
theorem i_M_number_8 : decode (mb 231) 8 = .ok (.aload_n 0, 1) := by decide +kernel
theorem i_M_number_9 : decode (mb 231) 9 = .ok (.getfield 141, 3) := by decide +kernel
theorem i_M_number_12 : decode (mb 231) 12 = .ok (.i2l, 1) := by decide +kernel
theorem i_M_number_13 : decode (mb 231) 13 = .ok (.iload_n 2, 1) := by decide +kernel
theorem i_M_number_14 : decode (mb 231) 14 = .ok (.i2l, 1) := by decide +kernel
theorem i_M_number_15 : decode (mb 231) 15 = .ok (.iload_n 3, 1) := by decide +kernel
theorem i_M_number_16 : decode (mb 231) 16 = .ok (.i2l, 1) := by decide +kernel
theorem i_M_number_17 : decode (mb 231) 17 = .ok (.invokestatic 76, 3) := by decide +kernel
theorem i_M_number_20 : decode (mb 231) 20 = .ok (.ifCond .ne 8, 3) := by decide +kernel
theorem i_M_number_23 : decode (mb 231) 23 = .ok (.aload_n 0, 1) := by decide +kernel
theorem i_M_number_24 : decode (mb 231) 24 = .ok (.invokevirtual 167, 3) := by decide +kernel
theorem i_M_number_27 : decode (mb 231) 27 = .ok (.ireturn, 1) := by decide +kernel
theorem i_M_number_28 : decode (mb 231) 28 = .ok (.aload_n 0, 1) := by decide +kernel
theorem i_M_number_29 : decode (mb 231) 29 = .ok (.getfield 61, 3) := by decide +kernel
theorem i_M_number_32 : decode (mb 231) 32 = .ok (.iload_n 1, 1) := by decide +kernel
theorem i_M_number_33 : decode (mb 231) 33 = .ok (.aload_n 0, 1) := by decide +kernel
theorem i_M_number_34 : decode (mb 231) 34 = .ok (.getfield 141, 3) := by decide +kernel
theorem i_M_number_37 : decode (mb 231) 37 = .ok (.iastore, 1) := by decide +kernel
theorem i_M_number_38 : decode (mb 231) 38 = .ok (.aload_n 0, 1) := by decide +kernel
theorem i_M_number_39 : decode (mb 231) 39 = .ok (.invokevirtual 171, 3) := by decide +kernel
theorem i_M_number_42 : decode (mb 231) 42 = .ok (.iconst 1, 1) := by decide +kernel
theorem i_M_number_43 : decode (mb 231) 43 = .ok (.ireturn, 1) := by decide +kernel
theorem o_M_unlike : (mn 232).cls = "NeedsALoserModel" := by decide +kernel
theorem l_M_unlike : ml 232 = 3 := by decide +kernel
theorem t_M_unlike : mr 232 = some (FieldType.boolean) := by decide +kernel
theorem i_M_unlike_0 : decode (mb 232) 0 = .ok (.aload_n 0, 1) := by decide +kernel
theorem i_M_unlike_1 : decode (mb 232) 1 = .ok (.getfield 144, 3) := by decide +kernel
theorem i_M_unlike_4 : decode (mb 232) 4 = .ok (.iconst 2, 1) := by decide +kernel
theorem i_M_unlike_5 : decode (mb 232) 5 = .ok (.if_icmp .ne 23, 3) := by decide +kernel
theorem i_M_unlike_8 : decode (mb 232) 8 = .ok (.aload_n 0, 1) := by decide +kernel
theorem i_M_unlike_9 : decode (mb 232) 9 = .ok (.getfield 141, 3) := by decide +kernel
theorem i_M_unlike_12 : decode (mb 232) 12 = .ok (.aload_n 0, 1) := by decide +kernel
theorem i_M_unlike_13 : decode (mb 232) 13 = .ok (.getfield 61, 3) := by decide +kernel
theorem i_M_unlike_16 : decode (mb 232) 16 = .ok (.iload_n 1, 1) := by decide +kernel
theorem i_M_unlike_17 : decode (mb 232) 17 = .ok (.iconst 1, 1) := by decide +kernel
theorem i_M_unlike_18 : decode (mb 232) 18 = .ok (.isub, 1) := by decide +kernel
theorem i_M_unlike_19 : decode (mb 232) 19 = .ok (.iaload, 1) := by decide +kernel
theorem i_M_unlike_20 : decode (mb 232) 20 = .ok (.if_icmp .ne 8, 3) := by decide +kernel
theorem i_M_unlike_23 : decode (mb 232) 23 = .ok (.aload_n 0, 1) := by decide +kernel
theorem i_M_unlike_24 : decode (mb 232) 24 = .ok (.invokevirtual 167, 3) := by decide +kernel
theorem i_M_unlike_27 : decode (mb 232) 27 = .ok (.ireturn, 1) := by decide +kernel
theorem i_M_unlike_28 : decode (mb 232) 28 = .ok (.aload_n 0, 1) := by decide +kernel
theorem i_M_unlike_29 : decode (mb 232) 29 = .ok (.iload_n 1, 1) := by decide +kernel
theorem i_M_unlike_30 : decode (mb 232) 30 = .ok (.iconst 0, 1) := by decide +kernel
theorem i_M_unlike_31 : decode (mb 232) 31 = .ok (.iload_n 2, 1) := by decide +kernel
theorem i_M_unlike_32 : decode (mb 232) 32 = .ok (.invokevirtual 178, 3) := by decide +kernel
theorem i_M_unlike_35 : decode (mb 232) 35 = .ok (.ireturn, 1) := by decide +kernel
theorem o_M_askedTold : (mn 233).cls = "NeedsALoserModel" := by decide +kernel
theorem l_M_askedTold : ml 233 = 4 := by decide +kernel
theorem t_M_askedTold : mr 233 = some (FieldType.boolean) := by decide +kernel
theorem i_M_askedTold_0 : decode (mb 233) 0 = .ok (.aload_n 0, 1) := by decide +kernel
theorem i_M_askedTold_1 : decode (mb 233) 1 = .ok (.aload_n 1, 1) := by decide +kernel
theorem i_M_askedTold_2 : decode (mb 233) 2 = .ok (.iconst 0, 1) := by decide +kernel
theorem i_M_askedTold_3 : decode (mb 233) 3 = .ok (.iload_n 2, 1) := by decide +kernel
theorem i_M_askedTold_4 : decode (mb 233) 4 = .ok (.ifCond .ne 7, 3) := by decide +kernel
theorem i_M_askedTold_7 : decode (mb 233) 7 = .ok (.iconst 1, 1) := by decide +kernel
theorem i_M_askedTold_8 : decode (mb 233) 8 = .ok (.goto 4, 3) := by decide +kernel
theorem i_M_askedTold_11 : decode (mb 233) 11 = .ok (.iconst 0, 1) := by decide +kernel
theorem i_M_askedTold_12 : decode (mb 233) 12 = .ok (.iload_n 2, 1) := by decide +kernel
theorem i_M_askedTold_13 : decode (mb 233) 13 = .ok (.invokestatic 127, 3) := by decide +kernel
theorem i_M_askedTold_16 : decode (mb 233) 16 = .ok (.invokevirtual 184, 3) := by decide +kernel
theorem i_M_askedTold_19 : decode (mb 233) 19 = .ok (.istore_n 3, 1) := by decide +kernel
theorem i_M_askedTold_20 : decode (mb 233) 20 = .ok (.aload_n 0, 1) := by decide +kernel
theorem i_M_askedTold_21 : decode (mb 233) 21 = .ok (.getfield 54, 3) := by decide +kernel
theorem i_M_askedTold_24 : decode (mb 233) 24 = .ok (.iload_n 2, 1) := by decide +kernel
theorem i_M_askedTold_25 : decode (mb 233) 25 = .ok (.iload_n 3, 1) := by decide +kernel
theorem i_M_askedTold_26 : decode (mb 233) 26 = .ok (.ifCond .eq 12, 3) := by decide +kernel
theorem i_M_askedTold_29 : decode (mb 233) 29 = .ok (.aload_n 0, 1) := by decide +kernel
theorem i_M_askedTold_30 : decode (mb 233) 30 = .ok (.getfield 61, 3) := by decide +kernel
theorem i_M_askedTold_33 : decode (mb 233) 33 = .ok (.iconst 0, 1) := by decide +kernel
theorem i_M_askedTold_34 : decode (mb 233) 34 = .ok (.iaload, 1) := by decide +kernel
theorem i_M_askedTold_35 : decode (mb 233) 35 = .ok (.goto 9, 3) := by decide +kernel
theorem i_M_askedTold_38 : decode (mb 233) 38 = .ok (.aload_n 0, 1) := by decide +kernel
theorem i_M_askedTold_39 : decode (mb 233) 39 = .ok (.getfield 54, 3) := by decide +kernel
theorem i_M_askedTold_42 : decode (mb 233) 42 = .ok (.iload_n 2, 1) := by decide +kernel
theorem i_M_askedTold_43 : decode (mb 233) 43 = .ok (.iaload, 1) := by decide +kernel
theorem i_M_askedTold_44 : decode (mb 233) 44 = .ok (.iastore, 1) := by decide +kernel
theorem i_M_askedTold_45 : decode (mb 233) 45 = .ok (.iload_n 3, 1) := by decide +kernel
theorem i_M_askedTold_46 : decode (mb 233) 46 = .ok (.ireturn, 1) := by decide +kernel
theorem o_M_bargainOf : (mn 234).cls = "NeedsALoserModel" := by decide +kernel
theorem l_M_bargainOf : ml 234 = 3 := by decide +kernel
theorem t_M_bargainOf : mr 234 = some (FieldType.int) := by decide +kernel
theorem i_M_bargainOf_0 : decode (mb 234) 0 = .ok (.aload_n 0, 1) := by decide +kernel
theorem i_M_bargainOf_1 : decode (mb 234) 1 = .ok (.iload_n 1, 1) := by decide +kernel
theorem i_M_bargainOf_2 : decode (mb 234) 2 = .ok (.invokevirtual 116, 3) := by decide +kernel
theorem i_M_bargainOf_5 : decode (mb 234) 5 = .ok (.ifCond .eq 26, 3) := by decide +kernel
theorem i_M_bargainOf_8 : decode (mb 234) 8 = .ok (.iload_n 2, 1) := by decide +kernel
theorem i_M_bargainOf_9 : decode (mb 234) 9 = .ok (.i2l, 1) := by decide +kernel
theorem i_M_bargainOf_10 : decode (mb 234) 10 = .ok (.lconst 0, 1) := by decide +kernel
theorem i_M_bargainOf_11 : decode (mb 234) 11 = .ok (.ldc2_w 85, 3) := by decide +kernel
theorem i_M_bargainOf_14 : decode (mb 234) 14 = .ok (.invokestatic 76, 3) := by decide +kernel
theorem i_M_bargainOf_17 : decode (mb 234) 17 = .ok (.ifCond .eq 14, 3) := by decide +kernel
theorem i_M_bargainOf_20 : decode (mb 234) 20 = .ok (.aload_n 0, 1) := by decide +kernel
theorem i_M_bargainOf_21 : decode (mb 234) 21 = .ok (.getfield 48, 3) := by decide +kernel
theorem i_M_bargainOf_24 : decode (mb 234) 24 = .ok (.iload_n 1, 1) := by decide +kernel
theorem i_M_bargainOf_25 : decode (mb 234) 25 = .ok (.aaload, 1) := by decide +kernel
theorem i_M_bargainOf_26 : decode (mb 234) 26 = .ok (.iload_n 2, 1) := by decide +kernel
theorem i_M_bargainOf_27 : decode (mb 234) 27 = .ok (.iaload, 1) := by decide +kernel
theorem i_M_bargainOf_28 : decode (mb 234) 28 = .ok (.goto 9, 3) := by decide +kernel
theorem i_M_bargainOf_31 : decode (mb 234) 31 = .ok (.aload_n 0, 1) := by decide +kernel
theorem i_M_bargainOf_32 : decode (mb 234) 32 = .ok (.bipush (-2), 2) := by decide +kernel
theorem i_M_bargainOf_34 : decode (mb 234) 34 = .ok (.invokevirtual 89, 3) := by decide +kernel
theorem i_M_bargainOf_37 : decode (mb 234) 37 = .ok (.ireturn, 1) := by decide +kernel
theorem o_M_lossOf : (mn 235).cls = "NeedsALoserModel" := by decide +kernel
theorem l_M_lossOf : ml 235 = 3 := by decide +kernel
theorem t_M_lossOf : mr 235 = some (FieldType.int) := by decide +kernel
theorem i_M_lossOf_0 : decode (mb 235) 0 = .ok (.aload_n 0, 1) := by decide +kernel
theorem i_M_lossOf_1 : decode (mb 235) 1 = .ok (.iload_n 1, 1) := by decide +kernel
theorem i_M_lossOf_2 : decode (mb 235) 2 = .ok (.invokevirtual 116, 3) := by decide +kernel
theorem i_M_lossOf_5 : decode (mb 235) 5 = .ok (.ifCond .eq 23, 3) := by decide +kernel
theorem i_M_lossOf_8 : decode (mb 235) 8 = .ok (.aload_n 0, 1) := by decide +kernel
theorem i_M_lossOf_9 : decode (mb 235) 9 = .ok (.iload_n 2, 1) := by decide +kernel
theorem i_M_lossOf_10 : decode (mb 235) 10 = .ok (.i2l, 1) := by decide +kernel
theorem i_M_lossOf_11 : decode (mb 235) 11 = .ok (.invokevirtual 112, 3) := by decide +kernel
theorem i_M_lossOf_14 : decode (mb 235) 14 = .ok (.ifCond .eq 14, 3) := by decide +kernel
theorem i_M_lossOf_17 : decode (mb 235) 17 = .ok (.aload_n 0, 1) := by decide +kernel
theorem i_M_lossOf_18 : decode (mb 235) 18 = .ok (.getfield 51, 3) := by decide +kernel
theorem i_M_lossOf_21 : decode (mb 235) 21 = .ok (.iload_n 1, 1) := by decide +kernel
theorem i_M_lossOf_22 : decode (mb 235) 22 = .ok (.aaload, 1) := by decide +kernel
theorem i_M_lossOf_23 : decode (mb 235) 23 = .ok (.iload_n 2, 1) := by decide +kernel
theorem i_M_lossOf_24 : decode (mb 235) 24 = .ok (.iaload, 1) := by decide +kernel
theorem i_M_lossOf_25 : decode (mb 235) 25 = .ok (.goto 12, 3) := by decide +kernel
theorem i_M_lossOf_28 : decode (mb 235) 28 = .ok (.ldc 239, 2) := by decide +kernel
theorem i_M_lossOf_30 : decode (mb 235) 30 = .ok (.aload_n 0, 1) := by decide +kernel
theorem i_M_lossOf_31 : decode (mb 235) 31 = .ok (.bipush (-2), 2) := by decide +kernel
theorem i_M_lossOf_33 : decode (mb 235) 33 = .ok (.invokevirtual 89, 3) := by decide +kernel
theorem i_M_lossOf_36 : decode (mb 235) 36 = .ok (.iadd, 1) := by decide +kernel
theorem i_M_lossOf_37 : decode (mb 235) 37 = .ok (.ireturn, 1) := by decide +kernel
theorem o_M_standing : (mn 236).cls = "NeedsALoserModel" := by decide +kernel
theorem l_M_standing : ml 236 = 2 := by decide +kernel
theorem t_M_standing : mr 236 = some (FieldType.int) := by decide +kernel
theorem i_M_standing_0 : decode (mb 236) 0 = .ok (.aload_n 0, 1) := by decide +kernel
theorem i_M_standing_1 : decode (mb 236) 1 = .ok (.iload_n 1, 1) := by decide +kernel
theorem i_M_standing_2 : decode (mb 236) 2 = .ok (.i2l, 1) := by decide +kernel
theorem i_M_standing_3 : decode (mb 236) 3 = .ok (.invokevirtual 112, 3) := by decide +kernel
theorem i_M_standing_6 : decode (mb 236) 6 = .ok (.ifCond .eq 12, 3) := by decide +kernel
theorem i_M_standing_9 : decode (mb 236) 9 = .ok (.aload_n 0, 1) := by decide +kernel
theorem i_M_standing_10 : decode (mb 236) 10 = .ok (.getfield 40, 3) := by decide +kernel
theorem i_M_standing_13 : decode (mb 236) 13 = .ok (.iload_n 1, 1) := by decide +kernel
theorem i_M_standing_14 : decode (mb 236) 14 = .ok (.iaload, 1) := by decide +kernel
theorem i_M_standing_15 : decode (mb 236) 15 = .ok (.goto 12, 3) := by decide +kernel
theorem i_M_standing_18 : decode (mb 236) 18 = .ok (.ldc 239, 2) := by decide +kernel
theorem i_M_standing_20 : decode (mb 236) 20 = .ok (.aload_n 0, 1) := by decide +kernel
theorem i_M_standing_21 : decode (mb 236) 21 = .ok (.bipush (-2), 2) := by decide +kernel
theorem i_M_standing_23 : decode (mb 236) 23 = .ok (.invokevirtual 89, 3) := by decide +kernel
theorem i_M_standing_26 : decode (mb 236) 26 = .ok (.iadd, 1) := by decide +kernel
theorem i_M_standing_27 : decode (mb 236) 27 = .ok (.ireturn, 1) := by decide +kernel
theorem o_M_good : (mn 237).cls = "NeedsALoserModel" := by decide +kernel
theorem l_M_good : ml 237 = 2 := by decide +kernel
theorem t_M_good : mr 237 = some (FieldType.int) := by decide +kernel
theorem i_M_good_0 : decode (mb 237) 0 = .ok (.aload_n 0, 1) := by decide +kernel
theorem i_M_good_1 : decode (mb 237) 1 = .ok (.iload_n 1, 1) := by decide +kernel
theorem i_M_good_2 : decode (mb 237) 2 = .ok (.invokevirtual 116, 3) := by decide +kernel
theorem i_M_good_5 : decode (mb 237) 5 = .ok (.ifCond .eq 11, 3) := by decide +kernel
theorem i_M_good_8 : decode (mb 237) 8 = .ok (.aload_n 0, 1) := by decide +kernel
theorem i_M_good_9 : decode (mb 237) 9 = .ok (.iload_n 1, 1) := by decide +kernel
theorem i_M_good_10 : decode (mb 237) 10 = .ok (.invokevirtual 248, 3) := by decide +kernel
theorem i_M_good_13 : decode (mb 237) 13 = .ok (.goto 9, 3) := by decide +kernel
theorem i_M_good_16 : decode (mb 237) 16 = .ok (.aload_n 0, 1) := by decide +kernel
theorem i_M_good_17 : decode (mb 237) 17 = .ok (.bipush (-2), 2) := by decide +kernel
theorem i_M_good_19 : decode (mb 237) 19 = .ok (.invokevirtual 89, 3) := by decide +kernel
theorem i_M_good_22 : decode (mb 237) 22 = .ok (.ireturn, 1) := by decide +kernel
theorem o_M_goodBy : (mn 238).cls = "NeedsALoserModel" := by decide +kernel
theorem l_M_goodBy : ml 238 = 4 := by decide +kernel
theorem t_M_goodBy : mr 238 = some (FieldType.int) := by decide +kernel
theorem i_M_goodBy_0 : decode (mb 238) 0 = .ok (.iconst 0, 1) := by decide +kernel
theorem i_M_goodBy_1 : decode (mb 238) 1 = .ok (.istore_n 2, 1) := by decide +kernel
theorem i_M_goodBy_2 : decode (mb 238) 2 = .ok (.iconst 0, 1) := by decide +kernel
theorem i_M_goodBy_3 : decode (mb 238) 3 = .ok (.istore_n 3, 1) := by decide +kernel
theorem i_M_goodBy_4 : decode (mb 238) 4 = .ok (.iload_n 3, 1) := by decide +kernel
theorem i_M_goodBy_5 : decode (mb 238) 5 = .ok (.aload_n 0, 1) := by decide +kernel
theorem i_M_goodBy_6 : decode (mb 238) 6 = .ok (.getfield 73, 3) := by decide +kernel
theorem i_M_goodBy_9 : decode (mb 238) 9 = .ok (.if_icmp .ge 28, 3) := by decide +kernel
theorem i_M_goodBy_12 : decode (mb 238) 12 = .ok (.iload_n 2, 1) := by decide +kernel
theorem i_M_goodBy_13 : decode (mb 238) 13 = .ok (.aload_n 0, 1) := by decide +kernel
theorem i_M_goodBy_14 : decode (mb 238) 14 = .ok (.iload_n 1, 1) := by decide +kernel
theorem i_M_goodBy_15 : decode (mb 238) 15 = .ok (.iload_n 3, 1) := by decide +kernel
theorem i_M_goodBy_16 : decode (mb 238) 16 = .ok (.invokevirtual 243, 3) := by decide +kernel
theorem i_M_goodBy_19 : decode (mb 238) 19 = .ok (.ifCond .eq 9, 3) := by decide +kernel
theorem i_M_goodBy_22 : decode (mb 238) 22 = .ok (.iconst 1, 1) := by decide +kernel
theorem i_M_goodBy_23 : decode (mb 238) 23 = .ok (.iload_n 3, 1) := by decide +kernel
theorem i_M_goodBy_24 : decode (mb 238) 24 = .ok (.ishl, 1) := by decide +kernel
theorem i_M_goodBy_25 : decode (mb 238) 25 = .ok (.goto 4, 3) := by decide +kernel
theorem i_M_goodBy_28 : decode (mb 238) 28 = .ok (.iconst 0, 1) := by decide +kernel
theorem i_M_goodBy_29 : decode (mb 238) 29 = .ok (.ior, 1) := by decide +kernel
theorem i_M_goodBy_30 : decode (mb 238) 30 = .ok (.istore_n 2, 1) := by decide +kernel
theorem i_M_goodBy_31 : decode (mb 238) 31 = .ok (.iinc 3 1, 3) := by decide +kernel
theorem i_M_goodBy_34 : decode (mb 238) 34 = .ok (.goto (-30), 3) := by decide +kernel
theorem i_M_goodBy_37 : decode (mb 238) 37 = .ok (.iload_n 2, 1) := by decide +kernel
theorem i_M_goodBy_38 : decode (mb 238) 38 = .ok (.ireturn, 1) := by decide +kernel
theorem o_M_value : (mn 239).cls = "NeedsALoserModel" := by decide +kernel
theorem l_M_value : ml 239 = 3 := by decide +kernel
theorem t_M_value : mr 239 = some (FieldType.int) := by decide +kernel
theorem i_M_value_0 : decode (mb 239) 0 = .ok (.aload_n 0, 1) := by decide +kernel
theorem i_M_value_1 : decode (mb 239) 1 = .ok (.iload_n 1, 1) := by decide +kernel
theorem i_M_value_2 : decode (mb 239) 2 = .ok (.invokevirtual 116, 3) := by decide +kernel
theorem i_M_value_5 : decode (mb 239) 5 = .ok (.ifCond .eq 12, 3) := by decide +kernel
theorem i_M_value_8 : decode (mb 239) 8 = .ok (.aload_n 0, 1) := by decide +kernel
theorem i_M_value_9 : decode (mb 239) 9 = .ok (.iload_n 2, 1) := by decide +kernel
theorem i_M_value_10 : decode (mb 239) 10 = .ok (.i2l, 1) := by decide +kernel
theorem i_M_value_11 : decode (mb 239) 11 = .ok (.invokevirtual 112, 3) := by decide +kernel
theorem i_M_value_14 : decode (mb 239) 14 = .ok (.ifCond .ne 13, 3) := by decide +kernel
theorem i_M_value_17 : decode (mb 239) 17 = .ok (.ldc 239, 2) := by decide +kernel
theorem i_M_value_19 : decode (mb 239) 19 = .ok (.aload_n 0, 1) := by decide +kernel
theorem i_M_value_20 : decode (mb 239) 20 = .ok (.bipush (-2), 2) := by decide +kernel
theorem i_M_value_22 : decode (mb 239) 22 = .ok (.invokevirtual 89, 3) := by decide +kernel
theorem i_M_value_25 : decode (mb 239) 25 = .ok (.iadd, 1) := by decide +kernel
theorem i_M_value_26 : decode (mb 239) 26 = .ok (.ireturn, 1) := by decide +kernel
theorem i_M_value_27 : decode (mb 239) 27 = .ok (.aload_n 0, 1) := by decide +kernel
theorem i_M_value_28 : decode (mb 239) 28 = .ok (.iload_n 1, 1) := by decide +kernel
theorem i_M_value_29 : decode (mb 239) 29 = .ok (.iload_n 2, 1) := by decide +kernel
theorem i_M_value_30 : decode (mb 239) 30 = .ok (.invokevirtual 243, 3) := by decide +kernel
theorem i_M_value_33 : decode (mb 239) 33 = .ok (.ifCond .eq 12, 3) := by decide +kernel
theorem i_M_value_36 : decode (mb 239) 36 = .ok (.aload_n 0, 1) := by decide +kernel
theorem i_M_value_37 : decode (mb 239) 37 = .ok (.iload_n 1, 1) := by decide +kernel
theorem i_M_value_38 : decode (mb 239) 38 = .ok (.iload_n 2, 1) := by decide +kernel
theorem i_M_value_39 : decode (mb 239) 39 = .ok (.invokevirtual 251, 3) := by decide +kernel
theorem i_M_value_42 : decode (mb 239) 42 = .ok (.goto 12, 3) := by decide +kernel
theorem i_M_value_45 : decode (mb 239) 45 = .ok (.ldc 239, 2) := by decide +kernel
theorem i_M_value_47 : decode (mb 239) 47 = .ok (.aload_n 0, 1) := by decide +kernel
theorem i_M_value_48 : decode (mb 239) 48 = .ok (.bipush (-5), 2) := by decide +kernel
theorem i_M_value_50 : decode (mb 239) 50 = .ok (.invokevirtual 89, 3) := by decide +kernel
theorem i_M_value_53 : decode (mb 239) 53 = .ok (.iadd, 1) := by decide +kernel
theorem i_M_value_54 : decode (mb 239) 54 = .ok (.ireturn, 1) := by decide +kernel
theorem o_M_name : (mn 240).cls = "NeedsALoserModel" := by decide +kernel
theorem l_M_name : ml 240 = 5 := by decide +kernel
theorem t_M_name : mr 240 = some (FieldType.int) := by decide +kernel
theorem i_M_name_0 : decode (mb 240) 0 = .ok (.iload_n 1, 1) := by decide +kernel
theorem i_M_name_1 : decode (mb 240) 1 = .ok (.i2l, 1) := by decide +kernel
theorem i_M_name_2 : decode (mb 240) 2 = .ok (.lconst 0, 1) := by decide +kernel
theorem i_M_name_3 : decode (mb 240) 3 = .ok (.ldc2_w 83, 3) := by decide +kernel
theorem i_M_name_6 : decode (mb 240) 6 = .ok (.invokestatic 76, 3) := by decide +kernel
theorem i_M_name_9 : decode (mb 240) 9 = .ok (.ifCond .eq 29, 3) := by decide +kernel
theorem i_M_name_12 : decode (mb 240) 12 = .ok (.aload_n 0, 1) := by decide +kernel
theorem i_M_name_13 : decode (mb 240) 13 = .ok (.iload_n 2, 1) := by decide +kernel
theorem i_M_name_14 : decode (mb 240) 14 = .ok (.invokevirtual 116, 3) := by decide +kernel
theorem i_M_name_17 : decode (mb 240) 17 = .ok (.ifCond .eq 21, 3) := by decide +kernel
theorem i_M_name_20 : decode (mb 240) 20 = .ok (.iload_n 3, 1) := by decide +kernel
theorem i_M_name_21 : decode (mb 240) 21 = .ok (.i2l, 1) := by decide +kernel
theorem i_M_name_22 : decode (mb 240) 22 = .ok (.lconst 0, 1) := by decide +kernel
theorem i_M_name_23 : decode (mb 240) 23 = .ok (.iconst 1, 1) := by decide +kernel
theorem i_M_name_24 : decode (mb 240) 24 = .ok (.aload_n 0, 1) := by decide +kernel
theorem i_M_name_25 : decode (mb 240) 25 = .ok (.getfield 73, 3) := by decide +kernel
theorem i_M_name_28 : decode (mb 240) 28 = .ok (.ishl, 1) := by decide +kernel
theorem i_M_name_29 : decode (mb 240) 29 = .ok (.iconst 1, 1) := by decide +kernel
theorem i_M_name_30 : decode (mb 240) 30 = .ok (.isub, 1) := by decide +kernel
theorem i_M_name_31 : decode (mb 240) 31 = .ok (.i2l, 1) := by decide +kernel
theorem i_M_name_32 : decode (mb 240) 32 = .ok (.invokestatic 76, 3) := by decide +kernel
theorem i_M_name_35 : decode (mb 240) 35 = .ok (.ifCond .ne 10, 3) := by decide +kernel
theorem i_M_name_38 : decode (mb 240) 38 = .ok (.aload_n 0, 1) := by decide +kernel
theorem i_M_name_39 : decode (mb 240) 39 = .ok (.bipush (-2), 2) := by decide +kernel
theorem i_M_name_41 : decode (mb 240) 41 = .ok (.invokevirtual 89, 3) := by decide +kernel
theorem i_M_name_44 : decode (mb 240) 44 = .ok (.ireturn, 1) := by decide +kernel
theorem i_M_name_45 : decode (mb 240) 45 = .ok (.aload_n 0, 1) := by decide +kernel
theorem i_M_name_46 : decode (mb 240) 46 = .ok (.iload_n 1, 1) := by decide +kernel
theorem i_M_name_47 : decode (mb 240) 47 = .ok (.invokevirtual 261, 3) := by decide +kernel
theorem i_M_name_50 : decode (mb 240) 50 = .ok (.istore 4, 2) := by decide +kernel
theorem i_M_name_52 : decode (mb 240) 52 = .ok (.iload 4, 2) := by decide +kernel
theorem i_M_name_54 : decode (mb 240) 54 = .ok (.ifCond .eq 8, 3) := by decide +kernel
theorem i_M_name_57 : decode (mb 240) 57 = .ok (.iload 4, 2) := by decide +kernel
theorem i_M_name_59 : decode (mb 240) 59 = .ok (.goto 21, 3) := by decide +kernel
theorem i_M_name_62 : decode (mb 240) 62 = .ok (.aload_n 0, 1) := by decide +kernel
theorem i_M_name_63 : decode (mb 240) 63 = .ok (.aload_n 0, 1) := by decide +kernel
theorem i_M_name_64 : decode (mb 240) 64 = .ok (.getfield 28, 3) := by decide +kernel
theorem i_M_name_67 : decode (mb 240) 67 = .ok (.iload_n 1, 1) := by decide +kernel
theorem i_M_name_68 : decode (mb 240) 68 = .ok (.iaload, 1) := by decide +kernel
theorem i_M_name_69 : decode (mb 240) 69 = .ok (.aload_n 0, 1) := by decide +kernel
theorem i_M_name_70 : decode (mb 240) 70 = .ok (.getfield 31, 3) := by decide +kernel
theorem i_M_name_73 : decode (mb 240) 73 = .ok (.iload_n 1, 1) := by decide +kernel
theorem i_M_name_74 : decode (mb 240) 74 = .ok (.iaload, 1) := by decide +kernel
theorem i_M_name_75 : decode (mb 240) 75 = .ok (.iload_n 2, 1) := by decide +kernel
theorem i_M_name_76 : decode (mb 240) 76 = .ok (.iload_n 3, 1) := by decide +kernel
theorem i_M_name_77 : decode (mb 240) 77 = .ok (.invokevirtual 108, 3) := by decide +kernel
theorem i_M_name_80 : decode (mb 240) 80 = .ok (.ireturn, 1) := by decide +kernel
theorem o_M_noRule : (mn 241).cls = "NeedsALoserModel" := by decide +kernel
theorem l_M_noRule : ml 241 = 2 := by decide +kernel
theorem t_M_noRule : mr 241 = some (FieldType.int) := by decide +kernel
theorem i_M_noRule_0 : decode (mb 241) 0 = .ok (.iload_n 1, 1) := by decide +kernel
theorem i_M_noRule_1 : decode (mb 241) 1 = .ok (.i2l, 1) := by decide +kernel
theorem i_M_noRule_2 : decode (mb 241) 2 = .ok (.lconst 0, 1) := by decide +kernel
theorem i_M_noRule_3 : decode (mb 241) 3 = .ok (.ldc2_w 83, 3) := by decide +kernel
theorem i_M_noRule_6 : decode (mb 241) 6 = .ok (.invokestatic 76, 3) := by decide +kernel
theorem i_M_noRule_9 : decode (mb 241) 9 = .ok (.ifCond .ne 10, 3) := by decide +kernel
theorem i_M_noRule_12 : decode (mb 241) 12 = .ok (.aload_n 0, 1) := by decide +kernel
theorem i_M_noRule_13 : decode (mb 241) 13 = .ok (.bipush (-2), 2) := by decide +kernel
theorem i_M_noRule_15 : decode (mb 241) 15 = .ok (.invokevirtual 89, 3) := by decide +kernel
theorem i_M_noRule_18 : decode (mb 241) 18 = .ok (.ireturn, 1) := by decide +kernel
theorem i_M_noRule_19 : decode (mb 241) 19 = .ok (.aload_n 0, 1) := by decide +kernel
theorem i_M_noRule_20 : decode (mb 241) 20 = .ok (.getfield 7, 3) := by decide +kernel
theorem i_M_noRule_23 : decode (mb 241) 23 = .ok (.iload_n 1, 1) := by decide +kernel
theorem i_M_noRule_24 : decode (mb 241) 24 = .ok (.iaload, 1) := by decide +kernel
theorem i_M_noRule_25 : decode (mb 241) 25 = .ok (.iconst 1, 1) := by decide +kernel
theorem i_M_noRule_26 : decode (mb 241) 26 = .ok (.if_icmp .ne 10, 3) := by decide +kernel
theorem i_M_noRule_29 : decode (mb 241) 29 = .ok (.aload_n 0, 1) := by decide +kernel
theorem i_M_noRule_30 : decode (mb 241) 30 = .ok (.bipush (-3), 2) := by decide +kernel
theorem i_M_noRule_32 : decode (mb 241) 32 = .ok (.invokevirtual 89, 3) := by decide +kernel
theorem i_M_noRule_35 : decode (mb 241) 35 = .ok (.ireturn, 1) := by decide +kernel
theorem i_M_noRule_36 : decode (mb 241) 36 = .ok (.aload_n 0, 1) := by decide +kernel
theorem i_M_noRule_37 : decode (mb 241) 37 = .ok (.getfield 7, 3) := by decide +kernel
theorem i_M_noRule_40 : decode (mb 241) 40 = .ok (.iload_n 1, 1) := by decide +kernel
theorem i_M_noRule_41 : decode (mb 241) 41 = .ok (.iaload, 1) := by decide +kernel
theorem i_M_noRule_42 : decode (mb 241) 42 = .ok (.ifCond .ne 12, 3) := by decide +kernel
theorem i_M_noRule_45 : decode (mb 241) 45 = .ok (.aload_n 0, 1) := by decide +kernel
theorem i_M_noRule_46 : decode (mb 241) 46 = .ok (.bipush (-4), 2) := by decide +kernel
theorem i_M_noRule_48 : decode (mb 241) 48 = .ok (.invokevirtual 89, 3) := by decide +kernel
theorem i_M_noRule_51 : decode (mb 241) 51 = .ok (.goto 4, 3) := by decide +kernel
theorem i_M_noRule_54 : decode (mb 241) 54 = .ok (.iconst 0, 1) := by decide +kernel
theorem i_M_noRule_55 : decode (mb 241) 55 = .ok (.ireturn, 1) := by decide +kernel
theorem o_M_judge : (mn 242).cls = "NeedsALoserModel" := by decide +kernel
theorem l_M_judge : ml 242 = 3 := by decide +kernel
theorem t_M_judge : mr 242 = some (FieldType.int) := by decide +kernel
theorem i_M_judge_0 : decode (mb 242) 0 = .ok (.aload_n 0, 1) := by decide +kernel
theorem i_M_judge_1 : decode (mb 242) 1 = .ok (.iload_n 1, 1) := by decide +kernel
theorem i_M_judge_2 : decode (mb 242) 2 = .ok (.invokevirtual 264, 3) := by decide +kernel
theorem i_M_judge_5 : decode (mb 242) 5 = .ok (.istore_n 2, 1) := by decide +kernel
theorem i_M_judge_6 : decode (mb 242) 6 = .ok (.iload_n 2, 1) := by decide +kernel
theorem i_M_judge_7 : decode (mb 242) 7 = .ok (.ifCond .eq 7, 3) := by decide +kernel
theorem i_M_judge_10 : decode (mb 242) 10 = .ok (.iload_n 2, 1) := by decide +kernel
theorem i_M_judge_11 : decode (mb 242) 11 = .ok (.goto 8, 3) := by decide +kernel
theorem i_M_judge_14 : decode (mb 242) 14 = .ok (.aload_n 0, 1) := by decide +kernel
theorem i_M_judge_15 : decode (mb 242) 15 = .ok (.iload_n 1, 1) := by decide +kernel
theorem i_M_judge_16 : decode (mb 242) 16 = .ok (.invokevirtual 267, 3) := by decide +kernel
theorem i_M_judge_19 : decode (mb 242) 19 = .ok (.ireturn, 1) := by decide +kernel
