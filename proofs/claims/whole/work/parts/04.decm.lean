theorem d_Mo_init_0 : decode cc_Mo_init 0 = .ok (.aload_n 0, 1) := by decide +kernel
theorem d_Mo_init_1 : decode cc_Mo_init 1 = .ok (.invokespecial 1, 3) := by decide +kernel
theorem d_Mo_init_4 : decode cc_Mo_init 4 = .ok (.aload_n 0, 1) := by decide +kernel
theorem d_Mo_init_5 : decode cc_Mo_init 5 = .ok (.bipush 20, 2) := by decide +kernel
theorem d_Mo_init_7 : decode cc_Mo_init 7 = .ok (.newarray .long, 2) := by decide +kernel
theorem d_Mo_init_9 : decode cc_Mo_init 9 = .ok (.putfield 7, 3) := by decide +kernel
theorem d_Mo_init_12 : decode cc_Mo_init 12 = .ok (.aload_n 0, 1) := by decide +kernel
theorem d_Mo_init_13 : decode cc_Mo_init 13 = .ok (.bipush 40, 2) := by decide +kernel
theorem d_Mo_init_15 : decode cc_Mo_init 15 = .ok (.newarray .int, 2) := by decide +kernel
theorem d_Mo_init_17 : decode cc_Mo_init 17 = .ok (.putfield 13, 3) := by decide +kernel
theorem d_Mo_init_20 : decode cc_Mo_init 20 = .ok (.aload_n 0, 1) := by decide +kernel
theorem d_Mo_init_21 : decode cc_Mo_init 21 = .ok (.bipush 40, 2) := by decide +kernel
theorem d_Mo_init_23 : decode cc_Mo_init 23 = .ok (.newarray .long, 2) := by decide +kernel
theorem d_Mo_init_25 : decode cc_Mo_init 25 = .ok (.putfield 17, 3) := by decide +kernel
theorem d_Mo_init_28 : decode cc_Mo_init 28 = .ok (.aload_n 0, 1) := by decide +kernel
theorem d_Mo_init_29 : decode cc_Mo_init 29 = .ok (.bipush 20, 2) := by decide +kernel
theorem d_Mo_init_31 : decode cc_Mo_init 31 = .ok (.newarray .boolean, 2) := by decide +kernel
theorem d_Mo_init_33 : decode cc_Mo_init 33 = .ok (.putfield 20, 3) := by decide +kernel
theorem d_Mo_init_36 : decode cc_Mo_init 36 = .ok (.aload_n 0, 1) := by decide +kernel
theorem d_Mo_init_37 : decode cc_Mo_init 37 = .ok (.bipush 24, 2) := by decide +kernel
theorem d_Mo_init_39 : decode cc_Mo_init 39 = .ok (.newarray .int, 2) := by decide +kernel
theorem d_Mo_init_41 : decode cc_Mo_init 41 = .ok (.putfield 24, 3) := by decide +kernel
theorem d_Mo_init_44 : decode cc_Mo_init 44 = .ok (.aload_n 0, 1) := by decide +kernel
theorem d_Mo_init_45 : decode cc_Mo_init 45 = .ok (.bipush 24, 2) := by decide +kernel
theorem d_Mo_init_47 : decode cc_Mo_init 47 = .ok (.newarray .int, 2) := by decide +kernel
theorem d_Mo_init_49 : decode cc_Mo_init 49 = .ok (.putfield 27, 3) := by decide +kernel
theorem d_Mo_init_52 : decode cc_Mo_init 52 = .ok (.aload_n 0, 1) := by decide +kernel
theorem d_Mo_init_53 : decode cc_Mo_init 53 = .ok (.bipush 24, 2) := by decide +kernel
theorem d_Mo_init_55 : decode cc_Mo_init 55 = .ok (.newarray .long, 2) := by decide +kernel
theorem d_Mo_init_57 : decode cc_Mo_init 57 = .ok (.putfield 30, 3) := by decide +kernel
theorem d_Mo_init_60 : decode cc_Mo_init 60 = .ok (.aload_n 0, 1) := by decide +kernel
theorem d_Mo_init_61 : decode cc_Mo_init 61 = .ok (.bipush 24, 2) := by decide +kernel
theorem d_Mo_init_63 : decode cc_Mo_init 63 = .ok (.newarray .int, 2) := by decide +kernel
theorem d_Mo_init_65 : decode cc_Mo_init 65 = .ok (.putfield 33, 3) := by decide +kernel
theorem d_Mo_init_68 : decode cc_Mo_init 68 = .ok (.aload_n 0, 1) := by decide +kernel
theorem d_Mo_init_69 : decode cc_Mo_init 69 = .ok (.sipush 720, 3) := by decide +kernel
theorem d_Mo_init_72 : decode cc_Mo_init 72 = .ok (.newarray .int, 2) := by decide +kernel
theorem d_Mo_init_74 : decode cc_Mo_init 74 = .ok (.putfield 36, 3) := by decide +kernel
theorem d_Mo_init_77 : decode cc_Mo_init 77 = .ok (.aload_n 0, 1) := by decide +kernel
theorem d_Mo_init_78 : decode cc_Mo_init 78 = .ok (.sipush 720, 3) := by decide +kernel
theorem d_Mo_init_81 : decode cc_Mo_init 81 = .ok (.newarray .int, 2) := by decide +kernel
theorem d_Mo_init_83 : decode cc_Mo_init 83 = .ok (.putfield 39, 3) := by decide +kernel
theorem d_Mo_init_86 : decode cc_Mo_init 86 = .ok (.aload_n 0, 1) := by decide +kernel
theorem d_Mo_init_87 : decode cc_Mo_init 87 = .ok (.bipush 24, 2) := by decide +kernel
theorem d_Mo_init_89 : decode cc_Mo_init 89 = .ok (.newarray .boolean, 2) := by decide +kernel
theorem d_Mo_init_91 : decode cc_Mo_init 91 = .ok (.putfield 42, 3) := by decide +kernel
theorem d_Mo_init_94 : decode cc_Mo_init 94 = .ok (.aload_n 0, 1) := by decide +kernel
theorem d_Mo_init_95 : decode cc_Mo_init 95 = .ok (.bipush 24, 2) := by decide +kernel
theorem d_Mo_init_97 : decode cc_Mo_init 97 = .ok (.newarray .int, 2) := by decide +kernel
theorem d_Mo_init_99 : decode cc_Mo_init 99 = .ok (.putfield 45, 3) := by decide +kernel
theorem d_Mo_init_102 : decode cc_Mo_init 102 = .ok (.aload_n 0, 1) := by decide +kernel
theorem d_Mo_init_103 : decode cc_Mo_init 103 = .ok (.sipush 720, 3) := by decide +kernel
theorem d_Mo_init_106 : decode cc_Mo_init 106 = .ok (.newarray .int, 2) := by decide +kernel
theorem d_Mo_init_108 : decode cc_Mo_init 108 = .ok (.putfield 48, 3) := by decide +kernel
theorem d_Mo_init_111 : decode cc_Mo_init 111 = .ok (.aload_n 0, 1) := by decide +kernel
theorem d_Mo_init_112 : decode cc_Mo_init 112 = .ok (.sipush 720, 3) := by decide +kernel
theorem d_Mo_init_115 : decode cc_Mo_init 115 = .ok (.newarray .int, 2) := by decide +kernel
theorem d_Mo_init_117 : decode cc_Mo_init 117 = .ok (.putfield 51, 3) := by decide +kernel
theorem d_Mo_init_120 : decode cc_Mo_init 120 = .ok (.aload_n 0, 1) := by decide +kernel
theorem d_Mo_init_121 : decode cc_Mo_init 121 = .ok (.bipush 24, 2) := by decide +kernel
theorem d_Mo_init_123 : decode cc_Mo_init 123 = .ok (.newarray .long, 2) := by decide +kernel
theorem d_Mo_init_125 : decode cc_Mo_init 125 = .ok (.putfield 54, 3) := by decide +kernel
theorem d_Mo_init_128 : decode cc_Mo_init 128 = .ok (.aload_n 0, 1) := by decide +kernel
theorem d_Mo_init_129 : decode cc_Mo_init 129 = .ok (.bipush 24, 2) := by decide +kernel
theorem d_Mo_init_131 : decode cc_Mo_init 131 = .ok (.newarray .int, 2) := by decide +kernel
theorem d_Mo_init_133 : decode cc_Mo_init 133 = .ok (.putfield 57, 3) := by decide +kernel
theorem d_Mo_init_136 : decode cc_Mo_init 136 = .ok (.aload_n 0, 1) := by decide +kernel
theorem d_Mo_init_137 : decode cc_Mo_init 137 = .ok (.sipush 480, 3) := by decide +kernel
theorem d_Mo_init_140 : decode cc_Mo_init 140 = .ok (.newarray .long, 2) := by decide +kernel
theorem d_Mo_init_142 : decode cc_Mo_init 142 = .ok (.putfield 60, 3) := by decide +kernel
theorem d_Mo_init_145 : decode cc_Mo_init 145 = .ok (.aload_n 0, 1) := by decide +kernel
theorem d_Mo_init_146 : decode cc_Mo_init 146 = .ok (.sipush 960, 3) := by decide +kernel
theorem d_Mo_init_149 : decode cc_Mo_init 149 = .ok (.newarray .long, 2) := by decide +kernel
theorem d_Mo_init_151 : decode cc_Mo_init 151 = .ok (.putfield 63, 3) := by decide +kernel
theorem d_Mo_init_154 : decode cc_Mo_init 154 = .ok (.aload_n 0, 1) := by decide +kernel
theorem d_Mo_init_155 : decode cc_Mo_init 155 = .ok (.sipush 480, 3) := by decide +kernel
theorem d_Mo_init_158 : decode cc_Mo_init 158 = .ok (.newarray .int, 2) := by decide +kernel
theorem d_Mo_init_160 : decode cc_Mo_init 160 = .ok (.putfield 66, 3) := by decide +kernel
theorem d_Mo_init_163 : decode cc_Mo_init 163 = .ok (.aload_n 0, 1) := by decide +kernel
theorem d_Mo_init_164 : decode cc_Mo_init 164 = .ok (.bipush 24, 2) := by decide +kernel
theorem d_Mo_init_166 : decode cc_Mo_init 166 = .ok (.newarray .int, 2) := by decide +kernel
theorem d_Mo_init_168 : decode cc_Mo_init 168 = .ok (.putfield 69, 3) := by decide +kernel
theorem d_Mo_init_171 : decode cc_Mo_init 171 = .ok (.aload_n 0, 1) := by decide +kernel
theorem d_Mo_init_172 : decode cc_Mo_init 172 = .ok (.bipush 24, 2) := by decide +kernel
theorem d_Mo_init_174 : decode cc_Mo_init 174 = .ok (.newarray .boolean, 2) := by decide +kernel
theorem d_Mo_init_176 : decode cc_Mo_init 176 = .ok (.putfield 72, 3) := by decide +kernel
theorem d_Mo_init_179 : decode cc_Mo_init 179 = .ok (.aload_n 0, 1) := by decide +kernel
theorem d_Mo_init_180 : decode cc_Mo_init 180 = .ok (.bipush 20, 2) := by decide +kernel
theorem d_Mo_init_182 : decode cc_Mo_init 182 = .ok (.newarray .boolean, 2) := by decide +kernel
theorem d_Mo_init_184 : decode cc_Mo_init 184 = .ok (.putfield 75, 3) := by decide +kernel
theorem d_Mo_init_187 : decode cc_Mo_init 187 = .ok (.aload_n 0, 1) := by decide +kernel
theorem d_Mo_init_188 : decode cc_Mo_init 188 = .ok (.bipush 100, 2) := by decide +kernel
theorem d_Mo_init_190 : decode cc_Mo_init 190 = .ok (.newarray .int, 2) := by decide +kernel
theorem d_Mo_init_192 : decode cc_Mo_init 192 = .ok (.putfield 78, 3) := by decide +kernel
theorem d_Mo_init_195 : decode cc_Mo_init 195 = .ok (.aload_n 0, 1) := by decide +kernel
theorem d_Mo_init_196 : decode cc_Mo_init 196 = .ok (.bipush 100, 2) := by decide +kernel
theorem d_Mo_init_198 : decode cc_Mo_init 198 = .ok (.newarray .int, 2) := by decide +kernel
theorem d_Mo_init_200 : decode cc_Mo_init 200 = .ok (.putfield 81, 3) := by decide +kernel
theorem d_Mo_init_203 : decode cc_Mo_init 203 = .ok (.aload_n 0, 1) := by decide +kernel
theorem d_Mo_init_204 : decode cc_Mo_init 204 = .ok (.bipush 24, 2) := by decide +kernel
theorem d_Mo_init_206 : decode cc_Mo_init 206 = .ok (.newarray .boolean, 2) := by decide +kernel
theorem d_Mo_init_208 : decode cc_Mo_init 208 = .ok (.putfield 84, 3) := by decide +kernel
theorem d_Mo_init_211 : decode cc_Mo_init 211 = .ok (.return_, 1) := by decide +kernel
theorem d_Mo_file_0 : decode cc_Mo_file 0 = .ok (.aload_n 0, 1) := by decide +kernel
theorem d_Mo_file_1 : decode cc_Mo_file 1 = .ok (.iconst 0, 1) := by decide +kernel
theorem d_Mo_file_2 : decode cc_Mo_file 2 = .ok (.putfield 87, 3) := by decide +kernel
theorem d_Mo_file_5 : decode cc_Mo_file 5 = .ok (.aload_n 0, 1) := by decide +kernel
theorem d_Mo_file_6 : decode cc_Mo_file 6 = .ok (.getfield 91, 3) := by decide +kernel
theorem d_Mo_file_9 : decode cc_Mo_file 9 = .ok (.bipush 20, 2) := by decide +kernel
theorem d_Mo_file_11 : decode cc_Mo_file 11 = .ok (.if_icmp .ne 5, 3) := by decide +kernel
theorem d_Mo_file_14 : decode cc_Mo_file 14 = .ok (.iconst (-1), 1) := by decide +kernel
theorem d_Mo_file_15 : decode cc_Mo_file 15 = .ok (.ireturn, 1) := by decide +kernel
theorem d_Mo_file_16 : decode cc_Mo_file 16 = .ok (.aload_n 0, 1) := by decide +kernel
theorem d_Mo_file_17 : decode cc_Mo_file 17 = .ok (.getfield 7, 3) := by decide +kernel
theorem d_Mo_file_20 : decode cc_Mo_file 20 = .ok (.aload_n 0, 1) := by decide +kernel
theorem d_Mo_file_21 : decode cc_Mo_file 21 = .ok (.getfield 91, 3) := by decide +kernel
theorem d_Mo_file_24 : decode cc_Mo_file 24 = .ok (.lload_n 1, 1) := by decide +kernel
theorem d_Mo_file_25 : decode cc_Mo_file 25 = .ok (.lastore, 1) := by decide +kernel
theorem d_Mo_file_26 : decode cc_Mo_file 26 = .ok (.aload_n 0, 1) := by decide +kernel
theorem d_Mo_file_27 : decode cc_Mo_file 27 = .ok (.getfield 20, 3) := by decide +kernel
theorem d_Mo_file_30 : decode cc_Mo_file 30 = .ok (.aload_n 0, 1) := by decide +kernel
theorem d_Mo_file_31 : decode cc_Mo_file 31 = .ok (.getfield 91, 3) := by decide +kernel
theorem d_Mo_file_34 : decode cc_Mo_file 34 = .ok (.iconst 1, 1) := by decide +kernel
theorem d_Mo_file_35 : decode cc_Mo_file 35 = .ok (.bastore, 1) := by decide +kernel
theorem d_Mo_file_36 : decode cc_Mo_file 36 = .ok (.aload_n 0, 1) := by decide +kernel
theorem d_Mo_file_37 : decode cc_Mo_file 37 = .ok (.dup, 1) := by decide +kernel
theorem d_Mo_file_38 : decode cc_Mo_file 38 = .ok (.getfield 91, 3) := by decide +kernel
theorem d_Mo_file_41 : decode cc_Mo_file 41 = .ok (.iconst 1, 1) := by decide +kernel
theorem d_Mo_file_42 : decode cc_Mo_file 42 = .ok (.iadd, 1) := by decide +kernel
theorem d_Mo_file_43 : decode cc_Mo_file 43 = .ok (.putfield 91, 3) := by decide +kernel
theorem d_Mo_file_46 : decode cc_Mo_file 46 = .ok (.aload_n 0, 1) := by decide +kernel
theorem d_Mo_file_47 : decode cc_Mo_file 47 = .ok (.getfield 91, 3) := by decide +kernel
theorem d_Mo_file_50 : decode cc_Mo_file 50 = .ok (.iconst 1, 1) := by decide +kernel
theorem d_Mo_file_51 : decode cc_Mo_file 51 = .ok (.isub, 1) := by decide +kernel
theorem d_Mo_file_52 : decode cc_Mo_file 52 = .ok (.ireturn, 1) := by decide +kernel
theorem d_Mo_isFile_0 : decode cc_Mo_isFile 0 = .ok (.iload_n 1, 1) := by decide +kernel
theorem d_Mo_isFile_1 : decode cc_Mo_isFile 1 = .ok (.ifCond .lt 15, 3) := by decide +kernel
theorem d_Mo_isFile_4 : decode cc_Mo_isFile 4 = .ok (.iload_n 1, 1) := by decide +kernel
theorem d_Mo_isFile_5 : decode cc_Mo_isFile 5 = .ok (.aload_n 0, 1) := by decide +kernel
theorem d_Mo_isFile_6 : decode cc_Mo_isFile 6 = .ok (.getfield 91, 3) := by decide +kernel
theorem d_Mo_isFile_9 : decode cc_Mo_isFile 9 = .ok (.if_icmp .ge 7, 3) := by decide +kernel
theorem d_Mo_isFile_12 : decode cc_Mo_isFile 12 = .ok (.iconst 1, 1) := by decide +kernel
theorem d_Mo_isFile_13 : decode cc_Mo_isFile 13 = .ok (.goto 4, 3) := by decide +kernel
theorem d_Mo_isFile_16 : decode cc_Mo_isFile 16 = .ok (.iconst 0, 1) := by decide +kernel
theorem d_Mo_isFile_17 : decode cc_Mo_isFile 17 = .ok (.ireturn, 1) := by decide +kernel
theorem d_Mo_isFunction_0 : decode cc_Mo_isFunction 0 = .ok (.iload_n 1, 1) := by decide +kernel
theorem d_Mo_isFunction_1 : decode cc_Mo_isFunction 1 = .ok (.ifCond .lt 15, 3) := by decide +kernel
theorem d_Mo_isFunction_4 : decode cc_Mo_isFunction 4 = .ok (.iload_n 1, 1) := by decide +kernel
theorem d_Mo_isFunction_5 : decode cc_Mo_isFunction 5 = .ok (.aload_n 0, 1) := by decide +kernel
theorem d_Mo_isFunction_6 : decode cc_Mo_isFunction 6 = .ok (.getfield 94, 3) := by decide +kernel
theorem d_Mo_isFunction_9 : decode cc_Mo_isFunction 9 = .ok (.if_icmp .ge 7, 3) := by decide +kernel
theorem d_Mo_isFunction_12 : decode cc_Mo_isFunction 12 = .ok (.iconst 1, 1) := by decide +kernel
theorem d_Mo_isFunction_13 : decode cc_Mo_isFunction 13 = .ok (.goto 4, 3) := by decide +kernel
theorem d_Mo_isFunction_16 : decode cc_Mo_isFunction 16 = .ok (.iconst 0, 1) := by decide +kernel
theorem d_Mo_isFunction_17 : decode cc_Mo_isFunction 17 = .ok (.ireturn, 1) := by decide +kernel
theorem d_Mo_isTest_0 : decode cc_Mo_isTest 0 = .ok (.iload_n 1, 1) := by decide +kernel
theorem d_Mo_isTest_1 : decode cc_Mo_isTest 1 = .ok (.ifCond .lt 15, 3) := by decide +kernel
theorem d_Mo_isTest_4 : decode cc_Mo_isTest 4 = .ok (.iload_n 1, 1) := by decide +kernel
theorem d_Mo_isTest_5 : decode cc_Mo_isTest 5 = .ok (.aload_n 0, 1) := by decide +kernel
theorem d_Mo_isTest_6 : decode cc_Mo_isTest 6 = .ok (.getfield 97, 3) := by decide +kernel
theorem d_Mo_isTest_9 : decode cc_Mo_isTest 9 = .ok (.if_icmp .ge 7, 3) := by decide +kernel
theorem d_Mo_isTest_12 : decode cc_Mo_isTest 12 = .ok (.iconst 1, 1) := by decide +kernel
theorem d_Mo_isTest_13 : decode cc_Mo_isTest 13 = .ok (.goto 4, 3) := by decide +kernel
theorem d_Mo_isTest_16 : decode cc_Mo_isTest 16 = .ok (.iconst 0, 1) := by decide +kernel
theorem d_Mo_isTest_17 : decode cc_Mo_isTest 17 = .ok (.ireturn, 1) := by decide +kernel
theorem d_Mo_function_0 : decode cc_Mo_function 0 = .ok (.aload_n 0, 1) := by decide +kernel
theorem d_Mo_function_1 : decode cc_Mo_function 1 = .ok (.iconst 0, 1) := by decide +kernel
theorem d_Mo_function_2 : decode cc_Mo_function 2 = .ok (.putfield 87, 3) := by decide +kernel
theorem d_Mo_function_5 : decode cc_Mo_function 5 = .ok (.aload_n 0, 1) := by decide +kernel
theorem d_Mo_function_6 : decode cc_Mo_function 6 = .ok (.getfield 94, 3) := by decide +kernel
theorem d_Mo_function_9 : decode cc_Mo_function 9 = .ok (.bipush 40, 2) := by decide +kernel
theorem d_Mo_function_11 : decode cc_Mo_function 11 = .ok (.if_icmp .eq 11, 3) := by decide +kernel
theorem d_Mo_function_14 : decode cc_Mo_function 14 = .ok (.aload_n 0, 1) := by decide +kernel
theorem d_Mo_function_15 : decode cc_Mo_function 15 = .ok (.iload_n 1, 1) := by decide +kernel
theorem d_Mo_function_16 : decode cc_Mo_function 16 = .ok (.invokevirtual 100, 3) := by decide +kernel
theorem d_Mo_function_19 : decode cc_Mo_function 19 = .ok (.ifCond .ne 5, 3) := by decide +kernel
theorem d_Mo_function_22 : decode cc_Mo_function 22 = .ok (.iconst (-1), 1) := by decide +kernel
theorem d_Mo_function_23 : decode cc_Mo_function 23 = .ok (.ireturn, 1) := by decide +kernel
theorem d_Mo_function_24 : decode cc_Mo_function 24 = .ok (.aload_n 0, 1) := by decide +kernel
theorem d_Mo_function_25 : decode cc_Mo_function 25 = .ok (.getfield 13, 3) := by decide +kernel
theorem d_Mo_function_28 : decode cc_Mo_function 28 = .ok (.aload_n 0, 1) := by decide +kernel
theorem d_Mo_function_29 : decode cc_Mo_function 29 = .ok (.getfield 94, 3) := by decide +kernel
theorem d_Mo_function_32 : decode cc_Mo_function 32 = .ok (.iload_n 1, 1) := by decide +kernel
theorem d_Mo_function_33 : decode cc_Mo_function 33 = .ok (.iastore, 1) := by decide +kernel
theorem d_Mo_function_34 : decode cc_Mo_function 34 = .ok (.aload_n 0, 1) := by decide +kernel
theorem d_Mo_function_35 : decode cc_Mo_function 35 = .ok (.getfield 17, 3) := by decide +kernel
theorem d_Mo_function_38 : decode cc_Mo_function 38 = .ok (.aload_n 0, 1) := by decide +kernel
theorem d_Mo_function_39 : decode cc_Mo_function 39 = .ok (.getfield 94, 3) := by decide +kernel
theorem d_Mo_function_42 : decode cc_Mo_function 42 = .ok (.lload_n 2, 1) := by decide +kernel
theorem d_Mo_function_43 : decode cc_Mo_function 43 = .ok (.lastore, 1) := by decide +kernel
theorem d_Mo_function_44 : decode cc_Mo_function 44 = .ok (.aload_n 0, 1) := by decide +kernel
theorem d_Mo_function_45 : decode cc_Mo_function 45 = .ok (.getfield 20, 3) := by decide +kernel
theorem d_Mo_function_48 : decode cc_Mo_function 48 = .ok (.iload_n 1, 1) := by decide +kernel
theorem d_Mo_function_49 : decode cc_Mo_function 49 = .ok (.iconst 1, 1) := by decide +kernel
theorem d_Mo_function_50 : decode cc_Mo_function 50 = .ok (.bastore, 1) := by decide +kernel
theorem d_Mo_function_51 : decode cc_Mo_function 51 = .ok (.aload_n 0, 1) := by decide +kernel
theorem d_Mo_function_52 : decode cc_Mo_function 52 = .ok (.dup, 1) := by decide +kernel
theorem d_Mo_function_53 : decode cc_Mo_function 53 = .ok (.getfield 94, 3) := by decide +kernel
theorem d_Mo_function_56 : decode cc_Mo_function 56 = .ok (.iconst 1, 1) := by decide +kernel
theorem d_Mo_function_57 : decode cc_Mo_function 57 = .ok (.iadd, 1) := by decide +kernel
theorem d_Mo_function_58 : decode cc_Mo_function 58 = .ok (.putfield 94, 3) := by decide +kernel
theorem d_Mo_function_61 : decode cc_Mo_function 61 = .ok (.aload_n 0, 1) := by decide +kernel
theorem d_Mo_function_62 : decode cc_Mo_function 62 = .ok (.getfield 94, 3) := by decide +kernel
theorem d_Mo_function_65 : decode cc_Mo_function 65 = .ok (.iconst 1, 1) := by decide +kernel
theorem d_Mo_function_66 : decode cc_Mo_function 66 = .ok (.isub, 1) := by decide +kernel
theorem d_Mo_function_67 : decode cc_Mo_function 67 = .ok (.ireturn, 1) := by decide +kernel
theorem d_Mo_change_0 : decode cc_Mo_change 0 = .ok (.aload_n 0, 1) := by decide +kernel
theorem d_Mo_change_1 : decode cc_Mo_change 1 = .ok (.iconst 0, 1) := by decide +kernel
theorem d_Mo_change_2 : decode cc_Mo_change 2 = .ok (.putfield 87, 3) := by decide +kernel
theorem d_Mo_change_5 : decode cc_Mo_change 5 = .ok (.aload_n 0, 1) := by decide +kernel
theorem d_Mo_change_6 : decode cc_Mo_change 6 = .ok (.iload_n 1, 1) := by decide +kernel
theorem d_Mo_change_7 : decode cc_Mo_change 7 = .ok (.invokevirtual 100, 3) := by decide +kernel
theorem d_Mo_change_10 : decode cc_Mo_change 10 = .ok (.ifCond .ne 5, 3) := by decide +kernel
theorem d_Mo_change_13 : decode cc_Mo_change 13 = .ok (.iconst 0, 1) := by decide +kernel
theorem d_Mo_change_14 : decode cc_Mo_change 14 = .ok (.ireturn, 1) := by decide +kernel
theorem d_Mo_change_15 : decode cc_Mo_change 15 = .ok (.aload_n 0, 1) := by decide +kernel
theorem d_Mo_change_16 : decode cc_Mo_change 16 = .ok (.getfield 7, 3) := by decide +kernel
theorem d_Mo_change_19 : decode cc_Mo_change 19 = .ok (.iload_n 1, 1) := by decide +kernel
theorem d_Mo_change_20 : decode cc_Mo_change 20 = .ok (.laload, 1) := by decide +kernel
theorem d_Mo_change_21 : decode cc_Mo_change 21 = .ok (.lload_n 2, 1) := by decide +kernel
theorem d_Mo_change_22 : decode cc_Mo_change 22 = .ok (.lcmp, 1) := by decide +kernel
theorem d_Mo_change_23 : decode cc_Mo_change 23 = .ok (.ifCond .eq 10, 3) := by decide +kernel
theorem d_Mo_change_26 : decode cc_Mo_change 26 = .ok (.aload_n 0, 1) := by decide +kernel
theorem d_Mo_change_27 : decode cc_Mo_change 27 = .ok (.getfield 20, 3) := by decide +kernel
theorem d_Mo_change_30 : decode cc_Mo_change 30 = .ok (.iload_n 1, 1) := by decide +kernel
theorem d_Mo_change_31 : decode cc_Mo_change 31 = .ok (.iconst 1, 1) := by decide +kernel
theorem d_Mo_change_32 : decode cc_Mo_change 32 = .ok (.bastore, 1) := by decide +kernel
theorem d_Mo_change_33 : decode cc_Mo_change 33 = .ok (.aload_n 0, 1) := by decide +kernel
theorem d_Mo_change_34 : decode cc_Mo_change 34 = .ok (.getfield 7, 3) := by decide +kernel
theorem d_Mo_change_37 : decode cc_Mo_change 37 = .ok (.iload_n 1, 1) := by decide +kernel
theorem d_Mo_change_38 : decode cc_Mo_change 38 = .ok (.lload_n 2, 1) := by decide +kernel
theorem d_Mo_change_39 : decode cc_Mo_change 39 = .ok (.lastore, 1) := by decide +kernel
theorem d_Mo_change_40 : decode cc_Mo_change 40 = .ok (.iconst 1, 1) := by decide +kernel
theorem d_Mo_change_41 : decode cc_Mo_change 41 = .ok (.ireturn, 1) := by decide +kernel
theorem d_Mo_changeFunction_0 : decode cc_Mo_changeFunction 0 = .ok (.aload_n 0, 1) := by decide +kernel
theorem d_Mo_changeFunction_1 : decode cc_Mo_changeFunction 1 = .ok (.iconst 0, 1) := by decide +kernel
theorem d_Mo_changeFunction_2 : decode cc_Mo_changeFunction 2 = .ok (.putfield 87, 3) := by decide +kernel
theorem d_Mo_changeFunction_5 : decode cc_Mo_changeFunction 5 = .ok (.aload_n 0, 1) := by decide +kernel
theorem d_Mo_changeFunction_6 : decode cc_Mo_changeFunction 6 = .ok (.iload_n 1, 1) := by decide +kernel
theorem d_Mo_changeFunction_7 : decode cc_Mo_changeFunction 7 = .ok (.invokevirtual 104, 3) := by decide +kernel
theorem d_Mo_changeFunction_10 : decode cc_Mo_changeFunction 10 = .ok (.ifCond .ne 5, 3) := by decide +kernel
theorem d_Mo_changeFunction_13 : decode cc_Mo_changeFunction 13 = .ok (.iconst 0, 1) := by decide +kernel
theorem d_Mo_changeFunction_14 : decode cc_Mo_changeFunction 14 = .ok (.ireturn, 1) := by decide +kernel
theorem d_Mo_changeFunction_15 : decode cc_Mo_changeFunction 15 = .ok (.aload_n 0, 1) := by decide +kernel
theorem d_Mo_changeFunction_16 : decode cc_Mo_changeFunction 16 = .ok (.getfield 17, 3) := by decide +kernel
theorem d_Mo_changeFunction_19 : decode cc_Mo_changeFunction 19 = .ok (.iload_n 1, 1) := by decide +kernel
theorem d_Mo_changeFunction_20 : decode cc_Mo_changeFunction 20 = .ok (.laload, 1) := by decide +kernel
theorem d_Mo_changeFunction_21 : decode cc_Mo_changeFunction 21 = .ok (.lload_n 2, 1) := by decide +kernel
theorem d_Mo_changeFunction_22 : decode cc_Mo_changeFunction 22 = .ok (.lcmp, 1) := by decide +kernel
theorem d_Mo_changeFunction_23 : decode cc_Mo_changeFunction 23 = .ok (.ifCond .eq 15, 3) := by decide +kernel
theorem d_Mo_changeFunction_26 : decode cc_Mo_changeFunction 26 = .ok (.aload_n 0, 1) := by decide +kernel
theorem d_Mo_changeFunction_27 : decode cc_Mo_changeFunction 27 = .ok (.getfield 20, 3) := by decide +kernel
theorem d_Mo_changeFunction_30 : decode cc_Mo_changeFunction 30 = .ok (.aload_n 0, 1) := by decide +kernel
theorem d_Mo_changeFunction_31 : decode cc_Mo_changeFunction 31 = .ok (.getfield 13, 3) := by decide +kernel
theorem d_Mo_changeFunction_34 : decode cc_Mo_changeFunction 34 = .ok (.iload_n 1, 1) := by decide +kernel
theorem d_Mo_changeFunction_35 : decode cc_Mo_changeFunction 35 = .ok (.iaload, 1) := by decide +kernel
theorem d_Mo_changeFunction_36 : decode cc_Mo_changeFunction 36 = .ok (.iconst 1, 1) := by decide +kernel
theorem d_Mo_changeFunction_37 : decode cc_Mo_changeFunction 37 = .ok (.bastore, 1) := by decide +kernel
theorem d_Mo_changeFunction_38 : decode cc_Mo_changeFunction 38 = .ok (.aload_n 0, 1) := by decide +kernel
theorem d_Mo_changeFunction_39 : decode cc_Mo_changeFunction 39 = .ok (.getfield 17, 3) := by decide +kernel
theorem d_Mo_changeFunction_42 : decode cc_Mo_changeFunction 42 = .ok (.iload_n 1, 1) := by decide +kernel
theorem d_Mo_changeFunction_43 : decode cc_Mo_changeFunction 43 = .ok (.lload_n 2, 1) := by decide +kernel
theorem d_Mo_changeFunction_44 : decode cc_Mo_changeFunction 44 = .ok (.lastore, 1) := by decide +kernel
theorem d_Mo_changeFunction_45 : decode cc_Mo_changeFunction 45 = .ok (.iconst 1, 1) := by decide +kernel
theorem d_Mo_changeFunction_46 : decode cc_Mo_changeFunction 46 = .ok (.ireturn, 1) := by decide +kernel
theorem d_Mo_test_0 : decode cc_Mo_test 0 = .ok (.aload_n 0, 1) := by decide +kernel
theorem d_Mo_test_1 : decode cc_Mo_test 1 = .ok (.iconst 0, 1) := by decide +kernel
theorem d_Mo_test_2 : decode cc_Mo_test 2 = .ok (.putfield 87, 3) := by decide +kernel
theorem d_Mo_test_5 : decode cc_Mo_test 5 = .ok (.iload_n 1, 1) := by decide +kernel
theorem d_Mo_test_6 : decode cc_Mo_test 6 = .ok (.ifCond .lt 24, 3) := by decide +kernel
theorem d_Mo_test_9 : decode cc_Mo_test 9 = .ok (.iload_n 1, 1) := by decide +kernel
theorem d_Mo_test_10 : decode cc_Mo_test 10 = .ok (.iconst 3, 1) := by decide +kernel
theorem d_Mo_test_11 : decode cc_Mo_test 11 = .ok (.if_icmp .ge 19, 3) := by decide +kernel
theorem d_Mo_test_14 : decode cc_Mo_test 14 = .ok (.iload_n 2, 1) := by decide +kernel
theorem d_Mo_test_15 : decode cc_Mo_test 15 = .ok (.iconst 1, 1) := by decide +kernel
theorem d_Mo_test_16 : decode cc_Mo_test 16 = .ok (.if_icmp .lt 14, 3) := by decide +kernel
theorem d_Mo_test_19 : decode cc_Mo_test 19 = .ok (.iload_n 2, 1) := by decide +kernel
theorem d_Mo_test_20 : decode cc_Mo_test 20 = .ok (.sipush 1000, 3) := by decide +kernel
theorem d_Mo_test_23 : decode cc_Mo_test 23 = .ok (.if_icmp .gt 7, 3) := by decide +kernel
theorem d_Mo_test_26 : decode cc_Mo_test 26 = .ok (.iconst 1, 1) := by decide +kernel
theorem d_Mo_test_27 : decode cc_Mo_test 27 = .ok (.goto 4, 3) := by decide +kernel
theorem d_Mo_test_30 : decode cc_Mo_test 30 = .ok (.iconst 0, 1) := by decide +kernel
theorem d_Mo_test_31 : decode cc_Mo_test 31 = .ok (.istore_n 3, 1) := by decide +kernel
theorem d_Mo_test_32 : decode cc_Mo_test 32 = .ok (.iload_n 3, 1) := by decide +kernel
theorem d_Mo_test_33 : decode cc_Mo_test 33 = .ok (.ifCond .eq 12, 3) := by decide +kernel
theorem d_Mo_test_36 : decode cc_Mo_test 36 = .ok (.aload_n 0, 1) := by decide +kernel
theorem d_Mo_test_37 : decode cc_Mo_test 37 = .ok (.getfield 97, 3) := by decide +kernel
theorem d_Mo_test_40 : decode cc_Mo_test 40 = .ok (.bipush 24, 2) := by decide +kernel
theorem d_Mo_test_42 : decode cc_Mo_test 42 = .ok (.if_icmp .ne 5, 3) := by decide +kernel
theorem d_Mo_test_45 : decode cc_Mo_test 45 = .ok (.iconst (-1), 1) := by decide +kernel
theorem d_Mo_test_46 : decode cc_Mo_test 46 = .ok (.ireturn, 1) := by decide +kernel
theorem d_Mo_test_47 : decode cc_Mo_test 47 = .ok (.aload_n 0, 1) := by decide +kernel
theorem d_Mo_test_48 : decode cc_Mo_test 48 = .ok (.getfield 24, 3) := by decide +kernel
theorem d_Mo_test_51 : decode cc_Mo_test 51 = .ok (.aload_n 0, 1) := by decide +kernel
theorem d_Mo_test_52 : decode cc_Mo_test 52 = .ok (.getfield 97, 3) := by decide +kernel
theorem d_Mo_test_55 : decode cc_Mo_test 55 = .ok (.iload_n 1, 1) := by decide +kernel
theorem d_Mo_test_56 : decode cc_Mo_test 56 = .ok (.iastore, 1) := by decide +kernel
theorem d_Mo_test_57 : decode cc_Mo_test 57 = .ok (.aload_n 0, 1) := by decide +kernel
theorem d_Mo_test_58 : decode cc_Mo_test 58 = .ok (.getfield 27, 3) := by decide +kernel
theorem d_Mo_test_61 : decode cc_Mo_test 61 = .ok (.aload_n 0, 1) := by decide +kernel
theorem d_Mo_test_62 : decode cc_Mo_test 62 = .ok (.getfield 97, 3) := by decide +kernel
theorem d_Mo_test_65 : decode cc_Mo_test 65 = .ok (.iload_n 2, 1) := by decide +kernel
theorem d_Mo_test_66 : decode cc_Mo_test 66 = .ok (.iastore, 1) := by decide +kernel
theorem d_Mo_test_67 : decode cc_Mo_test 67 = .ok (.aload_n 0, 1) := by decide +kernel
theorem d_Mo_test_68 : decode cc_Mo_test 68 = .ok (.dup, 1) := by decide +kernel
theorem d_Mo_test_69 : decode cc_Mo_test 69 = .ok (.getfield 97, 3) := by decide +kernel
theorem d_Mo_test_72 : decode cc_Mo_test 72 = .ok (.iconst 1, 1) := by decide +kernel
theorem d_Mo_test_73 : decode cc_Mo_test 73 = .ok (.iadd, 1) := by decide +kernel
theorem d_Mo_test_74 : decode cc_Mo_test 74 = .ok (.putfield 97, 3) := by decide +kernel
theorem d_Mo_test_77 : decode cc_Mo_test 77 = .ok (.aload_n 0, 1) := by decide +kernel
theorem d_Mo_test_78 : decode cc_Mo_test 78 = .ok (.getfield 97, 3) := by decide +kernel
theorem d_Mo_test_81 : decode cc_Mo_test 81 = .ok (.iconst 1, 1) := by decide +kernel
theorem d_Mo_test_82 : decode cc_Mo_test 82 = .ok (.isub, 1) := by decide +kernel
theorem d_Mo_test_83 : decode cc_Mo_test 83 = .ok (.ireturn, 1) := by decide +kernel
theorem d_Mo_setting_0 : decode cc_Mo_setting 0 = .ok (.aload_n 0, 1) := by decide +kernel
theorem d_Mo_setting_1 : decode cc_Mo_setting 1 = .ok (.iconst 0, 1) := by decide +kernel
theorem d_Mo_setting_2 : decode cc_Mo_setting 2 = .ok (.putfield 87, 3) := by decide +kernel
theorem d_Mo_setting_5 : decode cc_Mo_setting 5 = .ok (.aload_n 0, 1) := by decide +kernel
theorem d_Mo_setting_6 : decode cc_Mo_setting 6 = .ok (.iload_n 1, 1) := by decide +kernel
theorem d_Mo_setting_7 : decode cc_Mo_setting 7 = .ok (.invokevirtual 107, 3) := by decide +kernel
theorem d_Mo_setting_10 : decode cc_Mo_setting 10 = .ok (.ifCond .ne 5, 3) := by decide +kernel
theorem d_Mo_setting_13 : decode cc_Mo_setting 13 = .ok (.iconst 0, 1) := by decide +kernel
theorem d_Mo_setting_14 : decode cc_Mo_setting 14 = .ok (.ireturn, 1) := by decide +kernel
theorem d_Mo_setting_15 : decode cc_Mo_setting 15 = .ok (.aload_n 0, 1) := by decide +kernel
theorem d_Mo_setting_16 : decode cc_Mo_setting 16 = .ok (.getfield 30, 3) := by decide +kernel
theorem d_Mo_setting_19 : decode cc_Mo_setting 19 = .ok (.iload_n 1, 1) := by decide +kernel
theorem d_Mo_setting_20 : decode cc_Mo_setting 20 = .ok (.lload_n 2, 1) := by decide +kernel
theorem d_Mo_setting_21 : decode cc_Mo_setting 21 = .ok (.lastore, 1) := by decide +kernel
theorem d_Mo_setting_22 : decode cc_Mo_setting 22 = .ok (.iconst 1, 1) := by decide +kernel
theorem d_Mo_setting_23 : decode cc_Mo_setting 23 = .ok (.ireturn, 1) := by decide +kernel
theorem d_Mo_reads_0 : decode cc_Mo_reads 0 = .ok (.aload_n 0, 1) := by decide +kernel
theorem d_Mo_reads_1 : decode cc_Mo_reads 1 = .ok (.iconst 0, 1) := by decide +kernel
theorem d_Mo_reads_2 : decode cc_Mo_reads 2 = .ok (.putfield 87, 3) := by decide +kernel
theorem d_Mo_reads_5 : decode cc_Mo_reads 5 = .ok (.aload_n 0, 1) := by decide +kernel
theorem d_Mo_reads_6 : decode cc_Mo_reads 6 = .ok (.iload_n 1, 1) := by decide +kernel
theorem d_Mo_reads_7 : decode cc_Mo_reads 7 = .ok (.invokevirtual 107, 3) := by decide +kernel
theorem d_Mo_reads_10 : decode cc_Mo_reads 10 = .ok (.ifCond .eq 11, 3) := by decide +kernel
theorem d_Mo_reads_13 : decode cc_Mo_reads 13 = .ok (.aload_n 0, 1) := by decide +kernel
theorem d_Mo_reads_14 : decode cc_Mo_reads 14 = .ok (.iload_n 2, 1) := by decide +kernel
theorem d_Mo_reads_15 : decode cc_Mo_reads 15 = .ok (.invokevirtual 100, 3) := by decide +kernel
theorem d_Mo_reads_18 : decode cc_Mo_reads 18 = .ok (.ifCond .ne 5, 3) := by decide +kernel
theorem d_Mo_reads_21 : decode cc_Mo_reads 21 = .ok (.iconst (-1), 1) := by decide +kernel
theorem d_Mo_reads_22 : decode cc_Mo_reads 22 = .ok (.ireturn, 1) := by decide +kernel
theorem d_Mo_reads_23 : decode cc_Mo_reads 23 = .ok (.iload_n 3, 1) := by decide +kernel
theorem d_Mo_reads_24 : decode cc_Mo_reads 24 = .ok (.iconst (-1), 1) := by decide +kernel
theorem d_Mo_reads_25 : decode cc_Mo_reads 25 = .ok (.if_icmp .eq 23, 3) := by decide +kernel
theorem d_Mo_reads_28 : decode cc_Mo_reads 28 = .ok (.aload_n 0, 1) := by decide +kernel
theorem d_Mo_reads_29 : decode cc_Mo_reads 29 = .ok (.iload_n 3, 1) := by decide +kernel
theorem d_Mo_reads_30 : decode cc_Mo_reads 30 = .ok (.invokevirtual 104, 3) := by decide +kernel
theorem d_Mo_reads_33 : decode cc_Mo_reads 33 = .ok (.ifCond .eq 13, 3) := by decide +kernel
theorem d_Mo_reads_36 : decode cc_Mo_reads 36 = .ok (.aload_n 0, 1) := by decide +kernel
theorem d_Mo_reads_37 : decode cc_Mo_reads 37 = .ok (.getfield 13, 3) := by decide +kernel
theorem d_Mo_reads_40 : decode cc_Mo_reads 40 = .ok (.iload_n 3, 1) := by decide +kernel
theorem d_Mo_reads_41 : decode cc_Mo_reads 41 = .ok (.iaload, 1) := by decide +kernel
theorem d_Mo_reads_42 : decode cc_Mo_reads 42 = .ok (.iload_n 2, 1) := by decide +kernel
theorem d_Mo_reads_43 : decode cc_Mo_reads 43 = .ok (.if_icmp .eq 5, 3) := by decide +kernel
theorem d_Mo_reads_46 : decode cc_Mo_reads 46 = .ok (.iconst (-1), 1) := by decide +kernel
theorem d_Mo_reads_47 : decode cc_Mo_reads 47 = .ok (.ireturn, 1) := by decide +kernel
theorem d_Mo_reads_48 : decode cc_Mo_reads 48 = .ok (.bipush 30, 2) := by decide +kernel
theorem d_Mo_reads_50 : decode cc_Mo_reads 50 = .ok (.iload_n 1, 1) := by decide +kernel
theorem d_Mo_reads_51 : decode cc_Mo_reads 51 = .ok (.imul, 1) := by decide +kernel
theorem d_Mo_reads_52 : decode cc_Mo_reads 52 = .ok (.istore 4, 2) := by decide +kernel
theorem d_Mo_reads_54 : decode cc_Mo_reads 54 = .ok (.iconst 0, 1) := by decide +kernel
theorem d_Mo_reads_55 : decode cc_Mo_reads 55 = .ok (.istore 5, 2) := by decide +kernel
theorem d_Mo_reads_57 : decode cc_Mo_reads 57 = .ok (.iload 5, 2) := by decide +kernel
theorem d_Mo_reads_59 : decode cc_Mo_reads 59 = .ok (.aload_n 0, 1) := by decide +kernel
theorem d_Mo_reads_60 : decode cc_Mo_reads 60 = .ok (.getfield 33, 3) := by decide +kernel
theorem d_Mo_reads_63 : decode cc_Mo_reads 63 = .ok (.iload_n 1, 1) := by decide +kernel
theorem d_Mo_reads_64 : decode cc_Mo_reads 64 = .ok (.iaload, 1) := by decide +kernel
theorem d_Mo_reads_65 : decode cc_Mo_reads 65 = .ok (.if_icmp .ge 39, 3) := by decide +kernel
theorem d_Mo_reads_68 : decode cc_Mo_reads 68 = .ok (.aload_n 0, 1) := by decide +kernel
theorem d_Mo_reads_69 : decode cc_Mo_reads 69 = .ok (.getfield 36, 3) := by decide +kernel
theorem d_Mo_reads_72 : decode cc_Mo_reads 72 = .ok (.iload 4, 2) := by decide +kernel
theorem d_Mo_reads_74 : decode cc_Mo_reads 74 = .ok (.iload 5, 2) := by decide +kernel
theorem d_Mo_reads_76 : decode cc_Mo_reads 76 = .ok (.iadd, 1) := by decide +kernel
theorem d_Mo_reads_77 : decode cc_Mo_reads 77 = .ok (.iaload, 1) := by decide +kernel
theorem d_Mo_reads_78 : decode cc_Mo_reads 78 = .ok (.iload_n 2, 1) := by decide +kernel
theorem d_Mo_reads_79 : decode cc_Mo_reads 79 = .ok (.if_icmp .ne 19, 3) := by decide +kernel
theorem d_Mo_reads_82 : decode cc_Mo_reads 82 = .ok (.aload_n 0, 1) := by decide +kernel
theorem d_Mo_reads_83 : decode cc_Mo_reads 83 = .ok (.getfield 39, 3) := by decide +kernel
theorem d_Mo_reads_86 : decode cc_Mo_reads 86 = .ok (.iload 4, 2) := by decide +kernel
theorem d_Mo_reads_88 : decode cc_Mo_reads 88 = .ok (.iload 5, 2) := by decide +kernel
theorem d_Mo_reads_90 : decode cc_Mo_reads 90 = .ok (.iadd, 1) := by decide +kernel
theorem d_Mo_reads_91 : decode cc_Mo_reads 91 = .ok (.iaload, 1) := by decide +kernel
theorem d_Mo_reads_92 : decode cc_Mo_reads 92 = .ok (.iload_n 3, 1) := by decide +kernel
theorem d_Mo_reads_93 : decode cc_Mo_reads 93 = .ok (.if_icmp .ne 5, 3) := by decide +kernel
theorem d_Mo_reads_96 : decode cc_Mo_reads 96 = .ok (.iconst 0, 1) := by decide +kernel
theorem d_Mo_reads_97 : decode cc_Mo_reads 97 = .ok (.ireturn, 1) := by decide +kernel
theorem d_Mo_reads_98 : decode cc_Mo_reads 98 = .ok (.iinc 5 1, 3) := by decide +kernel
theorem d_Mo_reads_101 : decode cc_Mo_reads 101 = .ok (.goto (-44), 3) := by decide +kernel
theorem d_Mo_reads_104 : decode cc_Mo_reads 104 = .ok (.aload_n 0, 1) := by decide +kernel
theorem d_Mo_reads_105 : decode cc_Mo_reads 105 = .ok (.getfield 33, 3) := by decide +kernel
theorem d_Mo_reads_108 : decode cc_Mo_reads 108 = .ok (.iload_n 1, 1) := by decide +kernel
theorem d_Mo_reads_109 : decode cc_Mo_reads 109 = .ok (.iaload, 1) := by decide +kernel
theorem d_Mo_reads_110 : decode cc_Mo_reads 110 = .ok (.bipush 30, 2) := by decide +kernel
theorem d_Mo_reads_112 : decode cc_Mo_reads 112 = .ok (.if_icmp .ne 5, 3) := by decide +kernel
theorem d_Mo_reads_115 : decode cc_Mo_reads 115 = .ok (.iconst (-1), 1) := by decide +kernel
theorem d_Mo_reads_116 : decode cc_Mo_reads 116 = .ok (.ireturn, 1) := by decide +kernel
theorem d_Mo_reads_117 : decode cc_Mo_reads 117 = .ok (.aload_n 0, 1) := by decide +kernel
theorem d_Mo_reads_118 : decode cc_Mo_reads 118 = .ok (.getfield 36, 3) := by decide +kernel
theorem d_Mo_reads_121 : decode cc_Mo_reads 121 = .ok (.iload 4, 2) := by decide +kernel
theorem d_Mo_reads_123 : decode cc_Mo_reads 123 = .ok (.aload_n 0, 1) := by decide +kernel
theorem d_Mo_reads_124 : decode cc_Mo_reads 124 = .ok (.getfield 33, 3) := by decide +kernel
theorem d_Mo_reads_127 : decode cc_Mo_reads 127 = .ok (.iload_n 1, 1) := by decide +kernel
theorem d_Mo_reads_128 : decode cc_Mo_reads 128 = .ok (.iaload, 1) := by decide +kernel
theorem d_Mo_reads_129 : decode cc_Mo_reads 129 = .ok (.iadd, 1) := by decide +kernel
theorem d_Mo_reads_130 : decode cc_Mo_reads 130 = .ok (.iload_n 2, 1) := by decide +kernel
theorem d_Mo_reads_131 : decode cc_Mo_reads 131 = .ok (.iastore, 1) := by decide +kernel
theorem d_Mo_reads_132 : decode cc_Mo_reads 132 = .ok (.aload_n 0, 1) := by decide +kernel
theorem d_Mo_reads_133 : decode cc_Mo_reads 133 = .ok (.getfield 39, 3) := by decide +kernel
theorem d_Mo_reads_136 : decode cc_Mo_reads 136 = .ok (.iload 4, 2) := by decide +kernel
theorem d_Mo_reads_138 : decode cc_Mo_reads 138 = .ok (.aload_n 0, 1) := by decide +kernel
theorem d_Mo_reads_139 : decode cc_Mo_reads 139 = .ok (.getfield 33, 3) := by decide +kernel
theorem d_Mo_reads_142 : decode cc_Mo_reads 142 = .ok (.iload_n 1, 1) := by decide +kernel
theorem d_Mo_reads_143 : decode cc_Mo_reads 143 = .ok (.iaload, 1) := by decide +kernel
theorem d_Mo_reads_144 : decode cc_Mo_reads 144 = .ok (.iadd, 1) := by decide +kernel
theorem d_Mo_reads_145 : decode cc_Mo_reads 145 = .ok (.iload_n 3, 1) := by decide +kernel
theorem d_Mo_reads_146 : decode cc_Mo_reads 146 = .ok (.iastore, 1) := by decide +kernel
theorem d_Mo_reads_147 : decode cc_Mo_reads 147 = .ok (.aload_n 0, 1) := by decide +kernel
theorem d_Mo_reads_148 : decode cc_Mo_reads 148 = .ok (.getfield 33, 3) := by decide +kernel
theorem d_Mo_reads_151 : decode cc_Mo_reads 151 = .ok (.iload_n 1, 1) := by decide +kernel
theorem d_Mo_reads_152 : decode cc_Mo_reads 152 = .ok (.dup2, 1) := by decide +kernel
theorem d_Mo_reads_153 : decode cc_Mo_reads 153 = .ok (.iaload, 1) := by decide +kernel
theorem d_Mo_reads_154 : decode cc_Mo_reads 154 = .ok (.iconst 1, 1) := by decide +kernel
theorem d_Mo_reads_155 : decode cc_Mo_reads 155 = .ok (.iadd, 1) := by decide +kernel
theorem d_Mo_reads_156 : decode cc_Mo_reads 156 = .ok (.iastore, 1) := by decide +kernel
theorem d_Mo_reads_157 : decode cc_Mo_reads 157 = .ok (.iconst 1, 1) := by decide +kernel
theorem d_Mo_reads_158 : decode cc_Mo_reads 158 = .ok (.ireturn, 1) := by decide +kernel
theorem d_Mo_keepAll_0 : decode cc_Mo_keepAll 0 = .ok (.iconst 0, 1) := by decide +kernel
theorem d_Mo_keepAll_1 : decode cc_Mo_keepAll 1 = .ok (.istore_n 2, 1) := by decide +kernel
theorem d_Mo_keepAll_2 : decode cc_Mo_keepAll 2 = .ok (.iload_n 2, 1) := by decide +kernel
theorem d_Mo_keepAll_3 : decode cc_Mo_keepAll 3 = .ok (.aload_n 0, 1) := by decide +kernel
theorem d_Mo_keepAll_4 : decode cc_Mo_keepAll 4 = .ok (.getfield 33, 3) := by decide +kernel
theorem d_Mo_keepAll_7 : decode cc_Mo_keepAll 7 = .ok (.iload_n 1, 1) := by decide +kernel
theorem d_Mo_keepAll_8 : decode cc_Mo_keepAll 8 = .ok (.iaload, 1) := by decide +kernel
theorem d_Mo_keepAll_9 : decode cc_Mo_keepAll 9 = .ok (.if_icmp .ge 53, 3) := by decide +kernel
theorem d_Mo_keepAll_12 : decode cc_Mo_keepAll 12 = .ok (.aload_n 0, 1) := by decide +kernel
theorem d_Mo_keepAll_13 : decode cc_Mo_keepAll 13 = .ok (.getfield 48, 3) := by decide +kernel
theorem d_Mo_keepAll_16 : decode cc_Mo_keepAll 16 = .ok (.bipush 30, 2) := by decide +kernel
theorem d_Mo_keepAll_18 : decode cc_Mo_keepAll 18 = .ok (.iload_n 1, 1) := by decide +kernel
theorem d_Mo_keepAll_19 : decode cc_Mo_keepAll 19 = .ok (.imul, 1) := by decide +kernel
theorem d_Mo_keepAll_20 : decode cc_Mo_keepAll 20 = .ok (.iload_n 2, 1) := by decide +kernel
theorem d_Mo_keepAll_21 : decode cc_Mo_keepAll 21 = .ok (.iadd, 1) := by decide +kernel
theorem d_Mo_keepAll_22 : decode cc_Mo_keepAll 22 = .ok (.aload_n 0, 1) := by decide +kernel
theorem d_Mo_keepAll_23 : decode cc_Mo_keepAll 23 = .ok (.getfield 36, 3) := by decide +kernel
theorem d_Mo_keepAll_26 : decode cc_Mo_keepAll 26 = .ok (.bipush 30, 2) := by decide +kernel
theorem d_Mo_keepAll_28 : decode cc_Mo_keepAll 28 = .ok (.iload_n 1, 1) := by decide +kernel
theorem d_Mo_keepAll_29 : decode cc_Mo_keepAll 29 = .ok (.imul, 1) := by decide +kernel
theorem d_Mo_keepAll_30 : decode cc_Mo_keepAll 30 = .ok (.iload_n 2, 1) := by decide +kernel
theorem d_Mo_keepAll_31 : decode cc_Mo_keepAll 31 = .ok (.iadd, 1) := by decide +kernel
theorem d_Mo_keepAll_32 : decode cc_Mo_keepAll 32 = .ok (.iaload, 1) := by decide +kernel
theorem d_Mo_keepAll_33 : decode cc_Mo_keepAll 33 = .ok (.iastore, 1) := by decide +kernel
theorem d_Mo_keepAll_34 : decode cc_Mo_keepAll 34 = .ok (.aload_n 0, 1) := by decide +kernel
theorem d_Mo_keepAll_35 : decode cc_Mo_keepAll 35 = .ok (.getfield 51, 3) := by decide +kernel
theorem d_Mo_keepAll_38 : decode cc_Mo_keepAll 38 = .ok (.bipush 30, 2) := by decide +kernel
theorem d_Mo_keepAll_40 : decode cc_Mo_keepAll 40 = .ok (.iload_n 1, 1) := by decide +kernel
theorem d_Mo_keepAll_41 : decode cc_Mo_keepAll 41 = .ok (.imul, 1) := by decide +kernel
theorem d_Mo_keepAll_42 : decode cc_Mo_keepAll 42 = .ok (.iload_n 2, 1) := by decide +kernel
theorem d_Mo_keepAll_43 : decode cc_Mo_keepAll 43 = .ok (.iadd, 1) := by decide +kernel
theorem d_Mo_keepAll_44 : decode cc_Mo_keepAll 44 = .ok (.aload_n 0, 1) := by decide +kernel
theorem d_Mo_keepAll_45 : decode cc_Mo_keepAll 45 = .ok (.getfield 39, 3) := by decide +kernel
theorem d_Mo_keepAll_48 : decode cc_Mo_keepAll 48 = .ok (.bipush 30, 2) := by decide +kernel
theorem d_Mo_keepAll_50 : decode cc_Mo_keepAll 50 = .ok (.iload_n 1, 1) := by decide +kernel
theorem d_Mo_keepAll_51 : decode cc_Mo_keepAll 51 = .ok (.imul, 1) := by decide +kernel
theorem d_Mo_keepAll_52 : decode cc_Mo_keepAll 52 = .ok (.iload_n 2, 1) := by decide +kernel
theorem d_Mo_keepAll_53 : decode cc_Mo_keepAll 53 = .ok (.iadd, 1) := by decide +kernel
theorem d_Mo_keepAll_54 : decode cc_Mo_keepAll 54 = .ok (.iaload, 1) := by decide +kernel
theorem d_Mo_keepAll_55 : decode cc_Mo_keepAll 55 = .ok (.iastore, 1) := by decide +kernel
theorem d_Mo_keepAll_56 : decode cc_Mo_keepAll 56 = .ok (.iinc 2 1, 3) := by decide +kernel
theorem d_Mo_keepAll_59 : decode cc_Mo_keepAll 59 = .ok (.goto (-57), 3) := by decide +kernel
theorem d_Mo_keepAll_62 : decode cc_Mo_keepAll 62 = .ok (.aload_n 0, 1) := by decide +kernel
theorem d_Mo_keepAll_63 : decode cc_Mo_keepAll 63 = .ok (.getfield 45, 3) := by decide +kernel
theorem d_Mo_keepAll_66 : decode cc_Mo_keepAll 66 = .ok (.iload_n 1, 1) := by decide +kernel
theorem d_Mo_keepAll_67 : decode cc_Mo_keepAll 67 = .ok (.aload_n 0, 1) := by decide +kernel
theorem d_Mo_keepAll_68 : decode cc_Mo_keepAll 68 = .ok (.getfield 33, 3) := by decide +kernel
theorem d_Mo_keepAll_71 : decode cc_Mo_keepAll 71 = .ok (.iload_n 1, 1) := by decide +kernel
theorem d_Mo_keepAll_72 : decode cc_Mo_keepAll 72 = .ok (.iaload, 1) := by decide +kernel
theorem d_Mo_keepAll_73 : decode cc_Mo_keepAll 73 = .ok (.iastore, 1) := by decide +kernel
theorem d_Mo_keepAll_74 : decode cc_Mo_keepAll 74 = .ok (.aload_n 0, 1) := by decide +kernel
theorem d_Mo_keepAll_75 : decode cc_Mo_keepAll 75 = .ok (.getfield 33, 3) := by decide +kernel
theorem d_Mo_keepAll_78 : decode cc_Mo_keepAll 78 = .ok (.iload_n 1, 1) := by decide +kernel
theorem d_Mo_keepAll_79 : decode cc_Mo_keepAll 79 = .ok (.iconst 0, 1) := by decide +kernel
theorem d_Mo_keepAll_80 : decode cc_Mo_keepAll 80 = .ok (.iastore, 1) := by decide +kernel
theorem d_Mo_keepAll_81 : decode cc_Mo_keepAll 81 = .ok (.aload_n 0, 1) := by decide +kernel
theorem d_Mo_keepAll_82 : decode cc_Mo_keepAll 82 = .ok (.getfield 54, 3) := by decide +kernel
theorem d_Mo_keepAll_85 : decode cc_Mo_keepAll 85 = .ok (.iload_n 1, 1) := by decide +kernel
theorem d_Mo_keepAll_86 : decode cc_Mo_keepAll 86 = .ok (.aload_n 0, 1) := by decide +kernel
theorem d_Mo_keepAll_87 : decode cc_Mo_keepAll 87 = .ok (.getfield 30, 3) := by decide +kernel
theorem d_Mo_keepAll_90 : decode cc_Mo_keepAll 90 = .ok (.iload_n 1, 1) := by decide +kernel
theorem d_Mo_keepAll_91 : decode cc_Mo_keepAll 91 = .ok (.laload, 1) := by decide +kernel
theorem d_Mo_keepAll_92 : decode cc_Mo_keepAll 92 = .ok (.lastore, 1) := by decide +kernel
theorem d_Mo_keepAll_93 : decode cc_Mo_keepAll 93 = .ok (.aload_n 0, 1) := by decide +kernel
theorem d_Mo_keepAll_94 : decode cc_Mo_keepAll 94 = .ok (.getfield 42, 3) := by decide +kernel
theorem d_Mo_keepAll_97 : decode cc_Mo_keepAll 97 = .ok (.iload_n 1, 1) := by decide +kernel
theorem d_Mo_keepAll_98 : decode cc_Mo_keepAll 98 = .ok (.iconst 1, 1) := by decide +kernel
theorem d_Mo_keepAll_99 : decode cc_Mo_keepAll 99 = .ok (.bastore, 1) := by decide +kernel
theorem d_Mo_keepAll_100 : decode cc_Mo_keepAll 100 = .ok (.aload_n 0, 1) := by decide +kernel
theorem d_Mo_keepAll_101 : decode cc_Mo_keepAll 101 = .ok (.getfield 57, 3) := by decide +kernel
theorem d_Mo_keepAll_104 : decode cc_Mo_keepAll 104 = .ok (.iload_n 1, 1) := by decide +kernel
theorem d_Mo_keepAll_105 : decode cc_Mo_keepAll 105 = .ok (.aload_n 0, 1) := by decide +kernel
theorem d_Mo_keepAll_106 : decode cc_Mo_keepAll 106 = .ok (.getfield 94, 3) := by decide +kernel
theorem d_Mo_keepAll_109 : decode cc_Mo_keepAll 109 = .ok (.iastore, 1) := by decide +kernel
theorem d_Mo_keepAll_110 : decode cc_Mo_keepAll 110 = .ok (.iconst 0, 1) := by decide +kernel
theorem d_Mo_keepAll_111 : decode cc_Mo_keepAll 111 = .ok (.istore_n 2, 1) := by decide +kernel
theorem d_Mo_keepAll_112 : decode cc_Mo_keepAll 112 = .ok (.iload_n 2, 1) := by decide +kernel
theorem d_Mo_keepAll_113 : decode cc_Mo_keepAll 113 = .ok (.aload_n 0, 1) := by decide +kernel
theorem d_Mo_keepAll_114 : decode cc_Mo_keepAll 114 = .ok (.getfield 91, 3) := by decide +kernel
theorem d_Mo_keepAll_117 : decode cc_Mo_keepAll 117 = .ok (.if_icmp .ge 26, 3) := by decide +kernel
theorem d_Mo_keepAll_120 : decode cc_Mo_keepAll 120 = .ok (.aload_n 0, 1) := by decide +kernel
theorem d_Mo_keepAll_121 : decode cc_Mo_keepAll 121 = .ok (.getfield 60, 3) := by decide +kernel
theorem d_Mo_keepAll_124 : decode cc_Mo_keepAll 124 = .ok (.bipush 20, 2) := by decide +kernel
theorem d_Mo_keepAll_126 : decode cc_Mo_keepAll 126 = .ok (.iload_n 1, 1) := by decide +kernel
theorem d_Mo_keepAll_127 : decode cc_Mo_keepAll 127 = .ok (.imul, 1) := by decide +kernel
theorem d_Mo_keepAll_128 : decode cc_Mo_keepAll 128 = .ok (.iload_n 2, 1) := by decide +kernel
theorem d_Mo_keepAll_129 : decode cc_Mo_keepAll 129 = .ok (.iadd, 1) := by decide +kernel
theorem d_Mo_keepAll_130 : decode cc_Mo_keepAll 130 = .ok (.aload_n 0, 1) := by decide +kernel
theorem d_Mo_keepAll_131 : decode cc_Mo_keepAll 131 = .ok (.getfield 7, 3) := by decide +kernel
theorem d_Mo_keepAll_134 : decode cc_Mo_keepAll 134 = .ok (.iload_n 2, 1) := by decide +kernel
theorem d_Mo_keepAll_135 : decode cc_Mo_keepAll 135 = .ok (.laload, 1) := by decide +kernel
theorem d_Mo_keepAll_136 : decode cc_Mo_keepAll 136 = .ok (.lastore, 1) := by decide +kernel
theorem d_Mo_keepAll_137 : decode cc_Mo_keepAll 137 = .ok (.iinc 2 1, 3) := by decide +kernel
theorem d_Mo_keepAll_140 : decode cc_Mo_keepAll 140 = .ok (.goto (-28), 3) := by decide +kernel
theorem d_Mo_keepAll_143 : decode cc_Mo_keepAll 143 = .ok (.iconst 0, 1) := by decide +kernel
theorem d_Mo_keepAll_144 : decode cc_Mo_keepAll 144 = .ok (.istore_n 2, 1) := by decide +kernel
theorem d_Mo_keepAll_145 : decode cc_Mo_keepAll 145 = .ok (.iload_n 2, 1) := by decide +kernel
theorem d_Mo_keepAll_146 : decode cc_Mo_keepAll 146 = .ok (.aload_n 0, 1) := by decide +kernel
theorem d_Mo_keepAll_147 : decode cc_Mo_keepAll 147 = .ok (.getfield 94, 3) := by decide +kernel
theorem d_Mo_keepAll_150 : decode cc_Mo_keepAll 150 = .ok (.if_icmp .ge 26, 3) := by decide +kernel
theorem d_Mo_keepAll_153 : decode cc_Mo_keepAll 153 = .ok (.aload_n 0, 1) := by decide +kernel
theorem d_Mo_keepAll_154 : decode cc_Mo_keepAll 154 = .ok (.getfield 63, 3) := by decide +kernel
theorem d_Mo_keepAll_157 : decode cc_Mo_keepAll 157 = .ok (.bipush 40, 2) := by decide +kernel
theorem d_Mo_keepAll_159 : decode cc_Mo_keepAll 159 = .ok (.iload_n 1, 1) := by decide +kernel
theorem d_Mo_keepAll_160 : decode cc_Mo_keepAll 160 = .ok (.imul, 1) := by decide +kernel
theorem d_Mo_keepAll_161 : decode cc_Mo_keepAll 161 = .ok (.iload_n 2, 1) := by decide +kernel
theorem d_Mo_keepAll_162 : decode cc_Mo_keepAll 162 = .ok (.iadd, 1) := by decide +kernel
theorem d_Mo_keepAll_163 : decode cc_Mo_keepAll 163 = .ok (.aload_n 0, 1) := by decide +kernel
theorem d_Mo_keepAll_164 : decode cc_Mo_keepAll 164 = .ok (.getfield 17, 3) := by decide +kernel
theorem d_Mo_keepAll_167 : decode cc_Mo_keepAll 167 = .ok (.iload_n 2, 1) := by decide +kernel
theorem d_Mo_keepAll_168 : decode cc_Mo_keepAll 168 = .ok (.laload, 1) := by decide +kernel
theorem d_Mo_keepAll_169 : decode cc_Mo_keepAll 169 = .ok (.lastore, 1) := by decide +kernel
theorem d_Mo_keepAll_170 : decode cc_Mo_keepAll 170 = .ok (.iinc 2 1, 3) := by decide +kernel
theorem d_Mo_keepAll_173 : decode cc_Mo_keepAll 173 = .ok (.goto (-28), 3) := by decide +kernel
theorem d_Mo_keepAll_176 : decode cc_Mo_keepAll 176 = .ok (.return_, 1) := by decide +kernel
theorem d_Mo_outcome_0 : decode cc_Mo_outcome 0 = .ok (.aload_n 0, 1) := by decide +kernel
theorem d_Mo_outcome_1 : decode cc_Mo_outcome 1 = .ok (.iconst 0, 1) := by decide +kernel
theorem d_Mo_outcome_2 : decode cc_Mo_outcome 2 = .ok (.putfield 87, 3) := by decide +kernel
theorem d_Mo_outcome_5 : decode cc_Mo_outcome 5 = .ok (.aload_n 0, 1) := by decide +kernel
theorem d_Mo_outcome_6 : decode cc_Mo_outcome 6 = .ok (.iload_n 1, 1) := by decide +kernel
theorem d_Mo_outcome_7 : decode cc_Mo_outcome 7 = .ok (.invokevirtual 107, 3) := by decide +kernel
theorem d_Mo_outcome_10 : decode cc_Mo_outcome 10 = .ok (.ifCond .ne 5, 3) := by decide +kernel
theorem d_Mo_outcome_13 : decode cc_Mo_outcome 13 = .ok (.iconst (-1), 1) := by decide +kernel
theorem d_Mo_outcome_14 : decode cc_Mo_outcome 14 = .ok (.ireturn, 1) := by decide +kernel
theorem d_Mo_outcome_15 : decode cc_Mo_outcome 15 = .ok (.aload_n 0, 1) := by decide +kernel
theorem d_Mo_outcome_16 : decode cc_Mo_outcome 16 = .ok (.iload_n 1, 1) := by decide +kernel
theorem d_Mo_outcome_17 : decode cc_Mo_outcome 17 = .ok (.invokevirtual 110, 3) := by decide +kernel
theorem d_Mo_outcome_20 : decode cc_Mo_outcome 20 = .ok (.iload_n 2, 1) := by decide +kernel
theorem d_Mo_outcome_21 : decode cc_Mo_outcome 21 = .ok (.ifCond .ne 103, 3) := by decide +kernel
theorem d_Mo_outcome_24 : decode cc_Mo_outcome 24 = .ok (.aload_n 0, 1) := by decide +kernel
theorem d_Mo_outcome_25 : decode cc_Mo_outcome 25 = .ok (.getfield 114, 3) := by decide +kernel
theorem d_Mo_outcome_28 : decode cc_Mo_outcome 28 = .ok (.ifCond .le 96, 3) := by decide +kernel
theorem d_Mo_outcome_31 : decode cc_Mo_outcome 31 = .ok (.iconst 0, 1) := by decide +kernel
theorem d_Mo_outcome_32 : decode cc_Mo_outcome 32 = .ok (.istore_n 3, 1) := by decide +kernel
theorem d_Mo_outcome_33 : decode cc_Mo_outcome 33 = .ok (.iload_n 3, 1) := by decide +kernel
theorem d_Mo_outcome_34 : decode cc_Mo_outcome 34 = .ok (.bipush 20, 2) := by decide +kernel
theorem d_Mo_outcome_36 : decode cc_Mo_outcome 36 = .ok (.if_icmp .ge 37, 3) := by decide +kernel
theorem d_Mo_outcome_39 : decode cc_Mo_outcome 39 = .ok (.aload_n 0, 1) := by decide +kernel
theorem d_Mo_outcome_40 : decode cc_Mo_outcome 40 = .ok (.getfield 66, 3) := by decide +kernel
theorem d_Mo_outcome_43 : decode cc_Mo_outcome 43 = .ok (.bipush 20, 2) := by decide +kernel
theorem d_Mo_outcome_45 : decode cc_Mo_outcome 45 = .ok (.iload_n 1, 1) := by decide +kernel
theorem d_Mo_outcome_46 : decode cc_Mo_outcome 46 = .ok (.imul, 1) := by decide +kernel
theorem d_Mo_outcome_47 : decode cc_Mo_outcome 47 = .ok (.iload_n 3, 1) := by decide +kernel
theorem d_Mo_outcome_48 : decode cc_Mo_outcome 48 = .ok (.iadd, 1) := by decide +kernel
theorem d_Mo_outcome_49 : decode cc_Mo_outcome 49 = .ok (.dup2, 1) := by decide +kernel
theorem d_Mo_outcome_50 : decode cc_Mo_outcome 50 = .ok (.iaload, 1) := by decide +kernel
theorem d_Mo_outcome_51 : decode cc_Mo_outcome 51 = .ok (.aload_n 0, 1) := by decide +kernel
theorem d_Mo_outcome_52 : decode cc_Mo_outcome 52 = .ok (.getfield 75, 3) := by decide +kernel
theorem d_Mo_outcome_55 : decode cc_Mo_outcome 55 = .ok (.iload_n 3, 1) := by decide +kernel
theorem d_Mo_outcome_56 : decode cc_Mo_outcome 56 = .ok (.baload, 1) := by decide +kernel
theorem d_Mo_outcome_57 : decode cc_Mo_outcome 57 = .ok (.ifCond .eq 7, 3) := by decide +kernel
theorem d_Mo_outcome_60 : decode cc_Mo_outcome 60 = .ok (.iconst 1, 1) := by decide +kernel
theorem d_Mo_outcome_61 : decode cc_Mo_outcome 61 = .ok (.goto 4, 3) := by decide +kernel
theorem d_Mo_outcome_64 : decode cc_Mo_outcome 64 = .ok (.iconst 0, 1) := by decide +kernel
theorem d_Mo_outcome_65 : decode cc_Mo_outcome 65 = .ok (.iadd, 1) := by decide +kernel
theorem d_Mo_outcome_66 : decode cc_Mo_outcome 66 = .ok (.iastore, 1) := by decide +kernel
theorem d_Mo_outcome_67 : decode cc_Mo_outcome 67 = .ok (.iinc 3 1, 3) := by decide +kernel
theorem d_Mo_outcome_70 : decode cc_Mo_outcome 70 = .ok (.goto (-37), 3) := by decide +kernel
theorem d_Mo_outcome_73 : decode cc_Mo_outcome 73 = .ok (.aload_n 0, 1) := by decide +kernel
theorem d_Mo_outcome_74 : decode cc_Mo_outcome 74 = .ok (.getfield 72, 3) := by decide +kernel
theorem d_Mo_outcome_77 : decode cc_Mo_outcome 77 = .ok (.iload_n 1, 1) := by decide +kernel
theorem d_Mo_outcome_78 : decode cc_Mo_outcome 78 = .ok (.baload, 1) := by decide +kernel
theorem d_Mo_outcome_79 : decode cc_Mo_outcome 79 = .ok (.ifCond .ne 45, 3) := by decide +kernel
theorem d_Mo_outcome_82 : decode cc_Mo_outcome 82 = .ok (.aload_n 0, 1) := by decide +kernel
theorem d_Mo_outcome_83 : decode cc_Mo_outcome 83 = .ok (.getfield 117, 3) := by decide +kernel
theorem d_Mo_outcome_86 : decode cc_Mo_outcome 86 = .ok (.bipush 100, 2) := by decide +kernel
theorem d_Mo_outcome_88 : decode cc_Mo_outcome 88 = .ok (.if_icmp .ge 36, 3) := by decide +kernel
theorem d_Mo_outcome_91 : decode cc_Mo_outcome 91 = .ok (.aload_n 0, 1) := by decide +kernel
theorem d_Mo_outcome_92 : decode cc_Mo_outcome 92 = .ok (.getfield 78, 3) := by decide +kernel
theorem d_Mo_outcome_95 : decode cc_Mo_outcome 95 = .ok (.aload_n 0, 1) := by decide +kernel
theorem d_Mo_outcome_96 : decode cc_Mo_outcome 96 = .ok (.getfield 117, 3) := by decide +kernel
theorem d_Mo_outcome_99 : decode cc_Mo_outcome 99 = .ok (.iload_n 1, 1) := by decide +kernel
theorem d_Mo_outcome_100 : decode cc_Mo_outcome 100 = .ok (.iastore, 1) := by decide +kernel
theorem d_Mo_outcome_101 : decode cc_Mo_outcome 101 = .ok (.aload_n 0, 1) := by decide +kernel
theorem d_Mo_outcome_102 : decode cc_Mo_outcome 102 = .ok (.getfield 81, 3) := by decide +kernel
theorem d_Mo_outcome_105 : decode cc_Mo_outcome 105 = .ok (.aload_n 0, 1) := by decide +kernel
theorem d_Mo_outcome_106 : decode cc_Mo_outcome 106 = .ok (.getfield 117, 3) := by decide +kernel
theorem d_Mo_outcome_109 : decode cc_Mo_outcome 109 = .ok (.aload_n 0, 1) := by decide +kernel
theorem d_Mo_outcome_110 : decode cc_Mo_outcome 110 = .ok (.getfield 114, 3) := by decide +kernel
theorem d_Mo_outcome_113 : decode cc_Mo_outcome 113 = .ok (.iastore, 1) := by decide +kernel
theorem d_Mo_outcome_114 : decode cc_Mo_outcome 114 = .ok (.aload_n 0, 1) := by decide +kernel
theorem d_Mo_outcome_115 : decode cc_Mo_outcome 115 = .ok (.dup, 1) := by decide +kernel
theorem d_Mo_outcome_116 : decode cc_Mo_outcome 116 = .ok (.getfield 117, 3) := by decide +kernel
theorem d_Mo_outcome_119 : decode cc_Mo_outcome 119 = .ok (.iconst 1, 1) := by decide +kernel
theorem d_Mo_outcome_120 : decode cc_Mo_outcome 120 = .ok (.iadd, 1) := by decide +kernel
theorem d_Mo_outcome_121 : decode cc_Mo_outcome 121 = .ok (.putfield 117, 3) := by decide +kernel
theorem d_Mo_outcome_124 : decode cc_Mo_outcome 124 = .ok (.aload_n 0, 1) := by decide +kernel
theorem d_Mo_outcome_125 : decode cc_Mo_outcome 125 = .ok (.getfield 45, 3) := by decide +kernel
theorem d_Mo_outcome_128 : decode cc_Mo_outcome 128 = .ok (.iload_n 1, 1) := by decide +kernel
theorem d_Mo_outcome_129 : decode cc_Mo_outcome 129 = .ok (.iaload, 1) := by decide +kernel
theorem d_Mo_outcome_130 : decode cc_Mo_outcome 130 = .ok (.ireturn, 1) := by decide +kernel
theorem d_Mo_isRest_0 : decode cc_Mo_isRest 0 = .ok (.aload_n 0, 1) := by decide +kernel
theorem d_Mo_isRest_1 : decode cc_Mo_isRest 1 = .ok (.getfield 60, 3) := by decide +kernel
theorem d_Mo_isRest_4 : decode cc_Mo_isRest 4 = .ok (.bipush 20, 2) := by decide +kernel
theorem d_Mo_isRest_6 : decode cc_Mo_isRest 6 = .ok (.iload_n 1, 1) := by decide +kernel
theorem d_Mo_isRest_7 : decode cc_Mo_isRest 7 = .ok (.imul, 1) := by decide +kernel
theorem d_Mo_isRest_8 : decode cc_Mo_isRest 8 = .ok (.iload_n 2, 1) := by decide +kernel
theorem d_Mo_isRest_9 : decode cc_Mo_isRest 9 = .ok (.iadd, 1) := by decide +kernel
theorem d_Mo_isRest_10 : decode cc_Mo_isRest 10 = .ok (.laload, 1) := by decide +kernel
theorem d_Mo_isRest_11 : decode cc_Mo_isRest 11 = .ok (.aload_n 0, 1) := by decide +kernel
theorem d_Mo_isRest_12 : decode cc_Mo_isRest 12 = .ok (.getfield 7, 3) := by decide +kernel
theorem d_Mo_isRest_15 : decode cc_Mo_isRest 15 = .ok (.iload_n 2, 1) := by decide +kernel
theorem d_Mo_isRest_16 : decode cc_Mo_isRest 16 = .ok (.laload, 1) := by decide +kernel
theorem d_Mo_isRest_17 : decode cc_Mo_isRest 17 = .ok (.lcmp, 1) := by decide +kernel
theorem d_Mo_isRest_18 : decode cc_Mo_isRest 18 = .ok (.ifCond .ne 7, 3) := by decide +kernel
theorem d_Mo_isRest_21 : decode cc_Mo_isRest 21 = .ok (.iconst 1, 1) := by decide +kernel
theorem d_Mo_isRest_22 : decode cc_Mo_isRest 22 = .ok (.goto 4, 3) := by decide +kernel
theorem d_Mo_isRest_25 : decode cc_Mo_isRest 25 = .ok (.iconst 0, 1) := by decide +kernel
theorem d_Mo_isRest_26 : decode cc_Mo_isRest 26 = .ok (.ireturn, 1) := by decide +kernel
theorem d_Mo_isBody_0 : decode cc_Mo_isBody 0 = .ok (.aload_n 0, 1) := by decide +kernel
theorem d_Mo_isBody_1 : decode cc_Mo_isBody 1 = .ok (.getfield 63, 3) := by decide +kernel
theorem d_Mo_isBody_4 : decode cc_Mo_isBody 4 = .ok (.bipush 40, 2) := by decide +kernel
theorem d_Mo_isBody_6 : decode cc_Mo_isBody 6 = .ok (.iload_n 1, 1) := by decide +kernel
theorem d_Mo_isBody_7 : decode cc_Mo_isBody 7 = .ok (.imul, 1) := by decide +kernel
theorem d_Mo_isBody_8 : decode cc_Mo_isBody 8 = .ok (.iload_n 2, 1) := by decide +kernel
theorem d_Mo_isBody_9 : decode cc_Mo_isBody 9 = .ok (.iadd, 1) := by decide +kernel
theorem d_Mo_isBody_10 : decode cc_Mo_isBody 10 = .ok (.laload, 1) := by decide +kernel
theorem d_Mo_isBody_11 : decode cc_Mo_isBody 11 = .ok (.aload_n 0, 1) := by decide +kernel
theorem d_Mo_isBody_12 : decode cc_Mo_isBody 12 = .ok (.getfield 17, 3) := by decide +kernel
theorem d_Mo_isBody_15 : decode cc_Mo_isBody 15 = .ok (.iload_n 2, 1) := by decide +kernel
theorem d_Mo_isBody_16 : decode cc_Mo_isBody 16 = .ok (.laload, 1) := by decide +kernel
theorem d_Mo_isBody_17 : decode cc_Mo_isBody 17 = .ok (.lcmp, 1) := by decide +kernel
theorem d_Mo_isBody_18 : decode cc_Mo_isBody 18 = .ok (.ifCond .ne 7, 3) := by decide +kernel
theorem d_Mo_isBody_21 : decode cc_Mo_isBody 21 = .ok (.iconst 1, 1) := by decide +kernel
theorem d_Mo_isBody_22 : decode cc_Mo_isBody 22 = .ok (.goto 4, 3) := by decide +kernel
theorem d_Mo_isBody_25 : decode cc_Mo_isBody 25 = .ok (.iconst 0, 1) := by decide +kernel
theorem d_Mo_isBody_26 : decode cc_Mo_isBody 26 = .ok (.ireturn, 1) := by decide +kernel
theorem d_Mo_isAsItWas_0 : decode cc_Mo_isAsItWas 0 = .ok (.aload_n 0, 1) := by decide +kernel
theorem d_Mo_isAsItWas_1 : decode cc_Mo_isAsItWas 1 = .ok (.iload_n 1, 1) := by decide +kernel
theorem d_Mo_isAsItWas_2 : decode cc_Mo_isAsItWas 2 = .ok (.iload_n 2, 1) := by decide +kernel
theorem d_Mo_isAsItWas_3 : decode cc_Mo_isAsItWas 3 = .ok (.invokevirtual 120, 3) := by decide +kernel
theorem d_Mo_isAsItWas_6 : decode cc_Mo_isAsItWas 6 = .ok (.istore_n 3, 1) := by decide +kernel
theorem d_Mo_isAsItWas_7 : decode cc_Mo_isAsItWas 7 = .ok (.iconst 0, 1) := by decide +kernel
theorem d_Mo_isAsItWas_8 : decode cc_Mo_isAsItWas 8 = .ok (.istore 4, 2) := by decide +kernel
theorem d_Mo_isAsItWas_10 : decode cc_Mo_isAsItWas 10 = .ok (.iload 4, 2) := by decide +kernel
theorem d_Mo_isAsItWas_12 : decode cc_Mo_isAsItWas 12 = .ok (.aload_n 0, 1) := by decide +kernel
theorem d_Mo_isAsItWas_13 : decode cc_Mo_isAsItWas 13 = .ok (.getfield 94, 3) := by decide +kernel
theorem d_Mo_isAsItWas_16 : decode cc_Mo_isAsItWas 16 = .ok (.if_icmp .ge 51, 3) := by decide +kernel
theorem d_Mo_isAsItWas_19 : decode cc_Mo_isAsItWas 19 = .ok (.aload_n 0, 1) := by decide +kernel
theorem d_Mo_isAsItWas_20 : decode cc_Mo_isAsItWas 20 = .ok (.getfield 13, 3) := by decide +kernel
theorem d_Mo_isAsItWas_23 : decode cc_Mo_isAsItWas 23 = .ok (.iload 4, 2) := by decide +kernel
theorem d_Mo_isAsItWas_25 : decode cc_Mo_isAsItWas 25 = .ok (.iaload, 1) := by decide +kernel
theorem d_Mo_isAsItWas_26 : decode cc_Mo_isAsItWas 26 = .ok (.iload_n 2, 1) := by decide +kernel
theorem d_Mo_isAsItWas_27 : decode cc_Mo_isAsItWas 27 = .ok (.if_icmp .ne 34, 3) := by decide +kernel
theorem d_Mo_isAsItWas_30 : decode cc_Mo_isAsItWas 30 = .ok (.iload_n 3, 1) := by decide +kernel
theorem d_Mo_isAsItWas_31 : decode cc_Mo_isAsItWas 31 = .ok (.ifCond .eq 28, 3) := by decide +kernel
theorem d_Mo_isAsItWas_34 : decode cc_Mo_isAsItWas 34 = .ok (.iload 4, 2) := by decide +kernel
theorem d_Mo_isAsItWas_36 : decode cc_Mo_isAsItWas 36 = .ok (.aload_n 0, 1) := by decide +kernel
theorem d_Mo_isAsItWas_37 : decode cc_Mo_isAsItWas 37 = .ok (.getfield 57, 3) := by decide +kernel
theorem d_Mo_isAsItWas_40 : decode cc_Mo_isAsItWas 40 = .ok (.iload_n 1, 1) := by decide +kernel
theorem d_Mo_isAsItWas_41 : decode cc_Mo_isAsItWas 41 = .ok (.iaload, 1) := by decide +kernel
theorem d_Mo_isAsItWas_42 : decode cc_Mo_isAsItWas 42 = .ok (.if_icmp .ge 17, 3) := by decide +kernel
theorem d_Mo_isAsItWas_45 : decode cc_Mo_isAsItWas 45 = .ok (.aload_n 0, 1) := by decide +kernel
theorem d_Mo_isAsItWas_46 : decode cc_Mo_isAsItWas 46 = .ok (.iload_n 1, 1) := by decide +kernel
theorem d_Mo_isAsItWas_47 : decode cc_Mo_isAsItWas 47 = .ok (.iload 4, 2) := by decide +kernel
theorem d_Mo_isAsItWas_49 : decode cc_Mo_isAsItWas 49 = .ok (.invokevirtual 124, 3) := by decide +kernel
theorem d_Mo_isAsItWas_52 : decode cc_Mo_isAsItWas 52 = .ok (.ifCond .eq 7, 3) := by decide +kernel
theorem d_Mo_isAsItWas_55 : decode cc_Mo_isAsItWas 55 = .ok (.iconst 1, 1) := by decide +kernel
theorem d_Mo_isAsItWas_56 : decode cc_Mo_isAsItWas 56 = .ok (.goto 4, 3) := by decide +kernel
theorem d_Mo_isAsItWas_59 : decode cc_Mo_isAsItWas 59 = .ok (.iconst 0, 1) := by decide +kernel
theorem d_Mo_isAsItWas_60 : decode cc_Mo_isAsItWas 60 = .ok (.istore_n 3, 1) := by decide +kernel
theorem d_Mo_isAsItWas_61 : decode cc_Mo_isAsItWas 61 = .ok (.iinc 4 1, 3) := by decide +kernel
theorem d_Mo_isAsItWas_64 : decode cc_Mo_isAsItWas 64 = .ok (.goto (-54), 3) := by decide +kernel
theorem d_Mo_isAsItWas_67 : decode cc_Mo_isAsItWas 67 = .ok (.iload_n 3, 1) := by decide +kernel
theorem d_Mo_isAsItWas_68 : decode cc_Mo_isAsItWas 68 = .ok (.ireturn, 1) := by decide +kernel
theorem d_Mo_reasonOf_0 : decode cc_Mo_reasonOf 0 = .ok (.aload_n 0, 1) := by decide +kernel
theorem d_Mo_reasonOf_1 : decode cc_Mo_reasonOf 1 = .ok (.getfield 48, 3) := by decide +kernel
theorem d_Mo_reasonOf_4 : decode cc_Mo_reasonOf 4 = .ok (.bipush 30, 2) := by decide +kernel
theorem d_Mo_reasonOf_6 : decode cc_Mo_reasonOf 6 = .ok (.iload_n 1, 1) := by decide +kernel
theorem d_Mo_reasonOf_7 : decode cc_Mo_reasonOf 7 = .ok (.imul, 1) := by decide +kernel
theorem d_Mo_reasonOf_8 : decode cc_Mo_reasonOf 8 = .ok (.iload_n 2, 1) := by decide +kernel
theorem d_Mo_reasonOf_9 : decode cc_Mo_reasonOf 9 = .ok (.iadd, 1) := by decide +kernel
theorem d_Mo_reasonOf_10 : decode cc_Mo_reasonOf 10 = .ok (.iaload, 1) := by decide +kernel
theorem d_Mo_reasonOf_11 : decode cc_Mo_reasonOf 11 = .ok (.istore_n 3, 1) := by decide +kernel
theorem d_Mo_reasonOf_12 : decode cc_Mo_reasonOf 12 = .ok (.aload_n 0, 1) := by decide +kernel
theorem d_Mo_reasonOf_13 : decode cc_Mo_reasonOf 13 = .ok (.getfield 51, 3) := by decide +kernel
theorem d_Mo_reasonOf_16 : decode cc_Mo_reasonOf 16 = .ok (.bipush 30, 2) := by decide +kernel
theorem d_Mo_reasonOf_18 : decode cc_Mo_reasonOf 18 = .ok (.iload_n 1, 1) := by decide +kernel
theorem d_Mo_reasonOf_19 : decode cc_Mo_reasonOf 19 = .ok (.imul, 1) := by decide +kernel
theorem d_Mo_reasonOf_20 : decode cc_Mo_reasonOf 20 = .ok (.iload_n 2, 1) := by decide +kernel
theorem d_Mo_reasonOf_21 : decode cc_Mo_reasonOf 21 = .ok (.iadd, 1) := by decide +kernel
theorem d_Mo_reasonOf_22 : decode cc_Mo_reasonOf 22 = .ok (.iaload, 1) := by decide +kernel
theorem d_Mo_reasonOf_23 : decode cc_Mo_reasonOf 23 = .ok (.istore 4, 2) := by decide +kernel
theorem d_Mo_reasonOf_25 : decode cc_Mo_reasonOf 25 = .ok (.aload_n 0, 1) := by decide +kernel
theorem d_Mo_reasonOf_26 : decode cc_Mo_reasonOf 26 = .ok (.getfield 24, 3) := by decide +kernel
theorem d_Mo_reasonOf_29 : decode cc_Mo_reasonOf 29 = .ok (.iload_n 1, 1) := by decide +kernel
theorem d_Mo_reasonOf_30 : decode cc_Mo_reasonOf 30 = .ok (.iaload, 1) := by decide +kernel
theorem d_Mo_reasonOf_31 : decode cc_Mo_reasonOf 31 = .ok (.iconst 1, 1) := by decide +kernel
theorem d_Mo_reasonOf_32 : decode cc_Mo_reasonOf 32 = .ok (.if_icmp .ne 9, 3) := by decide +kernel
theorem d_Mo_reasonOf_35 : decode cc_Mo_reasonOf 35 = .ok (.iload 4, 2) := by decide +kernel
theorem d_Mo_reasonOf_37 : decode cc_Mo_reasonOf 37 = .ok (.iconst (-1), 1) := by decide +kernel
theorem d_Mo_reasonOf_38 : decode cc_Mo_reasonOf 38 = .ok (.if_icmp .ne 18, 3) := by decide +kernel
theorem d_Mo_reasonOf_41 : decode cc_Mo_reasonOf 41 = .ok (.aload_n 0, 1) := by decide +kernel
theorem d_Mo_reasonOf_42 : decode cc_Mo_reasonOf 42 = .ok (.iload_n 1, 1) := by decide +kernel
theorem d_Mo_reasonOf_43 : decode cc_Mo_reasonOf 43 = .ok (.iload_n 3, 1) := by decide +kernel
theorem d_Mo_reasonOf_44 : decode cc_Mo_reasonOf 44 = .ok (.invokevirtual 127, 3) := by decide +kernel
theorem d_Mo_reasonOf_47 : decode cc_Mo_reasonOf 47 = .ok (.ifCond .eq 7, 3) := by decide +kernel
theorem d_Mo_reasonOf_50 : decode cc_Mo_reasonOf 50 = .ok (.iconst 0, 1) := by decide +kernel
theorem d_Mo_reasonOf_51 : decode cc_Mo_reasonOf 51 = .ok (.goto 4, 3) := by decide +kernel
theorem d_Mo_reasonOf_54 : decode cc_Mo_reasonOf 54 = .ok (.iconst 4, 1) := by decide +kernel
theorem d_Mo_reasonOf_55 : decode cc_Mo_reasonOf 55 = .ok (.ireturn, 1) := by decide +kernel
theorem d_Mo_reasonOf_56 : decode cc_Mo_reasonOf 56 = .ok (.aload_n 0, 1) := by decide +kernel
theorem d_Mo_reasonOf_57 : decode cc_Mo_reasonOf 57 = .ok (.iload_n 1, 1) := by decide +kernel
theorem d_Mo_reasonOf_58 : decode cc_Mo_reasonOf 58 = .ok (.iload 4, 2) := by decide +kernel
theorem d_Mo_reasonOf_60 : decode cc_Mo_reasonOf 60 = .ok (.invokevirtual 124, 3) := by decide +kernel
theorem d_Mo_reasonOf_63 : decode cc_Mo_reasonOf 63 = .ok (.ifCond .ne 5, 3) := by decide +kernel
theorem d_Mo_reasonOf_66 : decode cc_Mo_reasonOf 66 = .ok (.iconst 5, 1) := by decide +kernel
theorem d_Mo_reasonOf_67 : decode cc_Mo_reasonOf 67 = .ok (.ireturn, 1) := by decide +kernel
theorem d_Mo_reasonOf_68 : decode cc_Mo_reasonOf 68 = .ok (.aload_n 0, 1) := by decide +kernel
theorem d_Mo_reasonOf_69 : decode cc_Mo_reasonOf 69 = .ok (.iload_n 1, 1) := by decide +kernel
theorem d_Mo_reasonOf_70 : decode cc_Mo_reasonOf 70 = .ok (.iload_n 3, 1) := by decide +kernel
theorem d_Mo_reasonOf_71 : decode cc_Mo_reasonOf 71 = .ok (.invokevirtual 120, 3) := by decide +kernel
theorem d_Mo_reasonOf_74 : decode cc_Mo_reasonOf 74 = .ok (.ifCond .eq 7, 3) := by decide +kernel
theorem d_Mo_reasonOf_77 : decode cc_Mo_reasonOf 77 = .ok (.iconst 0, 1) := by decide +kernel
theorem d_Mo_reasonOf_78 : decode cc_Mo_reasonOf 78 = .ok (.goto 5, 3) := by decide +kernel
theorem d_Mo_reasonOf_81 : decode cc_Mo_reasonOf 81 = .ok (.bipush 6, 2) := by decide +kernel
theorem d_Mo_reasonOf_83 : decode cc_Mo_reasonOf 83 = .ok (.ireturn, 1) := by decide +kernel
theorem d_Mo_reason_0 : decode cc_Mo_reason 0 = .ok (.aload_n 0, 1) := by decide +kernel
theorem d_Mo_reason_1 : decode cc_Mo_reason 1 = .ok (.getfield 24, 3) := by decide +kernel
theorem d_Mo_reason_4 : decode cc_Mo_reason 4 = .ok (.iload_n 1, 1) := by decide +kernel
theorem d_Mo_reason_5 : decode cc_Mo_reason 5 = .ok (.iaload, 1) := by decide +kernel
theorem d_Mo_reason_6 : decode cc_Mo_reason 6 = .ok (.iconst 2, 1) := by decide +kernel
theorem d_Mo_reason_7 : decode cc_Mo_reason 7 = .ok (.if_icmp .ne 5, 3) := by decide +kernel
theorem d_Mo_reason_10 : decode cc_Mo_reason 10 = .ok (.iconst 1, 1) := by decide +kernel
theorem d_Mo_reason_11 : decode cc_Mo_reason 11 = .ok (.ireturn, 1) := by decide +kernel
theorem d_Mo_reason_12 : decode cc_Mo_reason 12 = .ok (.aload_n 0, 1) := by decide +kernel
theorem d_Mo_reason_13 : decode cc_Mo_reason 13 = .ok (.getfield 42, 3) := by decide +kernel
theorem d_Mo_reason_16 : decode cc_Mo_reason 16 = .ok (.iload_n 1, 1) := by decide +kernel
theorem d_Mo_reason_17 : decode cc_Mo_reason 17 = .ok (.baload, 1) := by decide +kernel
theorem d_Mo_reason_18 : decode cc_Mo_reason 18 = .ok (.ifCond .ne 5, 3) := by decide +kernel
theorem d_Mo_reason_21 : decode cc_Mo_reason 21 = .ok (.iconst 2, 1) := by decide +kernel
theorem d_Mo_reason_22 : decode cc_Mo_reason 22 = .ok (.ireturn, 1) := by decide +kernel
theorem d_Mo_reason_23 : decode cc_Mo_reason 23 = .ok (.aload_n 0, 1) := by decide +kernel
theorem d_Mo_reason_24 : decode cc_Mo_reason 24 = .ok (.getfield 30, 3) := by decide +kernel
theorem d_Mo_reason_27 : decode cc_Mo_reason 27 = .ok (.iload_n 1, 1) := by decide +kernel
theorem d_Mo_reason_28 : decode cc_Mo_reason 28 = .ok (.laload, 1) := by decide +kernel
theorem d_Mo_reason_29 : decode cc_Mo_reason 29 = .ok (.aload_n 0, 1) := by decide +kernel
theorem d_Mo_reason_30 : decode cc_Mo_reason 30 = .ok (.getfield 54, 3) := by decide +kernel
theorem d_Mo_reason_33 : decode cc_Mo_reason 33 = .ok (.iload_n 1, 1) := by decide +kernel
theorem d_Mo_reason_34 : decode cc_Mo_reason 34 = .ok (.laload, 1) := by decide +kernel
theorem d_Mo_reason_35 : decode cc_Mo_reason 35 = .ok (.lcmp, 1) := by decide +kernel
theorem d_Mo_reason_36 : decode cc_Mo_reason 36 = .ok (.ifCond .eq 5, 3) := by decide +kernel
theorem d_Mo_reason_39 : decode cc_Mo_reason 39 = .ok (.iconst 3, 1) := by decide +kernel
theorem d_Mo_reason_40 : decode cc_Mo_reason 40 = .ok (.ireturn, 1) := by decide +kernel
theorem d_Mo_reason_41 : decode cc_Mo_reason 41 = .ok (.iconst 0, 1) := by decide +kernel
theorem d_Mo_reason_42 : decode cc_Mo_reason 42 = .ok (.istore_n 2, 1) := by decide +kernel
theorem d_Mo_reason_43 : decode cc_Mo_reason 43 = .ok (.iconst 0, 1) := by decide +kernel
theorem d_Mo_reason_44 : decode cc_Mo_reason 44 = .ok (.istore_n 3, 1) := by decide +kernel
theorem d_Mo_reason_45 : decode cc_Mo_reason 45 = .ok (.iload_n 3, 1) := by decide +kernel
theorem d_Mo_reason_46 : decode cc_Mo_reason 46 = .ok (.aload_n 0, 1) := by decide +kernel
theorem d_Mo_reason_47 : decode cc_Mo_reason 47 = .ok (.getfield 45, 3) := by decide +kernel
theorem d_Mo_reason_50 : decode cc_Mo_reason 50 = .ok (.iload_n 1, 1) := by decide +kernel
theorem d_Mo_reason_51 : decode cc_Mo_reason 51 = .ok (.iaload, 1) := by decide +kernel
theorem d_Mo_reason_52 : decode cc_Mo_reason 52 = .ok (.if_icmp .ge 35, 3) := by decide +kernel
theorem d_Mo_reason_55 : decode cc_Mo_reason 55 = .ok (.aload_n 0, 1) := by decide +kernel
theorem d_Mo_reason_56 : decode cc_Mo_reason 56 = .ok (.iload_n 1, 1) := by decide +kernel
theorem d_Mo_reason_57 : decode cc_Mo_reason 57 = .ok (.iload_n 3, 1) := by decide +kernel
theorem d_Mo_reason_58 : decode cc_Mo_reason 58 = .ok (.invokevirtual 130, 3) := by decide +kernel
theorem d_Mo_reason_61 : decode cc_Mo_reason 61 = .ok (.istore 4, 2) := by decide +kernel
theorem d_Mo_reason_63 : decode cc_Mo_reason 63 = .ok (.iload 4, 2) := by decide +kernel
theorem d_Mo_reason_65 : decode cc_Mo_reason 65 = .ok (.ifCond .le 16, 3) := by decide +kernel
theorem d_Mo_reason_68 : decode cc_Mo_reason 68 = .ok (.iload_n 2, 1) := by decide +kernel
theorem d_Mo_reason_69 : decode cc_Mo_reason 69 = .ok (.ifCond .eq 9, 3) := by decide +kernel
theorem d_Mo_reason_72 : decode cc_Mo_reason 72 = .ok (.iload 4, 2) := by decide +kernel
theorem d_Mo_reason_74 : decode cc_Mo_reason 74 = .ok (.iload_n 2, 1) := by decide +kernel
theorem d_Mo_reason_75 : decode cc_Mo_reason 75 = .ok (.if_icmp .ge 6, 3) := by decide +kernel
theorem d_Mo_reason_78 : decode cc_Mo_reason 78 = .ok (.iload 4, 2) := by decide +kernel
theorem d_Mo_reason_80 : decode cc_Mo_reason 80 = .ok (.istore_n 2, 1) := by decide +kernel
theorem d_Mo_reason_81 : decode cc_Mo_reason 81 = .ok (.iinc 3 1, 3) := by decide +kernel
theorem d_Mo_reason_84 : decode cc_Mo_reason 84 = .ok (.goto (-39), 3) := by decide +kernel
theorem d_Mo_reason_87 : decode cc_Mo_reason 87 = .ok (.iload_n 2, 1) := by decide +kernel
theorem d_Mo_reason_88 : decode cc_Mo_reason 88 = .ok (.ireturn, 1) := by decide +kernel
theorem d_Mo_why_0 : decode cc_Mo_why 0 = .ok (.aload_n 0, 1) := by decide +kernel
theorem d_Mo_why_1 : decode cc_Mo_why 1 = .ok (.iconst 0, 1) := by decide +kernel
theorem d_Mo_why_2 : decode cc_Mo_why 2 = .ok (.putfield 87, 3) := by decide +kernel
theorem d_Mo_why_5 : decode cc_Mo_why 5 = .ok (.aload_n 0, 1) := by decide +kernel
theorem d_Mo_why_6 : decode cc_Mo_why 6 = .ok (.iload_n 1, 1) := by decide +kernel
theorem d_Mo_why_7 : decode cc_Mo_why 7 = .ok (.invokevirtual 107, 3) := by decide +kernel
theorem d_Mo_why_10 : decode cc_Mo_why 10 = .ok (.ifCond .eq 11, 3) := by decide +kernel
theorem d_Mo_why_13 : decode cc_Mo_why 13 = .ok (.aload_n 0, 1) := by decide +kernel
theorem d_Mo_why_14 : decode cc_Mo_why 14 = .ok (.iload_n 1, 1) := by decide +kernel
theorem d_Mo_why_15 : decode cc_Mo_why 15 = .ok (.invokevirtual 134, 3) := by decide +kernel
theorem d_Mo_why_18 : decode cc_Mo_why 18 = .ok (.goto 4, 3) := by decide +kernel
theorem d_Mo_why_21 : decode cc_Mo_why 21 = .ok (.iconst (-1), 1) := by decide +kernel
theorem d_Mo_why_22 : decode cc_Mo_why 22 = .ok (.ireturn, 1) := by decide +kernel
theorem d_Mo_kept_0 : decode cc_Mo_kept 0 = .ok (.aload_n 0, 1) := by decide +kernel
theorem d_Mo_kept_1 : decode cc_Mo_kept 1 = .ok (.iconst 0, 1) := by decide +kernel
theorem d_Mo_kept_2 : decode cc_Mo_kept 2 = .ok (.putfield 87, 3) := by decide +kernel
theorem d_Mo_kept_5 : decode cc_Mo_kept 5 = .ok (.aload_n 0, 1) := by decide +kernel
theorem d_Mo_kept_6 : decode cc_Mo_kept 6 = .ok (.iload_n 1, 1) := by decide +kernel
theorem d_Mo_kept_7 : decode cc_Mo_kept 7 = .ok (.invokevirtual 107, 3) := by decide +kernel
theorem d_Mo_kept_10 : decode cc_Mo_kept 10 = .ok (.ifCond .eq 12, 3) := by decide +kernel
theorem d_Mo_kept_13 : decode cc_Mo_kept 13 = .ok (.iload_n 2, 1) := by decide +kernel
theorem d_Mo_kept_14 : decode cc_Mo_kept 14 = .ok (.ifCond .lt 8, 3) := by decide +kernel
theorem d_Mo_kept_17 : decode cc_Mo_kept 17 = .ok (.iload_n 2, 1) := by decide +kernel
theorem d_Mo_kept_18 : decode cc_Mo_kept 18 = .ok (.iconst 1, 1) := by decide +kernel
theorem d_Mo_kept_19 : decode cc_Mo_kept 19 = .ok (.if_icmp .le 5, 3) := by decide +kernel
theorem d_Mo_kept_22 : decode cc_Mo_kept 22 = .ok (.iconst (-1), 1) := by decide +kernel
theorem d_Mo_kept_23 : decode cc_Mo_kept 23 = .ok (.ireturn, 1) := by decide +kernel
theorem d_Mo_kept_24 : decode cc_Mo_kept 24 = .ok (.iconst 0, 1) := by decide +kernel
theorem d_Mo_kept_25 : decode cc_Mo_kept 25 = .ok (.istore_n 3, 1) := by decide +kernel
theorem d_Mo_kept_26 : decode cc_Mo_kept 26 = .ok (.iconst 0, 1) := by decide +kernel
theorem d_Mo_kept_27 : decode cc_Mo_kept 27 = .ok (.istore 4, 2) := by decide +kernel
theorem d_Mo_kept_29 : decode cc_Mo_kept 29 = .ok (.iload 4, 2) := by decide +kernel
theorem d_Mo_kept_31 : decode cc_Mo_kept 31 = .ok (.aload_n 0, 1) := by decide +kernel
theorem d_Mo_kept_32 : decode cc_Mo_kept 32 = .ok (.getfield 45, 3) := by decide +kernel
theorem d_Mo_kept_35 : decode cc_Mo_kept 35 = .ok (.iload_n 1, 1) := by decide +kernel
theorem d_Mo_kept_36 : decode cc_Mo_kept 36 = .ok (.iaload, 1) := by decide +kernel
theorem d_Mo_kept_37 : decode cc_Mo_kept 37 = .ok (.if_icmp .ge 31, 3) := by decide +kernel
theorem d_Mo_kept_40 : decode cc_Mo_kept 40 = .ok (.iload_n 3, 1) := by decide +kernel
theorem d_Mo_kept_41 : decode cc_Mo_kept 41 = .ok (.iload_n 2, 1) := by decide +kernel
theorem d_Mo_kept_42 : decode cc_Mo_kept 42 = .ok (.ifCond .eq 13, 3) := by decide +kernel
theorem d_Mo_kept_45 : decode cc_Mo_kept 45 = .ok (.aload_n 0, 1) := by decide +kernel
theorem d_Mo_kept_46 : decode cc_Mo_kept 46 = .ok (.iload_n 1, 1) := by decide +kernel
theorem d_Mo_kept_47 : decode cc_Mo_kept 47 = .ok (.iload 4, 2) := by decide +kernel
theorem d_Mo_kept_49 : decode cc_Mo_kept 49 = .ok (.invokevirtual 130, 3) := by decide +kernel
theorem d_Mo_kept_52 : decode cc_Mo_kept 52 = .ok (.ifCond .ne 7, 3) := by decide +kernel
theorem d_Mo_kept_55 : decode cc_Mo_kept 55 = .ok (.iconst 1, 1) := by decide +kernel
theorem d_Mo_kept_56 : decode cc_Mo_kept 56 = .ok (.goto 4, 3) := by decide +kernel
theorem d_Mo_kept_59 : decode cc_Mo_kept 59 = .ok (.iconst 0, 1) := by decide +kernel
theorem d_Mo_kept_60 : decode cc_Mo_kept 60 = .ok (.iadd, 1) := by decide +kernel
theorem d_Mo_kept_61 : decode cc_Mo_kept 61 = .ok (.istore_n 3, 1) := by decide +kernel
theorem d_Mo_kept_62 : decode cc_Mo_kept 62 = .ok (.iinc 4 1, 3) := by decide +kernel
theorem d_Mo_kept_65 : decode cc_Mo_kept 65 = .ok (.goto (-36), 3) := by decide +kernel
theorem d_Mo_kept_68 : decode cc_Mo_kept 68 = .ok (.iload_n 3, 1) := by decide +kernel
theorem d_Mo_kept_69 : decode cc_Mo_kept 69 = .ok (.ireturn, 1) := by decide +kernel
theorem d_Mo_shareOf_0 : decode cc_Mo_shareOf 0 = .ok (.iconst 0, 1) := by decide +kernel
theorem d_Mo_shareOf_1 : decode cc_Mo_shareOf 1 = .ok (.istore_n 2, 1) := by decide +kernel
theorem d_Mo_shareOf_2 : decode cc_Mo_shareOf 2 = .ok (.iconst 0, 1) := by decide +kernel
theorem d_Mo_shareOf_3 : decode cc_Mo_shareOf 3 = .ok (.istore_n 3, 1) := by decide +kernel
theorem d_Mo_shareOf_4 : decode cc_Mo_shareOf 4 = .ok (.iload_n 3, 1) := by decide +kernel
theorem d_Mo_shareOf_5 : decode cc_Mo_shareOf 5 = .ok (.aload_n 0, 1) := by decide +kernel
theorem d_Mo_shareOf_6 : decode cc_Mo_shareOf 6 = .ok (.getfield 91, 3) := by decide +kernel
theorem d_Mo_shareOf_9 : decode cc_Mo_shareOf 9 = .ok (.if_icmp .ge 36, 3) := by decide +kernel
theorem d_Mo_shareOf_12 : decode cc_Mo_shareOf 12 = .ok (.iload_n 2, 1) := by decide +kernel
theorem d_Mo_shareOf_13 : decode cc_Mo_shareOf 13 = .ok (.aload_n 0, 1) := by decide +kernel
theorem d_Mo_shareOf_14 : decode cc_Mo_shareOf 14 = .ok (.getfield 20, 3) := by decide +kernel
theorem d_Mo_shareOf_17 : decode cc_Mo_shareOf 17 = .ok (.iload_n 3, 1) := by decide +kernel
theorem d_Mo_shareOf_18 : decode cc_Mo_shareOf 18 = .ok (.baload, 1) := by decide +kernel
theorem d_Mo_shareOf_19 : decode cc_Mo_shareOf 19 = .ok (.ifCond .eq 17, 3) := by decide +kernel
theorem d_Mo_shareOf_22 : decode cc_Mo_shareOf 22 = .ok (.aload_n 0, 1) := by decide +kernel
theorem d_Mo_shareOf_23 : decode cc_Mo_shareOf 23 = .ok (.getfield 66, 3) := by decide +kernel
theorem d_Mo_shareOf_26 : decode cc_Mo_shareOf 26 = .ok (.bipush 20, 2) := by decide +kernel
theorem d_Mo_shareOf_28 : decode cc_Mo_shareOf 28 = .ok (.iload_n 1, 1) := by decide +kernel
theorem d_Mo_shareOf_29 : decode cc_Mo_shareOf 29 = .ok (.imul, 1) := by decide +kernel
theorem d_Mo_shareOf_30 : decode cc_Mo_shareOf 30 = .ok (.iload_n 3, 1) := by decide +kernel
theorem d_Mo_shareOf_31 : decode cc_Mo_shareOf 31 = .ok (.iadd, 1) := by decide +kernel
theorem d_Mo_shareOf_32 : decode cc_Mo_shareOf 32 = .ok (.iaload, 1) := by decide +kernel
theorem d_Mo_shareOf_33 : decode cc_Mo_shareOf 33 = .ok (.goto 4, 3) := by decide +kernel
theorem d_Mo_shareOf_36 : decode cc_Mo_shareOf 36 = .ok (.iconst 0, 1) := by decide +kernel
theorem d_Mo_shareOf_37 : decode cc_Mo_shareOf 37 = .ok (.iadd, 1) := by decide +kernel
theorem d_Mo_shareOf_38 : decode cc_Mo_shareOf 38 = .ok (.istore_n 2, 1) := by decide +kernel
theorem d_Mo_shareOf_39 : decode cc_Mo_shareOf 39 = .ok (.iinc 3 1, 3) := by decide +kernel
theorem d_Mo_shareOf_42 : decode cc_Mo_shareOf 42 = .ok (.goto (-38), 3) := by decide +kernel
theorem d_Mo_shareOf_45 : decode cc_Mo_shareOf 45 = .ok (.iload_n 2, 1) := by decide +kernel
theorem d_Mo_shareOf_46 : decode cc_Mo_shareOf 46 = .ok (.ireturn, 1) := by decide +kernel
theorem d_Mo_take_0 : decode cc_Mo_take 0 = .ok (.aload_n 0, 1) := by decide +kernel
theorem d_Mo_take_1 : decode cc_Mo_take 1 = .ok (.getfield 69, 3) := by decide +kernel
theorem d_Mo_take_4 : decode cc_Mo_take 4 = .ok (.aload_n 0, 1) := by decide +kernel
theorem d_Mo_take_5 : decode cc_Mo_take 5 = .ok (.getfield 138, 3) := by decide +kernel
theorem d_Mo_take_8 : decode cc_Mo_take 8 = .ok (.iload_n 1, 1) := by decide +kernel
theorem d_Mo_take_9 : decode cc_Mo_take 9 = .ok (.iastore, 1) := by decide +kernel
theorem d_Mo_take_10 : decode cc_Mo_take 10 = .ok (.aload_n 0, 1) := by decide +kernel
theorem d_Mo_take_11 : decode cc_Mo_take 11 = .ok (.getfield 72, 3) := by decide +kernel
theorem d_Mo_take_14 : decode cc_Mo_take 14 = .ok (.iload_n 1, 1) := by decide +kernel
theorem d_Mo_take_15 : decode cc_Mo_take 15 = .ok (.iconst 1, 1) := by decide +kernel
theorem d_Mo_take_16 : decode cc_Mo_take 16 = .ok (.bastore, 1) := by decide +kernel
theorem d_Mo_take_17 : decode cc_Mo_take 17 = .ok (.aload_n 0, 1) := by decide +kernel
theorem d_Mo_take_18 : decode cc_Mo_take 18 = .ok (.dup, 1) := by decide +kernel
theorem d_Mo_take_19 : decode cc_Mo_take 19 = .ok (.getfield 138, 3) := by decide +kernel
theorem d_Mo_take_22 : decode cc_Mo_take 22 = .ok (.iconst 1, 1) := by decide +kernel
theorem d_Mo_take_23 : decode cc_Mo_take 23 = .ok (.iadd, 1) := by decide +kernel
theorem d_Mo_take_24 : decode cc_Mo_take 24 = .ok (.putfield 138, 3) := by decide +kernel
theorem d_Mo_take_27 : decode cc_Mo_take 27 = .ok (.return_, 1) := by decide +kernel
theorem d_Mo_bestOf_0 : decode cc_Mo_bestOf 0 = .ok (.iconst (-1), 1) := by decide +kernel
theorem d_Mo_bestOf_1 : decode cc_Mo_bestOf 1 = .ok (.istore_n 2, 1) := by decide +kernel
theorem d_Mo_bestOf_2 : decode cc_Mo_bestOf 2 = .ok (.iconst 0, 1) := by decide +kernel
theorem d_Mo_bestOf_3 : decode cc_Mo_bestOf 3 = .ok (.istore_n 3, 1) := by decide +kernel
theorem d_Mo_bestOf_4 : decode cc_Mo_bestOf 4 = .ok (.iload_n 3, 1) := by decide +kernel
theorem d_Mo_bestOf_5 : decode cc_Mo_bestOf 5 = .ok (.aload_n 0, 1) := by decide +kernel
theorem d_Mo_bestOf_6 : decode cc_Mo_bestOf 6 = .ok (.getfield 97, 3) := by decide +kernel
theorem d_Mo_bestOf_9 : decode cc_Mo_bestOf 9 = .ok (.if_icmp .ge 65, 3) := by decide +kernel
theorem d_Mo_bestOf_12 : decode cc_Mo_bestOf 12 = .ok (.aload_n 1, 1) := by decide +kernel
theorem d_Mo_bestOf_13 : decode cc_Mo_bestOf 13 = .ok (.iload_n 3, 1) := by decide +kernel
theorem d_Mo_bestOf_14 : decode cc_Mo_bestOf 14 = .ok (.baload, 1) := by decide +kernel
theorem d_Mo_bestOf_15 : decode cc_Mo_bestOf 15 = .ok (.ifCond .ne 53, 3) := by decide +kernel
theorem d_Mo_bestOf_18 : decode cc_Mo_bestOf 18 = .ok (.aload_n 0, 1) := by decide +kernel
theorem d_Mo_bestOf_19 : decode cc_Mo_bestOf 19 = .ok (.iload_n 3, 1) := by decide +kernel
theorem d_Mo_bestOf_20 : decode cc_Mo_bestOf 20 = .ok (.invokevirtual 141, 3) := by decide +kernel
theorem d_Mo_bestOf_23 : decode cc_Mo_bestOf 23 = .ok (.ifCond .ne 6, 3) := by decide +kernel
theorem d_Mo_bestOf_26 : decode cc_Mo_bestOf 26 = .ok (.goto 42, 3) := by decide +kernel
theorem d_Mo_bestOf_29 : decode cc_Mo_bestOf 29 = .ok (.iload_n 2, 1) := by decide +kernel
theorem d_Mo_bestOf_30 : decode cc_Mo_bestOf 30 = .ok (.iconst (-1), 1) := by decide +kernel
theorem d_Mo_bestOf_31 : decode cc_Mo_bestOf 31 = .ok (.if_icmp .eq 35, 3) := by decide +kernel
theorem d_Mo_bestOf_34 : decode cc_Mo_bestOf 34 = .ok (.aload_n 0, 1) := by decide +kernel
theorem d_Mo_bestOf_35 : decode cc_Mo_bestOf 35 = .ok (.iload_n 3, 1) := by decide +kernel
theorem d_Mo_bestOf_36 : decode cc_Mo_bestOf 36 = .ok (.invokevirtual 141, 3) := by decide +kernel
theorem d_Mo_bestOf_39 : decode cc_Mo_bestOf 39 = .ok (.i2l, 1) := by decide +kernel
theorem d_Mo_bestOf_40 : decode cc_Mo_bestOf 40 = .ok (.aload_n 0, 1) := by decide +kernel
theorem d_Mo_bestOf_41 : decode cc_Mo_bestOf 41 = .ok (.getfield 27, 3) := by decide +kernel
theorem d_Mo_bestOf_44 : decode cc_Mo_bestOf 44 = .ok (.iload_n 2, 1) := by decide +kernel
theorem d_Mo_bestOf_45 : decode cc_Mo_bestOf 45 = .ok (.iaload, 1) := by decide +kernel
theorem d_Mo_bestOf_46 : decode cc_Mo_bestOf 46 = .ok (.i2l, 1) := by decide +kernel
theorem d_Mo_bestOf_47 : decode cc_Mo_bestOf 47 = .ok (.lmul, 1) := by decide +kernel
theorem d_Mo_bestOf_48 : decode cc_Mo_bestOf 48 = .ok (.aload_n 0, 1) := by decide +kernel
theorem d_Mo_bestOf_49 : decode cc_Mo_bestOf 49 = .ok (.iload_n 2, 1) := by decide +kernel
theorem d_Mo_bestOf_50 : decode cc_Mo_bestOf 50 = .ok (.invokevirtual 141, 3) := by decide +kernel
theorem d_Mo_bestOf_53 : decode cc_Mo_bestOf 53 = .ok (.i2l, 1) := by decide +kernel
theorem d_Mo_bestOf_54 : decode cc_Mo_bestOf 54 = .ok (.aload_n 0, 1) := by decide +kernel
theorem d_Mo_bestOf_55 : decode cc_Mo_bestOf 55 = .ok (.getfield 27, 3) := by decide +kernel
theorem d_Mo_bestOf_58 : decode cc_Mo_bestOf 58 = .ok (.iload_n 3, 1) := by decide +kernel
theorem d_Mo_bestOf_59 : decode cc_Mo_bestOf 59 = .ok (.iaload, 1) := by decide +kernel
theorem d_Mo_bestOf_60 : decode cc_Mo_bestOf 60 = .ok (.i2l, 1) := by decide +kernel
theorem d_Mo_bestOf_61 : decode cc_Mo_bestOf 61 = .ok (.lmul, 1) := by decide +kernel
theorem d_Mo_bestOf_62 : decode cc_Mo_bestOf 62 = .ok (.lcmp, 1) := by decide +kernel
theorem d_Mo_bestOf_63 : decode cc_Mo_bestOf 63 = .ok (.ifCond .le 5, 3) := by decide +kernel
theorem d_Mo_bestOf_66 : decode cc_Mo_bestOf 66 = .ok (.iload_n 3, 1) := by decide +kernel
theorem d_Mo_bestOf_67 : decode cc_Mo_bestOf 67 = .ok (.istore_n 2, 1) := by decide +kernel
theorem d_Mo_bestOf_68 : decode cc_Mo_bestOf 68 = .ok (.iinc 3 1, 3) := by decide +kernel
theorem d_Mo_bestOf_71 : decode cc_Mo_bestOf 71 = .ok (.goto (-67), 3) := by decide +kernel
theorem d_Mo_bestOf_74 : decode cc_Mo_bestOf 74 = .ok (.iload_n 2, 1) := by decide +kernel
theorem d_Mo_bestOf_75 : decode cc_Mo_bestOf 75 = .ok (.ireturn, 1) := by decide +kernel
theorem d_Mo_select_0 : decode cc_Mo_select 0 = .ok (.aload_n 0, 1) := by decide +kernel
theorem d_Mo_select_1 : decode cc_Mo_select 1 = .ok (.iconst 0, 1) := by decide +kernel
theorem d_Mo_select_2 : decode cc_Mo_select 2 = .ok (.putfield 87, 3) := by decide +kernel
theorem d_Mo_select_5 : decode cc_Mo_select 5 = .ok (.iload_n 1, 1) := by decide +kernel
theorem d_Mo_select_6 : decode cc_Mo_select 6 = .ok (.ifCond .lt 9, 3) := by decide +kernel
theorem d_Mo_select_9 : decode cc_Mo_select 9 = .ok (.iload_n 1, 1) := by decide +kernel
theorem d_Mo_select_10 : decode cc_Mo_select 10 = .ok (.ldc 144, 2) := by decide +kernel
theorem d_Mo_select_12 : decode cc_Mo_select 12 = .ok (.if_icmp .le 5, 3) := by decide +kernel
theorem d_Mo_select_15 : decode cc_Mo_select 15 = .ok (.iconst (-1), 1) := by decide +kernel
theorem d_Mo_select_16 : decode cc_Mo_select 16 = .ok (.ireturn, 1) := by decide +kernel
theorem d_Mo_select_17 : decode cc_Mo_select 17 = .ok (.aload_n 0, 1) := by decide +kernel
theorem d_Mo_select_18 : decode cc_Mo_select 18 = .ok (.iconst 0, 1) := by decide +kernel
theorem d_Mo_select_19 : decode cc_Mo_select 19 = .ok (.putfield 138, 3) := by decide +kernel
theorem d_Mo_select_22 : decode cc_Mo_select 22 = .ok (.iconst 0, 1) := by decide +kernel
theorem d_Mo_select_23 : decode cc_Mo_select 23 = .ok (.istore_n 2, 1) := by decide +kernel
theorem d_Mo_select_24 : decode cc_Mo_select 24 = .ok (.iload_n 2, 1) := by decide +kernel
theorem d_Mo_select_25 : decode cc_Mo_select 25 = .ok (.bipush 24, 2) := by decide +kernel
theorem d_Mo_select_27 : decode cc_Mo_select 27 = .ok (.if_icmp .ge 23, 3) := by decide +kernel
theorem d_Mo_select_30 : decode cc_Mo_select 30 = .ok (.aload_n 0, 1) := by decide +kernel
theorem d_Mo_select_31 : decode cc_Mo_select 31 = .ok (.getfield 72, 3) := by decide +kernel
theorem d_Mo_select_34 : decode cc_Mo_select 34 = .ok (.iload_n 2, 1) := by decide +kernel
theorem d_Mo_select_35 : decode cc_Mo_select 35 = .ok (.iconst 0, 1) := by decide +kernel
theorem d_Mo_select_36 : decode cc_Mo_select 36 = .ok (.bastore, 1) := by decide +kernel
theorem d_Mo_select_37 : decode cc_Mo_select 37 = .ok (.aload_n 0, 1) := by decide +kernel
theorem d_Mo_select_38 : decode cc_Mo_select 38 = .ok (.getfield 84, 3) := by decide +kernel
theorem d_Mo_select_41 : decode cc_Mo_select 41 = .ok (.iload_n 2, 1) := by decide +kernel
theorem d_Mo_select_42 : decode cc_Mo_select 42 = .ok (.iconst 0, 1) := by decide +kernel
theorem d_Mo_select_43 : decode cc_Mo_select 43 = .ok (.bastore, 1) := by decide +kernel
theorem d_Mo_select_44 : decode cc_Mo_select 44 = .ok (.iinc 2 1, 3) := by decide +kernel
theorem d_Mo_select_47 : decode cc_Mo_select 47 = .ok (.goto (-23), 3) := by decide +kernel
theorem d_Mo_select_50 : decode cc_Mo_select 50 = .ok (.iconst 0, 1) := by decide +kernel
theorem d_Mo_select_51 : decode cc_Mo_select 51 = .ok (.istore_n 2, 1) := by decide +kernel
theorem d_Mo_select_52 : decode cc_Mo_select 52 = .ok (.iload_n 2, 1) := by decide +kernel
theorem d_Mo_select_53 : decode cc_Mo_select 53 = .ok (.aload_n 0, 1) := by decide +kernel
theorem d_Mo_select_54 : decode cc_Mo_select 54 = .ok (.getfield 97, 3) := by decide +kernel
theorem d_Mo_select_57 : decode cc_Mo_select 57 = .ok (.if_icmp .ge 29, 3) := by decide +kernel
theorem d_Mo_select_60 : decode cc_Mo_select 60 = .ok (.aload_n 0, 1) := by decide +kernel
theorem d_Mo_select_61 : decode cc_Mo_select 61 = .ok (.iload_n 2, 1) := by decide +kernel
theorem d_Mo_select_62 : decode cc_Mo_select 62 = .ok (.invokevirtual 134, 3) := by decide +kernel
theorem d_Mo_select_65 : decode cc_Mo_select 65 = .ok (.ifCond .le 15, 3) := by decide +kernel
theorem d_Mo_select_68 : decode cc_Mo_select 68 = .ok (.aload_n 0, 1) := by decide +kernel
theorem d_Mo_select_69 : decode cc_Mo_select 69 = .ok (.iload_n 2, 1) := by decide +kernel
theorem d_Mo_select_70 : decode cc_Mo_select 70 = .ok (.invokevirtual 145, 3) := by decide +kernel
theorem d_Mo_select_73 : decode cc_Mo_select 73 = .ok (.aload_n 0, 1) := by decide +kernel
theorem d_Mo_select_74 : decode cc_Mo_select 74 = .ok (.getfield 84, 3) := by decide +kernel
theorem d_Mo_select_77 : decode cc_Mo_select 77 = .ok (.iload_n 2, 1) := by decide +kernel
theorem d_Mo_select_78 : decode cc_Mo_select 78 = .ok (.iconst 1, 1) := by decide +kernel
theorem d_Mo_select_79 : decode cc_Mo_select 79 = .ok (.bastore, 1) := by decide +kernel
theorem d_Mo_select_80 : decode cc_Mo_select 80 = .ok (.iinc 2 1, 3) := by decide +kernel
theorem d_Mo_select_83 : decode cc_Mo_select 83 = .ok (.goto (-31), 3) := by decide +kernel
theorem d_Mo_select_86 : decode cc_Mo_select 86 = .ok (.iload_n 1, 1) := by decide +kernel
theorem d_Mo_select_87 : decode cc_Mo_select 87 = .ok (.istore_n 2, 1) := by decide +kernel
theorem d_Mo_select_88 : decode cc_Mo_select 88 = .ok (.aload_n 0, 1) := by decide +kernel
theorem d_Mo_select_89 : decode cc_Mo_select 89 = .ok (.aload_n 0, 1) := by decide +kernel
theorem d_Mo_select_90 : decode cc_Mo_select 90 = .ok (.getfield 84, 3) := by decide +kernel
theorem d_Mo_select_93 : decode cc_Mo_select 93 = .ok (.invokevirtual 148, 3) := by decide +kernel
theorem d_Mo_select_96 : decode cc_Mo_select 96 = .ok (.istore_n 3, 1) := by decide +kernel
theorem d_Mo_select_97 : decode cc_Mo_select 97 = .ok (.iload_n 3, 1) := by decide +kernel
theorem d_Mo_select_98 : decode cc_Mo_select 98 = .ok (.iconst (-1), 1) := by decide +kernel
theorem d_Mo_select_99 : decode cc_Mo_select 99 = .ok (.if_icmp .eq 46, 3) := by decide +kernel
theorem d_Mo_select_102 : decode cc_Mo_select 102 = .ok (.aload_n 0, 1) := by decide +kernel
theorem d_Mo_select_103 : decode cc_Mo_select 103 = .ok (.getfield 84, 3) := by decide +kernel
theorem d_Mo_select_106 : decode cc_Mo_select 106 = .ok (.iload_n 3, 1) := by decide +kernel
theorem d_Mo_select_107 : decode cc_Mo_select 107 = .ok (.iconst 1, 1) := by decide +kernel
theorem d_Mo_select_108 : decode cc_Mo_select 108 = .ok (.bastore, 1) := by decide +kernel
theorem d_Mo_select_109 : decode cc_Mo_select 109 = .ok (.aload_n 0, 1) := by decide +kernel
theorem d_Mo_select_110 : decode cc_Mo_select 110 = .ok (.getfield 27, 3) := by decide +kernel
theorem d_Mo_select_113 : decode cc_Mo_select 113 = .ok (.iload_n 3, 1) := by decide +kernel
theorem d_Mo_select_114 : decode cc_Mo_select 114 = .ok (.iaload, 1) := by decide +kernel
theorem d_Mo_select_115 : decode cc_Mo_select 115 = .ok (.iload_n 2, 1) := by decide +kernel
theorem d_Mo_select_116 : decode cc_Mo_select 116 = .ok (.if_icmp .gt 17, 3) := by decide +kernel
theorem d_Mo_select_119 : decode cc_Mo_select 119 = .ok (.iload_n 2, 1) := by decide +kernel
theorem d_Mo_select_120 : decode cc_Mo_select 120 = .ok (.aload_n 0, 1) := by decide +kernel
theorem d_Mo_select_121 : decode cc_Mo_select 121 = .ok (.getfield 27, 3) := by decide +kernel
theorem d_Mo_select_124 : decode cc_Mo_select 124 = .ok (.iload_n 3, 1) := by decide +kernel
theorem d_Mo_select_125 : decode cc_Mo_select 125 = .ok (.iaload, 1) := by decide +kernel
theorem d_Mo_select_126 : decode cc_Mo_select 126 = .ok (.isub, 1) := by decide +kernel
theorem d_Mo_select_127 : decode cc_Mo_select 127 = .ok (.istore_n 2, 1) := by decide +kernel
theorem d_Mo_select_128 : decode cc_Mo_select 128 = .ok (.aload_n 0, 1) := by decide +kernel
theorem d_Mo_select_129 : decode cc_Mo_select 129 = .ok (.iload_n 3, 1) := by decide +kernel
theorem d_Mo_select_130 : decode cc_Mo_select 130 = .ok (.invokevirtual 145, 3) := by decide +kernel
theorem d_Mo_select_133 : decode cc_Mo_select 133 = .ok (.aload_n 0, 1) := by decide +kernel
theorem d_Mo_select_134 : decode cc_Mo_select 134 = .ok (.aload_n 0, 1) := by decide +kernel
theorem d_Mo_select_135 : decode cc_Mo_select 135 = .ok (.getfield 84, 3) := by decide +kernel
theorem d_Mo_select_138 : decode cc_Mo_select 138 = .ok (.invokevirtual 148, 3) := by decide +kernel
theorem d_Mo_select_141 : decode cc_Mo_select 141 = .ok (.istore_n 3, 1) := by decide +kernel
theorem d_Mo_select_142 : decode cc_Mo_select 142 = .ok (.goto (-45), 3) := by decide +kernel
theorem d_Mo_select_145 : decode cc_Mo_select 145 = .ok (.iconst 0, 1) := by decide +kernel
theorem d_Mo_select_146 : decode cc_Mo_select 146 = .ok (.istore 4, 2) := by decide +kernel
theorem d_Mo_select_148 : decode cc_Mo_select 148 = .ok (.iload 4, 2) := by decide +kernel
theorem d_Mo_select_150 : decode cc_Mo_select 150 = .ok (.bipush 20, 2) := by decide +kernel
theorem d_Mo_select_152 : decode cc_Mo_select 152 = .ok (.if_icmp .ge 31, 3) := by decide +kernel
theorem d_Mo_select_155 : decode cc_Mo_select 155 = .ok (.aload_n 0, 1) := by decide +kernel
theorem d_Mo_select_156 : decode cc_Mo_select 156 = .ok (.getfield 75, 3) := by decide +kernel
theorem d_Mo_select_159 : decode cc_Mo_select 159 = .ok (.iload 4, 2) := by decide +kernel
theorem d_Mo_select_161 : decode cc_Mo_select 161 = .ok (.aload_n 0, 1) := by decide +kernel
theorem d_Mo_select_162 : decode cc_Mo_select 162 = .ok (.getfield 20, 3) := by decide +kernel
theorem d_Mo_select_165 : decode cc_Mo_select 165 = .ok (.iload 4, 2) := by decide +kernel
theorem d_Mo_select_167 : decode cc_Mo_select 167 = .ok (.baload, 1) := by decide +kernel
theorem d_Mo_select_168 : decode cc_Mo_select 168 = .ok (.bastore, 1) := by decide +kernel
theorem d_Mo_select_169 : decode cc_Mo_select 169 = .ok (.aload_n 0, 1) := by decide +kernel
theorem d_Mo_select_170 : decode cc_Mo_select 170 = .ok (.getfield 20, 3) := by decide +kernel
theorem d_Mo_select_173 : decode cc_Mo_select 173 = .ok (.iload 4, 2) := by decide +kernel
theorem d_Mo_select_175 : decode cc_Mo_select 175 = .ok (.iconst 0, 1) := by decide +kernel
theorem d_Mo_select_176 : decode cc_Mo_select 176 = .ok (.bastore, 1) := by decide +kernel
theorem d_Mo_select_177 : decode cc_Mo_select 177 = .ok (.iinc 4 1, 3) := by decide +kernel
theorem d_Mo_select_180 : decode cc_Mo_select 180 = .ok (.goto (-32), 3) := by decide +kernel
theorem d_Mo_select_183 : decode cc_Mo_select 183 = .ok (.aload_n 0, 1) := by decide +kernel
theorem d_Mo_select_184 : decode cc_Mo_select 184 = .ok (.dup, 1) := by decide +kernel
theorem d_Mo_select_185 : decode cc_Mo_select 185 = .ok (.getfield 114, 3) := by decide +kernel
theorem d_Mo_select_188 : decode cc_Mo_select 188 = .ok (.iconst 1, 1) := by decide +kernel
theorem d_Mo_select_189 : decode cc_Mo_select 189 = .ok (.iadd, 1) := by decide +kernel
theorem d_Mo_select_190 : decode cc_Mo_select 190 = .ok (.putfield 114, 3) := by decide +kernel
theorem d_Mo_select_193 : decode cc_Mo_select 193 = .ok (.aload_n 0, 1) := by decide +kernel
theorem d_Mo_select_194 : decode cc_Mo_select 194 = .ok (.getfield 138, 3) := by decide +kernel
theorem d_Mo_select_197 : decode cc_Mo_select 197 = .ok (.ireturn, 1) := by decide +kernel
theorem d_Mo_at_0 : decode cc_Mo_at 0 = .ok (.aload_n 0, 1) := by decide +kernel
theorem d_Mo_at_1 : decode cc_Mo_at 1 = .ok (.iconst 0, 1) := by decide +kernel
theorem d_Mo_at_2 : decode cc_Mo_at 2 = .ok (.putfield 87, 3) := by decide +kernel
theorem d_Mo_at_5 : decode cc_Mo_at 5 = .ok (.iload_n 1, 1) := by decide +kernel
theorem d_Mo_at_6 : decode cc_Mo_at 6 = .ok (.ifCond .lt 20, 3) := by decide +kernel
theorem d_Mo_at_9 : decode cc_Mo_at 9 = .ok (.iload_n 1, 1) := by decide +kernel
theorem d_Mo_at_10 : decode cc_Mo_at 10 = .ok (.aload_n 0, 1) := by decide +kernel
theorem d_Mo_at_11 : decode cc_Mo_at 11 = .ok (.getfield 138, 3) := by decide +kernel
theorem d_Mo_at_14 : decode cc_Mo_at 14 = .ok (.if_icmp .ge 12, 3) := by decide +kernel
theorem d_Mo_at_17 : decode cc_Mo_at 17 = .ok (.aload_n 0, 1) := by decide +kernel
theorem d_Mo_at_18 : decode cc_Mo_at 18 = .ok (.getfield 69, 3) := by decide +kernel
theorem d_Mo_at_21 : decode cc_Mo_at 21 = .ok (.iload_n 1, 1) := by decide +kernel
theorem d_Mo_at_22 : decode cc_Mo_at 22 = .ok (.iaload, 1) := by decide +kernel
theorem d_Mo_at_23 : decode cc_Mo_at 23 = .ok (.goto 4, 3) := by decide +kernel
theorem d_Mo_at_26 : decode cc_Mo_at 26 = .ok (.iconst (-1), 1) := by decide +kernel
theorem d_Mo_at_27 : decode cc_Mo_at 27 = .ok (.ireturn, 1) := by decide +kernel
theorem d_Mo_share_0 : decode cc_Mo_share 0 = .ok (.aload_n 0, 1) := by decide +kernel
theorem d_Mo_share_1 : decode cc_Mo_share 1 = .ok (.iconst 0, 1) := by decide +kernel
theorem d_Mo_share_2 : decode cc_Mo_share 2 = .ok (.putfield 87, 3) := by decide +kernel
theorem d_Mo_share_5 : decode cc_Mo_share 5 = .ok (.aload_n 0, 1) := by decide +kernel
theorem d_Mo_share_6 : decode cc_Mo_share 6 = .ok (.iload_n 1, 1) := by decide +kernel
theorem d_Mo_share_7 : decode cc_Mo_share 7 = .ok (.invokevirtual 107, 3) := by decide +kernel
theorem d_Mo_share_10 : decode cc_Mo_share 10 = .ok (.ifCond .eq 11, 3) := by decide +kernel
theorem d_Mo_share_13 : decode cc_Mo_share 13 = .ok (.aload_n 0, 1) := by decide +kernel
theorem d_Mo_share_14 : decode cc_Mo_share 14 = .ok (.iload_n 1, 1) := by decide +kernel
theorem d_Mo_share_15 : decode cc_Mo_share 15 = .ok (.invokevirtual 141, 3) := by decide +kernel
theorem d_Mo_share_18 : decode cc_Mo_share 18 = .ok (.goto 4, 3) := by decide +kernel
theorem d_Mo_share_21 : decode cc_Mo_share 21 = .ok (.iconst (-1), 1) := by decide +kernel
theorem d_Mo_share_22 : decode cc_Mo_share 22 = .ok (.ireturn, 1) := by decide +kernel
theorem d_Mo_together_0 : decode cc_Mo_together 0 = .ok (.aload_n 0, 1) := by decide +kernel
theorem d_Mo_together_1 : decode cc_Mo_together 1 = .ok (.iconst 0, 1) := by decide +kernel
theorem d_Mo_together_2 : decode cc_Mo_together 2 = .ok (.putfield 87, 3) := by decide +kernel
theorem d_Mo_together_5 : decode cc_Mo_together 5 = .ok (.aload_n 0, 1) := by decide +kernel
theorem d_Mo_together_6 : decode cc_Mo_together 6 = .ok (.iload_n 1, 1) := by decide +kernel
theorem d_Mo_together_7 : decode cc_Mo_together 7 = .ok (.invokevirtual 107, 3) := by decide +kernel
theorem d_Mo_together_10 : decode cc_Mo_together 10 = .ok (.ifCond .eq 25, 3) := by decide +kernel
theorem d_Mo_together_13 : decode cc_Mo_together 13 = .ok (.aload_n 0, 1) := by decide +kernel
theorem d_Mo_together_14 : decode cc_Mo_together 14 = .ok (.iload_n 2, 1) := by decide +kernel
theorem d_Mo_together_15 : decode cc_Mo_together 15 = .ok (.invokevirtual 100, 3) := by decide +kernel
theorem d_Mo_together_18 : decode cc_Mo_together 18 = .ok (.ifCond .eq 17, 3) := by decide +kernel
theorem d_Mo_together_21 : decode cc_Mo_together 21 = .ok (.aload_n 0, 1) := by decide +kernel
theorem d_Mo_together_22 : decode cc_Mo_together 22 = .ok (.getfield 66, 3) := by decide +kernel
theorem d_Mo_together_25 : decode cc_Mo_together 25 = .ok (.bipush 20, 2) := by decide +kernel
theorem d_Mo_together_27 : decode cc_Mo_together 27 = .ok (.iload_n 1, 1) := by decide +kernel
theorem d_Mo_together_28 : decode cc_Mo_together 28 = .ok (.imul, 1) := by decide +kernel
theorem d_Mo_together_29 : decode cc_Mo_together 29 = .ok (.iload_n 2, 1) := by decide +kernel
theorem d_Mo_together_30 : decode cc_Mo_together 30 = .ok (.iadd, 1) := by decide +kernel
theorem d_Mo_together_31 : decode cc_Mo_together 31 = .ok (.iaload, 1) := by decide +kernel
theorem d_Mo_together_32 : decode cc_Mo_together 32 = .ok (.goto 4, 3) := by decide +kernel
theorem d_Mo_together_35 : decode cc_Mo_together 35 = .ok (.iconst (-1), 1) := by decide +kernel
theorem d_Mo_together_36 : decode cc_Mo_together 36 = .ok (.ireturn, 1) := by decide +kernel
theorem d_Mo_touched_0 : decode cc_Mo_touched 0 = .ok (.aload_n 0, 1) := by decide +kernel
theorem d_Mo_touched_1 : decode cc_Mo_touched 1 = .ok (.iconst 0, 1) := by decide +kernel
theorem d_Mo_touched_2 : decode cc_Mo_touched 2 = .ok (.putfield 87, 3) := by decide +kernel
theorem d_Mo_touched_5 : decode cc_Mo_touched 5 = .ok (.aload_n 0, 1) := by decide +kernel
theorem d_Mo_touched_6 : decode cc_Mo_touched 6 = .ok (.iload_n 1, 1) := by decide +kernel
theorem d_Mo_touched_7 : decode cc_Mo_touched 7 = .ok (.invokevirtual 100, 3) := by decide +kernel
theorem d_Mo_touched_10 : decode cc_Mo_touched 10 = .ok (.ifCond .eq 16, 3) := by decide +kernel
theorem d_Mo_touched_13 : decode cc_Mo_touched 13 = .ok (.aload_n 0, 1) := by decide +kernel
theorem d_Mo_touched_14 : decode cc_Mo_touched 14 = .ok (.getfield 20, 3) := by decide +kernel
theorem d_Mo_touched_17 : decode cc_Mo_touched 17 = .ok (.iload_n 1, 1) := by decide +kernel
theorem d_Mo_touched_18 : decode cc_Mo_touched 18 = .ok (.baload, 1) := by decide +kernel
theorem d_Mo_touched_19 : decode cc_Mo_touched 19 = .ok (.ifCond .eq 7, 3) := by decide +kernel
theorem d_Mo_touched_22 : decode cc_Mo_touched 22 = .ok (.iconst 1, 1) := by decide +kernel
theorem d_Mo_touched_23 : decode cc_Mo_touched 23 = .ok (.goto 4, 3) := by decide +kernel
theorem d_Mo_touched_26 : decode cc_Mo_touched 26 = .ok (.iconst 0, 1) := by decide +kernel
theorem d_Mo_touched_27 : decode cc_Mo_touched 27 = .ok (.ireturn, 1) := by decide +kernel
theorem d_Mo_missed_0 : decode cc_Mo_missed 0 = .ok (.aload_n 0, 1) := by decide +kernel
theorem d_Mo_missed_1 : decode cc_Mo_missed 1 = .ok (.iconst 0, 1) := by decide +kernel
theorem d_Mo_missed_2 : decode cc_Mo_missed 2 = .ok (.putfield 87, 3) := by decide +kernel
theorem d_Mo_missed_5 : decode cc_Mo_missed 5 = .ok (.iload_n 1, 1) := by decide +kernel
theorem d_Mo_missed_6 : decode cc_Mo_missed 6 = .ok (.ifCond .lt 20, 3) := by decide +kernel
theorem d_Mo_missed_9 : decode cc_Mo_missed 9 = .ok (.iload_n 1, 1) := by decide +kernel
theorem d_Mo_missed_10 : decode cc_Mo_missed 10 = .ok (.aload_n 0, 1) := by decide +kernel
theorem d_Mo_missed_11 : decode cc_Mo_missed 11 = .ok (.getfield 117, 3) := by decide +kernel
theorem d_Mo_missed_14 : decode cc_Mo_missed 14 = .ok (.if_icmp .ge 12, 3) := by decide +kernel
theorem d_Mo_missed_17 : decode cc_Mo_missed 17 = .ok (.iload_n 2, 1) := by decide +kernel
theorem d_Mo_missed_18 : decode cc_Mo_missed 18 = .ok (.ifCond .lt 8, 3) := by decide +kernel
theorem d_Mo_missed_21 : decode cc_Mo_missed 21 = .ok (.iload_n 2, 1) := by decide +kernel
theorem d_Mo_missed_22 : decode cc_Mo_missed 22 = .ok (.iconst 1, 1) := by decide +kernel
theorem d_Mo_missed_23 : decode cc_Mo_missed 23 = .ok (.if_icmp .le 5, 3) := by decide +kernel
theorem d_Mo_missed_26 : decode cc_Mo_missed 26 = .ok (.iconst (-1), 1) := by decide +kernel
theorem d_Mo_missed_27 : decode cc_Mo_missed 27 = .ok (.ireturn, 1) := by decide +kernel
theorem d_Mo_missed_28 : decode cc_Mo_missed 28 = .ok (.iload_n 2, 1) := by decide +kernel
theorem d_Mo_missed_29 : decode cc_Mo_missed 29 = .ok (.ifCond .ne 12, 3) := by decide +kernel
theorem d_Mo_missed_32 : decode cc_Mo_missed 32 = .ok (.aload_n 0, 1) := by decide +kernel
theorem d_Mo_missed_33 : decode cc_Mo_missed 33 = .ok (.getfield 78, 3) := by decide +kernel
theorem d_Mo_missed_36 : decode cc_Mo_missed 36 = .ok (.iload_n 1, 1) := by decide +kernel
theorem d_Mo_missed_37 : decode cc_Mo_missed 37 = .ok (.iaload, 1) := by decide +kernel
theorem d_Mo_missed_38 : decode cc_Mo_missed 38 = .ok (.goto 9, 3) := by decide +kernel
theorem d_Mo_missed_41 : decode cc_Mo_missed 41 = .ok (.aload_n 0, 1) := by decide +kernel
theorem d_Mo_missed_42 : decode cc_Mo_missed 42 = .ok (.getfield 81, 3) := by decide +kernel
theorem d_Mo_missed_45 : decode cc_Mo_missed 45 = .ok (.iload_n 1, 1) := by decide +kernel
theorem d_Mo_missed_46 : decode cc_Mo_missed 46 = .ok (.iaload, 1) := by decide +kernel
theorem d_Mo_missed_47 : decode cc_Mo_missed 47 = .ok (.ireturn, 1) := by decide +kernel
