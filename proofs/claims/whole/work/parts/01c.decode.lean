theorem dX9_init_0 : decode cX9_init 0 = .ok (.aload_n 0, 1) := by decide +kernel
theorem dX9_init_1 : decode cX9_init 1 = .ok (.invokespecial 1, 3) := by decide +kernel
theorem dX9_init_4 : decode cX9_init 4 = .ok (.aload_n 0, 1) := by decide +kernel
theorem dX9_init_5 : decode cX9_init 5 = .ok (.sipush 656, 3) := by decide +kernel
theorem dX9_init_8 : decode cX9_init 8 = .ok (.newarray .long, 2) := by decide +kernel
theorem dX9_init_10 : decode cX9_init 10 = .ok (.putfield 7, 3) := by decide +kernel
theorem dX9_init_13 : decode cX9_init 13 = .ok (.aload_n 0, 1) := by decide +kernel
theorem dX9_init_14 : decode cX9_init 14 = .ok (.sipush 656, 3) := by decide +kernel
theorem dX9_init_17 : decode cX9_init 17 = .ok (.newarray .int, 2) := by decide +kernel
theorem dX9_init_19 : decode cX9_init 19 = .ok (.putfield 13, 3) := by decide +kernel
theorem dX9_init_22 : decode cX9_init 22 = .ok (.aload_n 0, 1) := by decide +kernel
theorem dX9_init_23 : decode cX9_init 23 = .ok (.sipush 15744, 3) := by decide +kernel
theorem dX9_init_26 : decode cX9_init 26 = .ok (.newarray .int, 2) := by decide +kernel
theorem dX9_init_28 : decode cX9_init 28 = .ok (.putfield 17, 3) := by decide +kernel
theorem dX9_init_31 : decode cX9_init 31 = .ok (.aload_n 0, 1) := by decide +kernel
theorem dX9_init_32 : decode cX9_init 32 = .ok (.bipush 24, 2) := by decide +kernel
theorem dX9_init_34 : decode cX9_init 34 = .ok (.newarray .int, 2) := by decide +kernel
theorem dX9_init_36 : decode cX9_init 36 = .ok (.putfield 20, 3) := by decide +kernel
theorem dX9_init_39 : decode cX9_init 39 = .ok (.aload_n 0, 1) := by decide +kernel
theorem dX9_init_40 : decode cX9_init 40 = .ok (.bipush 40, 2) := by decide +kernel
theorem dX9_init_42 : decode cX9_init 42 = .ok (.newarray .int, 2) := by decide +kernel
theorem dX9_init_44 : decode cX9_init 44 = .ok (.putfield 23, 3) := by decide +kernel
theorem dX9_init_47 : decode cX9_init 47 = .ok (.aload_n 0, 1) := by decide +kernel
theorem dX9_init_48 : decode cX9_init 48 = .ok (.bipush 40, 2) := by decide +kernel
theorem dX9_init_50 : decode cX9_init 50 = .ok (.newarray .int, 2) := by decide +kernel
theorem dX9_init_52 : decode cX9_init 52 = .ok (.putfield 26, 3) := by decide +kernel
theorem dX9_init_55 : decode cX9_init 55 = .ok (.aload_n 0, 1) := by decide +kernel
theorem dX9_init_56 : decode cX9_init 56 = .ok (.bipush 40, 2) := by decide +kernel
theorem dX9_init_58 : decode cX9_init 58 = .ok (.newarray .int, 2) := by decide +kernel
theorem dX9_init_60 : decode cX9_init 60 = .ok (.putfield 29, 3) := by decide +kernel
theorem dX9_init_63 : decode cX9_init 63 = .ok (.aload_n 0, 1) := by decide +kernel
theorem dX9_init_64 : decode cX9_init 64 = .ok (.bipush 40, 2) := by decide +kernel
theorem dX9_init_66 : decode cX9_init 66 = .ok (.newarray .boolean, 2) := by decide +kernel
theorem dX9_init_68 : decode cX9_init 68 = .ok (.putfield 32, 3) := by decide +kernel
theorem dX9_init_71 : decode cX9_init 71 = .ok (.aload_n 0, 1) := by decide +kernel
theorem dX9_init_72 : decode cX9_init 72 = .ok (.bipush 40, 2) := by decide +kernel
theorem dX9_init_74 : decode cX9_init 74 = .ok (.newarray .boolean, 2) := by decide +kernel
theorem dX9_init_76 : decode cX9_init 76 = .ok (.putfield 36, 3) := by decide +kernel
theorem dX9_init_79 : decode cX9_init 79 = .ok (.aload_n 0, 1) := by decide +kernel
theorem dX9_init_80 : decode cX9_init 80 = .ok (.bipush 40, 2) := by decide +kernel
theorem dX9_init_82 : decode cX9_init 82 = .ok (.newarray .boolean, 2) := by decide +kernel
theorem dX9_init_84 : decode cX9_init 84 = .ok (.putfield 39, 3) := by decide +kernel
theorem dX9_init_87 : decode cX9_init 87 = .ok (.aload_n 0, 1) := by decide +kernel
theorem dX9_init_88 : decode cX9_init 88 = .ok (.bipush 24, 2) := by decide +kernel
theorem dX9_init_90 : decode cX9_init 90 = .ok (.newarray .int, 2) := by decide +kernel
theorem dX9_init_92 : decode cX9_init 92 = .ok (.putfield 42, 3) := by decide +kernel
theorem dX9_init_95 : decode cX9_init 95 = .ok (.aload_n 0, 1) := by decide +kernel
theorem dX9_init_96 : decode cX9_init 96 = .ok (.bipush 24, 2) := by decide +kernel
theorem dX9_init_98 : decode cX9_init 98 = .ok (.newarray .int, 2) := by decide +kernel
theorem dX9_init_100 : decode cX9_init 100 = .ok (.putfield 45, 3) := by decide +kernel
theorem dX9_init_103 : decode cX9_init 103 = .ok (.aload_n 0, 1) := by decide +kernel
theorem dX9_init_104 : decode cX9_init 104 = .ok (.iconst 3, 1) := by decide +kernel
theorem dX9_init_105 : decode cX9_init 105 = .ok (.newarray .int, 2) := by decide +kernel
theorem dX9_init_107 : decode cX9_init 107 = .ok (.putfield 48, 3) := by decide +kernel
theorem dX9_init_110 : decode cX9_init 110 = .ok (.aload_n 0, 1) := by decide +kernel
theorem dX9_init_111 : decode cX9_init 111 = .ok (.bipush 12, 2) := by decide +kernel
theorem dX9_init_113 : decode cX9_init 113 = .ok (.newarray .int, 2) := by decide +kernel
theorem dX9_init_115 : decode cX9_init 115 = .ok (.putfield 51, 3) := by decide +kernel
theorem dX9_init_118 : decode cX9_init 118 = .ok (.aload_n 0, 1) := by decide +kernel
theorem dX9_init_119 : decode cX9_init 119 = .ok (.bipush 12, 2) := by decide +kernel
theorem dX9_init_121 : decode cX9_init 121 = .ok (.newarray .int, 2) := by decide +kernel
theorem dX9_init_123 : decode cX9_init 123 = .ok (.putfield 54, 3) := by decide +kernel
theorem dX9_init_126 : decode cX9_init 126 = .ok (.aload_n 0, 1) := by decide +kernel
theorem dX9_init_127 : decode cX9_init 127 = .ok (.bipush 12, 2) := by decide +kernel
theorem dX9_init_129 : decode cX9_init 129 = .ok (.newarray .int, 2) := by decide +kernel
theorem dX9_init_131 : decode cX9_init 131 = .ok (.putfield 57, 3) := by decide +kernel
theorem dX9_init_134 : decode cX9_init 134 = .ok (.aload_n 0, 1) := by decide +kernel
theorem dX9_init_135 : decode cX9_init 135 = .ok (.bipush 12, 2) := by decide +kernel
theorem dX9_init_137 : decode cX9_init 137 = .ok (.newarray .int, 2) := by decide +kernel
theorem dX9_init_139 : decode cX9_init 139 = .ok (.putfield 60, 3) := by decide +kernel
theorem dX9_init_142 : decode cX9_init 142 = .ok (.aload_n 0, 1) := by decide +kernel
theorem dX9_init_143 : decode cX9_init 143 = .ok (.bipush 12, 2) := by decide +kernel
theorem dX9_init_145 : decode cX9_init 145 = .ok (.newarray .int, 2) := by decide +kernel
theorem dX9_init_147 : decode cX9_init 147 = .ok (.putfield 63, 3) := by decide +kernel
theorem dX9_init_150 : decode cX9_init 150 = .ok (.aload_n 0, 1) := by decide +kernel
theorem dX9_init_151 : decode cX9_init 151 = .ok (.bipush 8, 2) := by decide +kernel
theorem dX9_init_153 : decode cX9_init 153 = .ok (.newarray .int, 2) := by decide +kernel
theorem dX9_init_155 : decode cX9_init 155 = .ok (.putfield 66, 3) := by decide +kernel
theorem dX9_init_158 : decode cX9_init 158 = .ok (.aload_n 0, 1) := by decide +kernel
theorem dX9_init_159 : decode cX9_init 159 = .ok (.bipush 8, 2) := by decide +kernel
theorem dX9_init_161 : decode cX9_init 161 = .ok (.newarray .int, 2) := by decide +kernel
theorem dX9_init_163 : decode cX9_init 163 = .ok (.putfield 69, 3) := by decide +kernel
theorem dX9_init_166 : decode cX9_init 166 = .ok (.aload_n 0, 1) := by decide +kernel
theorem dX9_init_167 : decode cX9_init 167 = .ok (.bipush 8, 2) := by decide +kernel
theorem dX9_init_169 : decode cX9_init 169 = .ok (.newarray .int, 2) := by decide +kernel
theorem dX9_init_171 : decode cX9_init 171 = .ok (.putfield 72, 3) := by decide +kernel
theorem dX9_init_174 : decode cX9_init 174 = .ok (.aload_n 0, 1) := by decide +kernel
theorem dX9_init_175 : decode cX9_init 175 = .ok (.sipush 192, 3) := by decide +kernel
theorem dX9_init_178 : decode cX9_init 178 = .ok (.newarray .int, 2) := by decide +kernel
theorem dX9_init_180 : decode cX9_init 180 = .ok (.putfield 75, 3) := by decide +kernel
theorem dX9_init_183 : decode cX9_init 183 = .ok (.aload_n 0, 1) := by decide +kernel
theorem dX9_init_184 : decode cX9_init 184 = .ok (.iconst (-1), 1) := by decide +kernel
theorem dX9_init_185 : decode cX9_init 185 = .ok (.putfield 78, 3) := by decide +kernel
theorem dX9_init_188 : decode cX9_init 188 = .ok (.aload_n 0, 1) := by decide +kernel
theorem dX9_init_189 : decode cX9_init 189 = .ok (.bipush 8, 2) := by decide +kernel
theorem dX9_init_191 : decode cX9_init 191 = .ok (.newarray .int, 2) := by decide +kernel
theorem dX9_init_193 : decode cX9_init 193 = .ok (.putfield 82, 3) := by decide +kernel
theorem dX9_init_196 : decode cX9_init 196 = .ok (.aload_n 0, 1) := by decide +kernel
theorem dX9_init_197 : decode cX9_init 197 = .ok (.bipush 8, 2) := by decide +kernel
theorem dX9_init_199 : decode cX9_init 199 = .ok (.newarray .int, 2) := by decide +kernel
theorem dX9_init_201 : decode cX9_init 201 = .ok (.putfield 85, 3) := by decide +kernel
theorem dX9_init_204 : decode cX9_init 204 = .ok (.aload_n 0, 1) := by decide +kernel
theorem dX9_init_205 : decode cX9_init 205 = .ok (.bipush 8, 2) := by decide +kernel
theorem dX9_init_207 : decode cX9_init 207 = .ok (.newarray .boolean, 2) := by decide +kernel
theorem dX9_init_209 : decode cX9_init 209 = .ok (.putfield 88, 3) := by decide +kernel
theorem dX9_init_212 : decode cX9_init 212 = .ok (.aload_n 0, 1) := by decide +kernel
theorem dX9_init_213 : decode cX9_init 213 = .ok (.bipush 48, 2) := by decide +kernel
theorem dX9_init_215 : decode cX9_init 215 = .ok (.newarray .int, 2) := by decide +kernel
theorem dX9_init_217 : decode cX9_init 217 = .ok (.putfield 91, 3) := by decide +kernel
theorem dX9_init_220 : decode cX9_init 220 = .ok (.aload_n 0, 1) := by decide +kernel
theorem dX9_init_221 : decode cX9_init 221 = .ok (.bipush 8, 2) := by decide +kernel
theorem dX9_init_223 : decode cX9_init 223 = .ok (.newarray .int, 2) := by decide +kernel
theorem dX9_init_225 : decode cX9_init 225 = .ok (.putfield 94, 3) := by decide +kernel
theorem dX9_init_228 : decode cX9_init 228 = .ok (.return_, 1) := by decide +kernel
theorem dX9_isIn_0 : decode cX9_isIn 0 = .ok (.iload_n 0, 1) := by decide +kernel
theorem dX9_isIn_1 : decode cX9_isIn 1 = .ok (.iload_n 1, 1) := by decide +kernel
theorem dX9_isIn_2 : decode cX9_isIn 2 = .ok (.if_icmp .lt 12, 3) := by decide +kernel
theorem dX9_isIn_5 : decode cX9_isIn 5 = .ok (.iload_n 0, 1) := by decide +kernel
theorem dX9_isIn_6 : decode cX9_isIn 6 = .ok (.iload_n 2, 1) := by decide +kernel
theorem dX9_isIn_7 : decode cX9_isIn 7 = .ok (.if_icmp .gt 7, 3) := by decide +kernel
theorem dX9_isIn_10 : decode cX9_isIn 10 = .ok (.iconst 1, 1) := by decide +kernel
theorem dX9_isIn_11 : decode cX9_isIn 11 = .ok (.goto 4, 3) := by decide +kernel
theorem dX9_isIn_14 : decode cX9_isIn 14 = .ok (.iconst 0, 1) := by decide +kernel
theorem dX9_isIn_15 : decode cX9_isIn 15 = .ok (.ireturn, 1) := by decide +kernel
theorem dX9_clear_0 : decode cX9_clear 0 = .ok (.aload_n 0, 1) := by decide +kernel
theorem dX9_clear_1 : decode cX9_clear 1 = .ok (.getfield 7, 3) := by decide +kernel
theorem dX9_clear_4 : decode cX9_clear 4 = .ok (.iload_n 1, 1) := by decide +kernel
theorem dX9_clear_5 : decode cX9_clear 5 = .ok (.lconst 0, 1) := by decide +kernel
theorem dX9_clear_6 : decode cX9_clear 6 = .ok (.lastore, 1) := by decide +kernel
theorem dX9_clear_7 : decode cX9_clear 7 = .ok (.aload_n 0, 1) := by decide +kernel
theorem dX9_clear_8 : decode cX9_clear 8 = .ok (.getfield 13, 3) := by decide +kernel
theorem dX9_clear_11 : decode cX9_clear 11 = .ok (.iload_n 1, 1) := by decide +kernel
theorem dX9_clear_12 : decode cX9_clear 12 = .ok (.iconst 0, 1) := by decide +kernel
theorem dX9_clear_13 : decode cX9_clear 13 = .ok (.iastore, 1) := by decide +kernel
theorem dX9_clear_14 : decode cX9_clear 14 = .ok (.return_, 1) := by decide +kernel
theorem dX9_copy_0 : decode cX9_copy 0 = .ok (.aload_n 0, 1) := by decide +kernel
theorem dX9_copy_1 : decode cX9_copy 1 = .ok (.getfield 7, 3) := by decide +kernel
theorem dX9_copy_4 : decode cX9_copy 4 = .ok (.iload_n 2, 1) := by decide +kernel
theorem dX9_copy_5 : decode cX9_copy 5 = .ok (.aload_n 0, 1) := by decide +kernel
theorem dX9_copy_6 : decode cX9_copy 6 = .ok (.getfield 7, 3) := by decide +kernel
theorem dX9_copy_9 : decode cX9_copy 9 = .ok (.iload_n 1, 1) := by decide +kernel
theorem dX9_copy_10 : decode cX9_copy 10 = .ok (.laload, 1) := by decide +kernel
theorem dX9_copy_11 : decode cX9_copy 11 = .ok (.lastore, 1) := by decide +kernel
theorem dX9_copy_12 : decode cX9_copy 12 = .ok (.aload_n 0, 1) := by decide +kernel
theorem dX9_copy_13 : decode cX9_copy 13 = .ok (.getfield 13, 3) := by decide +kernel
theorem dX9_copy_16 : decode cX9_copy 16 = .ok (.iload_n 2, 1) := by decide +kernel
theorem dX9_copy_17 : decode cX9_copy 17 = .ok (.aload_n 0, 1) := by decide +kernel
theorem dX9_copy_18 : decode cX9_copy 18 = .ok (.getfield 13, 3) := by decide +kernel
theorem dX9_copy_21 : decode cX9_copy 21 = .ok (.iload_n 1, 1) := by decide +kernel
theorem dX9_copy_22 : decode cX9_copy 22 = .ok (.iaload, 1) := by decide +kernel
theorem dX9_copy_23 : decode cX9_copy 23 = .ok (.iastore, 1) := by decide +kernel
theorem dX9_copy_24 : decode cX9_copy 24 = .ok (.iconst 0, 1) := by decide +kernel
theorem dX9_copy_25 : decode cX9_copy 25 = .ok (.istore_n 3, 1) := by decide +kernel
theorem dX9_copy_26 : decode cX9_copy 26 = .ok (.iload_n 3, 1) := by decide +kernel
theorem dX9_copy_27 : decode cX9_copy 27 = .ok (.bipush 24, 2) := by decide +kernel
theorem dX9_copy_29 : decode cX9_copy 29 = .ok (.if_icmp .ge 31, 3) := by decide +kernel
theorem dX9_copy_32 : decode cX9_copy 32 = .ok (.aload_n 0, 1) := by decide +kernel
theorem dX9_copy_33 : decode cX9_copy 33 = .ok (.getfield 17, 3) := by decide +kernel
theorem dX9_copy_36 : decode cX9_copy 36 = .ok (.bipush 24, 2) := by decide +kernel
theorem dX9_copy_38 : decode cX9_copy 38 = .ok (.iload_n 2, 1) := by decide +kernel
theorem dX9_copy_39 : decode cX9_copy 39 = .ok (.imul, 1) := by decide +kernel
theorem dX9_copy_40 : decode cX9_copy 40 = .ok (.iload_n 3, 1) := by decide +kernel
theorem dX9_copy_41 : decode cX9_copy 41 = .ok (.iadd, 1) := by decide +kernel
theorem dX9_copy_42 : decode cX9_copy 42 = .ok (.aload_n 0, 1) := by decide +kernel
theorem dX9_copy_43 : decode cX9_copy 43 = .ok (.getfield 17, 3) := by decide +kernel
theorem dX9_copy_46 : decode cX9_copy 46 = .ok (.bipush 24, 2) := by decide +kernel
theorem dX9_copy_48 : decode cX9_copy 48 = .ok (.iload_n 1, 1) := by decide +kernel
theorem dX9_copy_49 : decode cX9_copy 49 = .ok (.imul, 1) := by decide +kernel
theorem dX9_copy_50 : decode cX9_copy 50 = .ok (.iload_n 3, 1) := by decide +kernel
theorem dX9_copy_51 : decode cX9_copy 51 = .ok (.iadd, 1) := by decide +kernel
theorem dX9_copy_52 : decode cX9_copy 52 = .ok (.iaload, 1) := by decide +kernel
theorem dX9_copy_53 : decode cX9_copy 53 = .ok (.iastore, 1) := by decide +kernel
theorem dX9_copy_54 : decode cX9_copy 54 = .ok (.iinc 3 1, 3) := by decide +kernel
theorem dX9_copy_57 : decode cX9_copy 57 = .ok (.goto (-31), 3) := by decide +kernel
theorem dX9_copy_60 : decode cX9_copy 60 = .ok (.return_, 1) := by decide +kernel
theorem dX9_copyForm_0 : decode cX9_copyForm 0 = .ok (.iconst 0, 1) := by decide +kernel
theorem dX9_copyForm_1 : decode cX9_copyForm 1 = .ok (.istore_n 3, 1) := by decide +kernel
theorem dX9_copyForm_2 : decode cX9_copyForm 2 = .ok (.iload_n 3, 1) := by decide +kernel
theorem dX9_copyForm_3 : decode cX9_copyForm 3 = .ok (.bipush 8, 2) := by decide +kernel
theorem dX9_copyForm_5 : decode cX9_copyForm 5 = .ok (.if_icmp .ge 19, 3) := by decide +kernel
theorem dX9_copyForm_8 : decode cX9_copyForm 8 = .ok (.aload_n 0, 1) := by decide +kernel
theorem dX9_copyForm_9 : decode cX9_copyForm 9 = .ok (.iload_n 1, 1) := by decide +kernel
theorem dX9_copyForm_10 : decode cX9_copyForm 10 = .ok (.iload_n 3, 1) := by decide +kernel
theorem dX9_copyForm_11 : decode cX9_copyForm 11 = .ok (.iadd, 1) := by decide +kernel
theorem dX9_copyForm_12 : decode cX9_copyForm 12 = .ok (.iload_n 2, 1) := by decide +kernel
theorem dX9_copyForm_13 : decode cX9_copyForm 13 = .ok (.iload_n 3, 1) := by decide +kernel
theorem dX9_copyForm_14 : decode cX9_copyForm 14 = .ok (.iadd, 1) := by decide +kernel
theorem dX9_copyForm_15 : decode cX9_copyForm 15 = .ok (.invokevirtual 97, 3) := by decide +kernel
theorem dX9_copyForm_18 : decode cX9_copyForm 18 = .ok (.iinc 3 1, 3) := by decide +kernel
theorem dX9_copyForm_21 : decode cX9_copyForm 21 = .ok (.goto (-19), 3) := by decide +kernel
theorem dX9_copyForm_24 : decode cX9_copyForm 24 = .ok (.return_, 1) := by decide +kernel
theorem dX9_tell_0 : decode cX9_tell 0 = .ok (.aload_n 0, 1) := by decide +kernel
theorem dX9_tell_1 : decode cX9_tell 1 = .ok (.iload_n 1, 1) := by decide +kernel
theorem dX9_tell_2 : decode cX9_tell 2 = .ok (.invokevirtual 101, 3) := by decide +kernel
theorem dX9_tell_5 : decode cX9_tell 5 = .ok (.iload_n 3, 1) := by decide +kernel
theorem dX9_tell_6 : decode cX9_tell 6 = .ok (.i2l, 1) := by decide +kernel
theorem dX9_tell_7 : decode cX9_tell 7 = .ok (.bipush 32, 2) := by decide +kernel
theorem dX9_tell_9 : decode cX9_tell 9 = .ok (.lshl, 1) := by decide +kernel
theorem dX9_tell_10 : decode cX9_tell 10 = .ok (.iload 4, 2) := by decide +kernel
theorem dX9_tell_12 : decode cX9_tell 12 = .ok (.i2l, 1) := by decide +kernel
theorem dX9_tell_13 : decode cX9_tell 13 = .ok (.ldc2_w 105, 3) := by decide +kernel
theorem dX9_tell_16 : decode cX9_tell 16 = .ok (.land, 1) := by decide +kernel
theorem dX9_tell_17 : decode cX9_tell 17 = .ok (.lor, 1) := by decide +kernel
theorem dX9_tell_18 : decode cX9_tell 18 = .ok (.lstore 5, 2) := by decide +kernel
theorem dX9_tell_20 : decode cX9_tell 20 = .ok (.iload_n 2, 1) := by decide +kernel
theorem dX9_tell_21 : decode cX9_tell 21 = .ok (.tableswitch 82 0 3 #[31, 44, 58, 71], 31) := by decide +kernel
theorem dX9_tell_52 : decode cX9_tell 52 = .ok (.aload_n 0, 1) := by decide +kernel
theorem dX9_tell_53 : decode cX9_tell 53 = .ok (.getfield 7, 3) := by decide +kernel
theorem dX9_tell_56 : decode cX9_tell 56 = .ok (.iload_n 1, 1) := by decide +kernel
theorem dX9_tell_57 : decode cX9_tell 57 = .ok (.lload 5, 2) := by decide +kernel
theorem dX9_tell_59 : decode cX9_tell 59 = .ok (.lconst 1, 1) := by decide +kernel
theorem dX9_tell_60 : decode cX9_tell 60 = .ok (.land, 1) := by decide +kernel
theorem dX9_tell_61 : decode cX9_tell 61 = .ok (.lastore, 1) := by decide +kernel
theorem dX9_tell_62 : decode cX9_tell 62 = .ok (.goto 71, 3) := by decide +kernel
theorem dX9_tell_65 : decode cX9_tell 65 = .ok (.aload_n 0, 1) := by decide +kernel
theorem dX9_tell_66 : decode cX9_tell 66 = .ok (.getfield 7, 3) := by decide +kernel
theorem dX9_tell_69 : decode cX9_tell 69 = .ok (.iload_n 1, 1) := by decide +kernel
theorem dX9_tell_70 : decode cX9_tell 70 = .ok (.lload 5, 2) := by decide +kernel
theorem dX9_tell_72 : decode cX9_tell 72 = .ok (.l2i, 1) := by decide +kernel
theorem dX9_tell_73 : decode cX9_tell 73 = .ok (.i2s, 1) := by decide +kernel
theorem dX9_tell_74 : decode cX9_tell 74 = .ok (.i2l, 1) := by decide +kernel
theorem dX9_tell_75 : decode cX9_tell 75 = .ok (.lastore, 1) := by decide +kernel
theorem dX9_tell_76 : decode cX9_tell 76 = .ok (.goto 57, 3) := by decide +kernel
theorem dX9_tell_79 : decode cX9_tell 79 = .ok (.aload_n 0, 1) := by decide +kernel
theorem dX9_tell_80 : decode cX9_tell 80 = .ok (.getfield 7, 3) := by decide +kernel
theorem dX9_tell_83 : decode cX9_tell 83 = .ok (.iload_n 1, 1) := by decide +kernel
theorem dX9_tell_84 : decode cX9_tell 84 = .ok (.lload 5, 2) := by decide +kernel
theorem dX9_tell_86 : decode cX9_tell 86 = .ok (.l2i, 1) := by decide +kernel
theorem dX9_tell_87 : decode cX9_tell 87 = .ok (.i2l, 1) := by decide +kernel
theorem dX9_tell_88 : decode cX9_tell 88 = .ok (.lastore, 1) := by decide +kernel
theorem dX9_tell_89 : decode cX9_tell 89 = .ok (.goto 44, 3) := by decide +kernel
theorem dX9_tell_92 : decode cX9_tell 92 = .ok (.aload_n 0, 1) := by decide +kernel
theorem dX9_tell_93 : decode cX9_tell 93 = .ok (.getfield 7, 3) := by decide +kernel
theorem dX9_tell_96 : decode cX9_tell 96 = .ok (.iload_n 1, 1) := by decide +kernel
theorem dX9_tell_97 : decode cX9_tell 97 = .ok (.lload 5, 2) := by decide +kernel
theorem dX9_tell_99 : decode cX9_tell 99 = .ok (.lastore, 1) := by decide +kernel
theorem dX9_tell_100 : decode cX9_tell 100 = .ok (.goto 33, 3) := by decide +kernel
theorem dX9_tell_103 : decode cX9_tell 103 = .ok (.bipush 56, 2) := by decide +kernel
theorem dX9_tell_105 : decode cX9_tell 105 = .ok (.istore 7, 2) := by decide +kernel
theorem dX9_tell_107 : decode cX9_tell 107 = .ok (.iload 7, 2) := by decide +kernel
theorem dX9_tell_109 : decode cX9_tell 109 = .ok (.ifCond .lt 24, 3) := by decide +kernel
theorem dX9_tell_112 : decode cX9_tell 112 = .ok (.aload_n 0, 1) := by decide +kernel
theorem dX9_tell_113 : decode cX9_tell 113 = .ok (.iload_n 1, 1) := by decide +kernel
theorem dX9_tell_114 : decode cX9_tell 114 = .ok (.lload 5, 2) := by decide +kernel
theorem dX9_tell_116 : decode cX9_tell 116 = .ok (.iload 7, 2) := by decide +kernel
theorem dX9_tell_118 : decode cX9_tell 118 = .ok (.lshr, 1) := by decide +kernel
theorem dX9_tell_119 : decode cX9_tell 119 = .ok (.l2i, 1) := by decide +kernel
theorem dX9_tell_120 : decode cX9_tell 120 = .ok (.sipush 255, 3) := by decide +kernel
theorem dX9_tell_123 : decode cX9_tell 123 = .ok (.iand, 1) := by decide +kernel
theorem dX9_tell_124 : decode cX9_tell 124 = .ok (.invokevirtual 107, 3) := by decide +kernel
theorem dX9_tell_127 : decode cX9_tell 127 = .ok (.iinc 7 (-8), 3) := by decide +kernel
theorem dX9_tell_130 : decode cX9_tell 130 = .ok (.goto (-23), 3) := by decide +kernel
theorem dX9_tell_133 : decode cX9_tell 133 = .ok (.return_, 1) := by decide +kernel
theorem dX9_addChar_0 : decode cX9_addChar 0 = .ok (.iload_n 2, 1) := by decide +kernel
theorem dX9_addChar_1 : decode cX9_addChar 1 = .ok (.ifCond .ne 4, 3) := by decide +kernel
theorem dX9_addChar_4 : decode cX9_addChar 4 = .ok (.return_, 1) := by decide +kernel
theorem dX9_addChar_5 : decode cX9_addChar 5 = .ok (.aload_n 0, 1) := by decide +kernel
theorem dX9_addChar_6 : decode cX9_addChar 6 = .ok (.getfield 17, 3) := by decide +kernel
theorem dX9_addChar_9 : decode cX9_addChar 9 = .ok (.bipush 24, 2) := by decide +kernel
theorem dX9_addChar_11 : decode cX9_addChar 11 = .ok (.iload_n 1, 1) := by decide +kernel
theorem dX9_addChar_12 : decode cX9_addChar 12 = .ok (.imul, 1) := by decide +kernel
theorem dX9_addChar_13 : decode cX9_addChar 13 = .ok (.aload_n 0, 1) := by decide +kernel
theorem dX9_addChar_14 : decode cX9_addChar 14 = .ok (.getfield 13, 3) := by decide +kernel
theorem dX9_addChar_17 : decode cX9_addChar 17 = .ok (.iload_n 1, 1) := by decide +kernel
theorem dX9_addChar_18 : decode cX9_addChar 18 = .ok (.iaload, 1) := by decide +kernel
theorem dX9_addChar_19 : decode cX9_addChar 19 = .ok (.iadd, 1) := by decide +kernel
theorem dX9_addChar_20 : decode cX9_addChar 20 = .ok (.iload_n 2, 1) := by decide +kernel
theorem dX9_addChar_21 : decode cX9_addChar 21 = .ok (.iastore, 1) := by decide +kernel
theorem dX9_addChar_22 : decode cX9_addChar 22 = .ok (.aload_n 0, 1) := by decide +kernel
theorem dX9_addChar_23 : decode cX9_addChar 23 = .ok (.getfield 13, 3) := by decide +kernel
theorem dX9_addChar_26 : decode cX9_addChar 26 = .ok (.iload_n 1, 1) := by decide +kernel
theorem dX9_addChar_27 : decode cX9_addChar 27 = .ok (.dup2, 1) := by decide +kernel
theorem dX9_addChar_28 : decode cX9_addChar 28 = .ok (.iaload, 1) := by decide +kernel
theorem dX9_addChar_29 : decode cX9_addChar 29 = .ok (.iconst 1, 1) := by decide +kernel
theorem dX9_addChar_30 : decode cX9_addChar 30 = .ok (.iadd, 1) := by decide +kernel
theorem dX9_addChar_31 : decode cX9_addChar 31 = .ok (.iastore, 1) := by decide +kernel
theorem dX9_addChar_32 : decode cX9_addChar 32 = .ok (.return_, 1) := by decide +kernel
theorem dX9_told_0 : decode cX9_told 0 = .ok (.aload_n 0, 1) := by decide +kernel
theorem dX9_told_1 : decode cX9_told 1 = .ok (.getfield 13, 3) := by decide +kernel
theorem dX9_told_4 : decode cX9_told 4 = .ok (.iload_n 1, 1) := by decide +kernel
theorem dX9_told_5 : decode cX9_told 5 = .ok (.iaload, 1) := by decide +kernel
theorem dX9_told_6 : decode cX9_told 6 = .ok (.istore_n 2, 1) := by decide +kernel
theorem dX9_told_7 : decode cX9_told 7 = .ok (.iload_n 2, 1) := by decide +kernel
theorem dX9_told_8 : decode cX9_told 8 = .ok (.ifCond .le 21, 3) := by decide +kernel
theorem dX9_told_11 : decode cX9_told 11 = .ok (.aload_n 0, 1) := by decide +kernel
theorem dX9_told_12 : decode cX9_told 12 = .ok (.getfield 17, 3) := by decide +kernel
theorem dX9_told_15 : decode cX9_told 15 = .ok (.bipush 24, 2) := by decide +kernel
theorem dX9_told_17 : decode cX9_told 17 = .ok (.iload_n 1, 1) := by decide +kernel
theorem dX9_told_18 : decode cX9_told 18 = .ok (.imul, 1) := by decide +kernel
theorem dX9_told_19 : decode cX9_told 19 = .ok (.iaload, 1) := by decide +kernel
theorem dX9_told_20 : decode cX9_told 20 = .ok (.bipush 45, 2) := by decide +kernel
theorem dX9_told_22 : decode cX9_told 22 = .ok (.if_icmp .ne 7, 3) := by decide +kernel
theorem dX9_told_25 : decode cX9_told 25 = .ok (.iconst 1, 1) := by decide +kernel
theorem dX9_told_26 : decode cX9_told 26 = .ok (.goto 4, 3) := by decide +kernel
theorem dX9_told_29 : decode cX9_told 29 = .ok (.iconst 0, 1) := by decide +kernel
theorem dX9_told_30 : decode cX9_told 30 = .ok (.istore_n 3, 1) := by decide +kernel
theorem dX9_told_31 : decode cX9_told 31 = .ok (.iload_n 2, 1) := by decide +kernel
theorem dX9_told_32 : decode cX9_told 32 = .ok (.iload_n 3, 1) := by decide +kernel
theorem dX9_told_33 : decode cX9_told 33 = .ok (.isub, 1) := by decide +kernel
theorem dX9_told_34 : decode cX9_told 34 = .ok (.iconst 1, 1) := by decide +kernel
theorem dX9_told_35 : decode cX9_told 35 = .ok (.bipush 18, 2) := by decide +kernel
theorem dX9_told_37 : decode cX9_told 37 = .ok (.invokestatic 110, 3) := by decide +kernel
theorem dX9_told_40 : decode cX9_told 40 = .ok (.ifCond .ne 5, 3) := by decide +kernel
theorem dX9_told_43 : decode cX9_told 43 = .ok (.lconst 0, 1) := by decide +kernel
theorem dX9_told_44 : decode cX9_told 44 = .ok (.lreturn, 1) := by decide +kernel
theorem dX9_told_45 : decode cX9_told 45 = .ok (.lconst 0, 1) := by decide +kernel
theorem dX9_told_46 : decode cX9_told 46 = .ok (.lstore 4, 2) := by decide +kernel
theorem dX9_told_48 : decode cX9_told 48 = .ok (.iload_n 3, 1) := by decide +kernel
theorem dX9_told_49 : decode cX9_told 49 = .ok (.istore 6, 2) := by decide +kernel
theorem dX9_told_51 : decode cX9_told 51 = .ok (.iload 6, 2) := by decide +kernel
theorem dX9_told_53 : decode cX9_told 53 = .ok (.iload_n 2, 1) := by decide +kernel
theorem dX9_told_54 : decode cX9_told 54 = .ok (.if_icmp .ge 51, 3) := by decide +kernel
theorem dX9_told_57 : decode cX9_told 57 = .ok (.aload_n 0, 1) := by decide +kernel
theorem dX9_told_58 : decode cX9_told 58 = .ok (.getfield 17, 3) := by decide +kernel
theorem dX9_told_61 : decode cX9_told 61 = .ok (.bipush 24, 2) := by decide +kernel
theorem dX9_told_63 : decode cX9_told 63 = .ok (.iload_n 1, 1) := by decide +kernel
theorem dX9_told_64 : decode cX9_told 64 = .ok (.imul, 1) := by decide +kernel
theorem dX9_told_65 : decode cX9_told 65 = .ok (.iload 6, 2) := by decide +kernel
theorem dX9_told_67 : decode cX9_told 67 = .ok (.iadd, 1) := by decide +kernel
theorem dX9_told_68 : decode cX9_told 68 = .ok (.iaload, 1) := by decide +kernel
theorem dX9_told_69 : decode cX9_told 69 = .ok (.bipush 48, 2) := by decide +kernel
theorem dX9_told_71 : decode cX9_told 71 = .ok (.isub, 1) := by decide +kernel
theorem dX9_told_72 : decode cX9_told 72 = .ok (.istore 7, 2) := by decide +kernel
theorem dX9_told_74 : decode cX9_told 74 = .ok (.iload 7, 2) := by decide +kernel
theorem dX9_told_76 : decode cX9_told 76 = .ok (.iconst 0, 1) := by decide +kernel
theorem dX9_told_77 : decode cX9_told 77 = .ok (.bipush 9, 2) := by decide +kernel
theorem dX9_told_79 : decode cX9_told 79 = .ok (.invokestatic 110, 3) := by decide +kernel
theorem dX9_told_82 : decode cX9_told 82 = .ok (.ifCond .ne 5, 3) := by decide +kernel
theorem dX9_told_85 : decode cX9_told 85 = .ok (.lconst 0, 1) := by decide +kernel
theorem dX9_told_86 : decode cX9_told 86 = .ok (.lreturn, 1) := by decide +kernel
theorem dX9_told_87 : decode cX9_told 87 = .ok (.ldc2_w 114, 3) := by decide +kernel
theorem dX9_told_90 : decode cX9_told 90 = .ok (.lload 4, 2) := by decide +kernel
theorem dX9_told_92 : decode cX9_told 92 = .ok (.lmul, 1) := by decide +kernel
theorem dX9_told_93 : decode cX9_told 93 = .ok (.iload 7, 2) := by decide +kernel
theorem dX9_told_95 : decode cX9_told 95 = .ok (.i2l, 1) := by decide +kernel
theorem dX9_told_96 : decode cX9_told 96 = .ok (.ladd, 1) := by decide +kernel
theorem dX9_told_97 : decode cX9_told 97 = .ok (.lstore 4, 2) := by decide +kernel
theorem dX9_told_99 : decode cX9_told 99 = .ok (.iinc 6 1, 3) := by decide +kernel
theorem dX9_told_102 : decode cX9_told 102 = .ok (.goto (-51), 3) := by decide +kernel
theorem dX9_told_105 : decode cX9_told 105 = .ok (.iload_n 3, 1) := by decide +kernel
theorem dX9_told_106 : decode cX9_told 106 = .ok (.iconst 1, 1) := by decide +kernel
theorem dX9_told_107 : decode cX9_told 107 = .ok (.if_icmp .ne 9, 3) := by decide +kernel
theorem dX9_told_110 : decode cX9_told 110 = .ok (.lload 4, 2) := by decide +kernel
theorem dX9_told_112 : decode cX9_told 112 = .ok (.lneg, 1) := by decide +kernel
theorem dX9_told_113 : decode cX9_told 113 = .ok (.goto 5, 3) := by decide +kernel
theorem dX9_told_116 : decode cX9_told 116 = .ok (.lload 4, 2) := by decide +kernel
theorem dX9_told_118 : decode cX9_told 118 = .ok (.lreturn, 1) := by decide +kernel
theorem dX9_putDigits_0 : decode cX9_putDigits 0 = .ok (.aload_n 0, 1) := by decide +kernel
theorem dX9_putDigits_1 : decode cX9_putDigits 1 = .ok (.iload_n 1, 1) := by decide +kernel
theorem dX9_putDigits_2 : decode cX9_putDigits 2 = .ok (.invokevirtual 101, 3) := by decide +kernel
theorem dX9_putDigits_5 : decode cX9_putDigits 5 = .ok (.iconst 0, 1) := by decide +kernel
theorem dX9_putDigits_6 : decode cX9_putDigits 6 = .ok (.istore 4, 2) := by decide +kernel
theorem dX9_putDigits_8 : decode cX9_putDigits 8 = .ok (.lload_n 2, 1) := by decide +kernel
theorem dX9_putDigits_9 : decode cX9_putDigits 9 = .ok (.lstore 5, 2) := by decide +kernel
theorem dX9_putDigits_11 : decode cX9_putDigits 11 = .ok (.iload 4, 2) := by decide +kernel
theorem dX9_putDigits_13 : decode cX9_putDigits 13 = .ok (.ifCond .eq 10, 3) := by decide +kernel
theorem dX9_putDigits_16 : decode cX9_putDigits 16 = .ok (.lload 5, 2) := by decide +kernel
theorem dX9_putDigits_18 : decode cX9_putDigits 18 = .ok (.lconst 0, 1) := by decide +kernel
theorem dX9_putDigits_19 : decode cX9_putDigits 19 = .ok (.lcmp, 1) := by decide +kernel
theorem dX9_putDigits_20 : decode cX9_putDigits 20 = .ok (.ifCond .eq 49, 3) := by decide +kernel
theorem dX9_putDigits_23 : decode cX9_putDigits 23 = .ok (.lload 5, 2) := by decide +kernel
theorem dX9_putDigits_25 : decode cX9_putDigits 25 = .ok (.ldc2_w 114, 3) := by decide +kernel
theorem dX9_putDigits_28 : decode cX9_putDigits 28 = .ok (.lrem, 1) := by decide +kernel
theorem dX9_putDigits_29 : decode cX9_putDigits 29 = .ok (.l2i, 1) := by decide +kernel
theorem dX9_putDigits_30 : decode cX9_putDigits 30 = .ok (.istore 7, 2) := by decide +kernel
theorem dX9_putDigits_32 : decode cX9_putDigits 32 = .ok (.aload_n 0, 1) := by decide +kernel
theorem dX9_putDigits_33 : decode cX9_putDigits 33 = .ok (.getfield 20, 3) := by decide +kernel
theorem dX9_putDigits_36 : decode cX9_putDigits 36 = .ok (.iload 4, 2) := by decide +kernel
theorem dX9_putDigits_38 : decode cX9_putDigits 38 = .ok (.bipush 48, 2) := by decide +kernel
theorem dX9_putDigits_40 : decode cX9_putDigits 40 = .ok (.iload 7, 2) := by decide +kernel
theorem dX9_putDigits_42 : decode cX9_putDigits 42 = .ok (.ifCond .ge 9, 3) := by decide +kernel
theorem dX9_putDigits_45 : decode cX9_putDigits 45 = .ok (.iload 7, 2) := by decide +kernel
theorem dX9_putDigits_47 : decode cX9_putDigits 47 = .ok (.ineg, 1) := by decide +kernel
theorem dX9_putDigits_48 : decode cX9_putDigits 48 = .ok (.goto 5, 3) := by decide +kernel
theorem dX9_putDigits_51 : decode cX9_putDigits 51 = .ok (.iload 7, 2) := by decide +kernel
theorem dX9_putDigits_53 : decode cX9_putDigits 53 = .ok (.iadd, 1) := by decide +kernel
theorem dX9_putDigits_54 : decode cX9_putDigits 54 = .ok (.iastore, 1) := by decide +kernel
theorem dX9_putDigits_55 : decode cX9_putDigits 55 = .ok (.lload 5, 2) := by decide +kernel
theorem dX9_putDigits_57 : decode cX9_putDigits 57 = .ok (.ldc2_w 114, 3) := by decide +kernel
theorem dX9_putDigits_60 : decode cX9_putDigits 60 = .ok (.ldiv, 1) := by decide +kernel
theorem dX9_putDigits_61 : decode cX9_putDigits 61 = .ok (.lstore 5, 2) := by decide +kernel
theorem dX9_putDigits_63 : decode cX9_putDigits 63 = .ok (.iinc 4 1, 3) := by decide +kernel
theorem dX9_putDigits_66 : decode cX9_putDigits 66 = .ok (.goto (-55), 3) := by decide +kernel
theorem dX9_putDigits_69 : decode cX9_putDigits 69 = .ok (.lload_n 2, 1) := by decide +kernel
theorem dX9_putDigits_70 : decode cX9_putDigits 70 = .ok (.lconst 0, 1) := by decide +kernel
theorem dX9_putDigits_71 : decode cX9_putDigits 71 = .ok (.lcmp, 1) := by decide +kernel
theorem dX9_putDigits_72 : decode cX9_putDigits 72 = .ok (.ifCond .ge 10, 3) := by decide +kernel
theorem dX9_putDigits_75 : decode cX9_putDigits 75 = .ok (.aload_n 0, 1) := by decide +kernel
theorem dX9_putDigits_76 : decode cX9_putDigits 76 = .ok (.iload_n 1, 1) := by decide +kernel
theorem dX9_putDigits_77 : decode cX9_putDigits 77 = .ok (.bipush 45, 2) := by decide +kernel
theorem dX9_putDigits_79 : decode cX9_putDigits 79 = .ok (.invokevirtual 107, 3) := by decide +kernel
theorem dX9_putDigits_82 : decode cX9_putDigits 82 = .ok (.iload 4, 2) := by decide +kernel
theorem dX9_putDigits_84 : decode cX9_putDigits 84 = .ok (.ifCond .le 21, 3) := by decide +kernel
theorem dX9_putDigits_87 : decode cX9_putDigits 87 = .ok (.iinc 4 (-1), 3) := by decide +kernel
theorem dX9_putDigits_90 : decode cX9_putDigits 90 = .ok (.aload_n 0, 1) := by decide +kernel
theorem dX9_putDigits_91 : decode cX9_putDigits 91 = .ok (.iload_n 1, 1) := by decide +kernel
theorem dX9_putDigits_92 : decode cX9_putDigits 92 = .ok (.aload_n 0, 1) := by decide +kernel
theorem dX9_putDigits_93 : decode cX9_putDigits 93 = .ok (.getfield 20, 3) := by decide +kernel
theorem dX9_putDigits_96 : decode cX9_putDigits 96 = .ok (.iload 4, 2) := by decide +kernel
theorem dX9_putDigits_98 : decode cX9_putDigits 98 = .ok (.iaload, 1) := by decide +kernel
theorem dX9_putDigits_99 : decode cX9_putDigits 99 = .ok (.invokevirtual 107, 3) := by decide +kernel
theorem dX9_putDigits_102 : decode cX9_putDigits 102 = .ok (.goto (-20), 3) := by decide +kernel
theorem dX9_putDigits_105 : decode cX9_putDigits 105 = .ok (.return_, 1) := by decide +kernel
theorem dX9_nearest_0 : decode cX9_nearest 0 = .ok (.lload_n 0, 1) := by decide +kernel
theorem dX9_nearest_1 : decode cX9_nearest 1 = .ok (.lload_n 2, 1) := by decide +kernel
theorem dX9_nearest_2 : decode cX9_nearest 2 = .ok (.lcmp, 1) := by decide +kernel
theorem dX9_nearest_3 : decode cX9_nearest 3 = .ok (.ifCond .ge 7, 3) := by decide +kernel
theorem dX9_nearest_6 : decode cX9_nearest 6 = .ok (.lload_n 2, 1) := by decide +kernel
theorem dX9_nearest_7 : decode cX9_nearest 7 = .ok (.goto 16, 3) := by decide +kernel
theorem dX9_nearest_10 : decode cX9_nearest 10 = .ok (.lload_n 0, 1) := by decide +kernel
theorem dX9_nearest_11 : decode cX9_nearest 11 = .ok (.lload 4, 2) := by decide +kernel
theorem dX9_nearest_13 : decode cX9_nearest 13 = .ok (.lcmp, 1) := by decide +kernel
theorem dX9_nearest_14 : decode cX9_nearest 14 = .ok (.ifCond .le 8, 3) := by decide +kernel
theorem dX9_nearest_17 : decode cX9_nearest 17 = .ok (.lload 4, 2) := by decide +kernel
theorem dX9_nearest_19 : decode cX9_nearest 19 = .ok (.goto 4, 3) := by decide +kernel
theorem dX9_nearest_22 : decode cX9_nearest 22 = .ok (.lload_n 0, 1) := by decide +kernel
theorem dX9_nearest_23 : decode cX9_nearest 23 = .ok (.lreturn, 1) := by decide +kernel
theorem dX9_become_0 : decode cX9_become 0 = .ok (.iload_n 2, 1) := by decide +kernel
theorem dX9_become_1 : decode cX9_become 1 = .ok (.iconst 4, 1) := by decide +kernel
theorem dX9_become_2 : decode cX9_become 2 = .ok (.if_icmp .ne 11, 3) := by decide +kernel
theorem dX9_become_5 : decode cX9_become 5 = .ok (.aload_n 0, 1) := by decide +kernel
theorem dX9_become_6 : decode cX9_become 6 = .ok (.iload_n 1, 1) := by decide +kernel
theorem dX9_become_7 : decode cX9_become 7 = .ok (.invokevirtual 116, 3) := by decide +kernel
theorem dX9_become_10 : decode cX9_become 10 = .ok (.goto 9, 3) := by decide +kernel
theorem dX9_become_13 : decode cX9_become 13 = .ok (.aload_n 0, 1) := by decide +kernel
theorem dX9_become_14 : decode cX9_become 14 = .ok (.getfield 7, 3) := by decide +kernel
theorem dX9_become_17 : decode cX9_become 17 = .ok (.iload_n 1, 1) := by decide +kernel
theorem dX9_become_18 : decode cX9_become 18 = .ok (.laload, 1) := by decide +kernel
theorem dX9_become_19 : decode cX9_become 19 = .ok (.lstore 4, 2) := by decide +kernel
theorem dX9_become_21 : decode cX9_become 21 = .ok (.aload_n 0, 1) := by decide +kernel
theorem dX9_become_22 : decode cX9_become 22 = .ok (.iload_n 1, 1) := by decide +kernel
theorem dX9_become_23 : decode cX9_become 23 = .ok (.invokevirtual 101, 3) := by decide +kernel
theorem dX9_become_26 : decode cX9_become 26 = .ok (.iload_n 3, 1) := by decide +kernel
theorem dX9_become_27 : decode cX9_become 27 = .ok (.tableswitch 101 0 3 #[29, 50, 70, 90], 29) := by decide +kernel
theorem dX9_become_56 : decode cX9_become 56 = .ok (.aload_n 0, 1) := by decide +kernel
theorem dX9_become_57 : decode cX9_become 57 = .ok (.getfield 7, 3) := by decide +kernel
theorem dX9_become_60 : decode cX9_become 60 = .ok (.iload_n 1, 1) := by decide +kernel
theorem dX9_become_61 : decode cX9_become 61 = .ok (.lload 4, 2) := by decide +kernel
theorem dX9_become_63 : decode cX9_become 63 = .ok (.lconst 0, 1) := by decide +kernel
theorem dX9_become_64 : decode cX9_become 64 = .ok (.lcmp, 1) := by decide +kernel
theorem dX9_become_65 : decode cX9_become 65 = .ok (.ifCond .eq 7, 3) := by decide +kernel
theorem dX9_become_68 : decode cX9_become 68 = .ok (.lconst 1, 1) := by decide +kernel
theorem dX9_become_69 : decode cX9_become 69 = .ok (.goto 4, 3) := by decide +kernel
theorem dX9_become_72 : decode cX9_become 72 = .ok (.lconst 0, 1) := by decide +kernel
theorem dX9_become_73 : decode cX9_become 73 = .ok (.lastore, 1) := by decide +kernel
theorem dX9_become_74 : decode cX9_become 74 = .ok (.goto 61, 3) := by decide +kernel
theorem dX9_become_77 : decode cX9_become 77 = .ok (.aload_n 0, 1) := by decide +kernel
theorem dX9_become_78 : decode cX9_become 78 = .ok (.getfield 7, 3) := by decide +kernel
theorem dX9_become_81 : decode cX9_become 81 = .ok (.iload_n 1, 1) := by decide +kernel
theorem dX9_become_82 : decode cX9_become 82 = .ok (.lload 4, 2) := by decide +kernel
theorem dX9_become_84 : decode cX9_become 84 = .ok (.ldc2_w 120, 3) := by decide +kernel
theorem dX9_become_87 : decode cX9_become 87 = .ok (.ldc2_w 122, 3) := by decide +kernel
theorem dX9_become_90 : decode cX9_become 90 = .ok (.invokestatic 124, 3) := by decide +kernel
theorem dX9_become_93 : decode cX9_become 93 = .ok (.lastore, 1) := by decide +kernel
theorem dX9_become_94 : decode cX9_become 94 = .ok (.goto 41, 3) := by decide +kernel
theorem dX9_become_97 : decode cX9_become 97 = .ok (.aload_n 0, 1) := by decide +kernel
theorem dX9_become_98 : decode cX9_become 98 = .ok (.getfield 7, 3) := by decide +kernel
theorem dX9_become_101 : decode cX9_become 101 = .ok (.iload_n 1, 1) := by decide +kernel
theorem dX9_become_102 : decode cX9_become 102 = .ok (.lload 4, 2) := by decide +kernel
theorem dX9_become_104 : decode cX9_become 104 = .ok (.ldc2_w 128, 3) := by decide +kernel
theorem dX9_become_107 : decode cX9_become 107 = .ok (.ldc2_w 130, 3) := by decide +kernel
theorem dX9_become_110 : decode cX9_become 110 = .ok (.invokestatic 124, 3) := by decide +kernel
theorem dX9_become_113 : decode cX9_become 113 = .ok (.lastore, 1) := by decide +kernel
theorem dX9_become_114 : decode cX9_become 114 = .ok (.goto 21, 3) := by decide +kernel
theorem dX9_become_117 : decode cX9_become 117 = .ok (.aload_n 0, 1) := by decide +kernel
theorem dX9_become_118 : decode cX9_become 118 = .ok (.getfield 7, 3) := by decide +kernel
theorem dX9_become_121 : decode cX9_become 121 = .ok (.iload_n 1, 1) := by decide +kernel
theorem dX9_become_122 : decode cX9_become 122 = .ok (.lload 4, 2) := by decide +kernel
theorem dX9_become_124 : decode cX9_become 124 = .ok (.lastore, 1) := by decide +kernel
theorem dX9_become_125 : decode cX9_become 125 = .ok (.goto 10, 3) := by decide +kernel
theorem dX9_become_128 : decode cX9_become 128 = .ok (.aload_n 0, 1) := by decide +kernel
theorem dX9_become_129 : decode cX9_become 129 = .ok (.iload_n 1, 1) := by decide +kernel
theorem dX9_become_130 : decode cX9_become 130 = .ok (.lload 4, 2) := by decide +kernel
theorem dX9_become_132 : decode cX9_become 132 = .ok (.invokevirtual 132, 3) := by decide +kernel
theorem dX9_become_135 : decode cX9_become 135 = .ok (.return_, 1) := by decide +kernel
theorem dX9_canBecome_0 : decode cX9_canBecome 0 = .ok (.iload_n 0, 1) := by decide +kernel
theorem dX9_canBecome_1 : decode cX9_canBecome 1 = .ok (.iload_n 1, 1) := by decide +kernel
theorem dX9_canBecome_2 : decode cX9_canBecome 2 = .ok (.if_icmp .ne 5, 3) := by decide +kernel
theorem dX9_canBecome_5 : decode cX9_canBecome 5 = .ok (.iconst 0, 1) := by decide +kernel
theorem dX9_canBecome_6 : decode cX9_canBecome 6 = .ok (.ireturn, 1) := by decide +kernel
theorem dX9_canBecome_7 : decode cX9_canBecome 7 = .ok (.iload_n 0, 1) := by decide +kernel
theorem dX9_canBecome_8 : decode cX9_canBecome 8 = .ok (.iconst 4, 1) := by decide +kernel
theorem dX9_canBecome_9 : decode cX9_canBecome 9 = .ok (.if_icmp .ne 19, 3) := by decide +kernel
theorem dX9_canBecome_12 : decode cX9_canBecome 12 = .ok (.iload_n 1, 1) := by decide +kernel
theorem dX9_canBecome_13 : decode cX9_canBecome 13 = .ok (.iconst 2, 1) := by decide +kernel
theorem dX9_canBecome_14 : decode cX9_canBecome 14 = .ok (.if_icmp .eq 8, 3) := by decide +kernel
theorem dX9_canBecome_17 : decode cX9_canBecome 17 = .ok (.iload_n 1, 1) := by decide +kernel
theorem dX9_canBecome_18 : decode cX9_canBecome 18 = .ok (.iconst 3, 1) := by decide +kernel
theorem dX9_canBecome_19 : decode cX9_canBecome 19 = .ok (.if_icmp .ne 7, 3) := by decide +kernel
theorem dX9_canBecome_22 : decode cX9_canBecome 22 = .ok (.iconst 1, 1) := by decide +kernel
theorem dX9_canBecome_23 : decode cX9_canBecome 23 = .ok (.goto 4, 3) := by decide +kernel
theorem dX9_canBecome_26 : decode cX9_canBecome 26 = .ok (.iconst 0, 1) := by decide +kernel
theorem dX9_canBecome_27 : decode cX9_canBecome 27 = .ok (.ireturn, 1) := by decide +kernel
theorem dX9_canBecome_28 : decode cX9_canBecome 28 = .ok (.iload_n 1, 1) := by decide +kernel
theorem dX9_canBecome_29 : decode cX9_canBecome 29 = .ok (.iconst 4, 1) := by decide +kernel
theorem dX9_canBecome_30 : decode cX9_canBecome 30 = .ok (.if_icmp .ne 13, 3) := by decide +kernel
theorem dX9_canBecome_33 : decode cX9_canBecome 33 = .ok (.iload_n 0, 1) := by decide +kernel
theorem dX9_canBecome_34 : decode cX9_canBecome 34 = .ok (.iconst 2, 1) := by decide +kernel
theorem dX9_canBecome_35 : decode cX9_canBecome 35 = .ok (.if_icmp .eq 8, 3) := by decide +kernel
theorem dX9_canBecome_38 : decode cX9_canBecome 38 = .ok (.iload_n 0, 1) := by decide +kernel
theorem dX9_canBecome_39 : decode cX9_canBecome 39 = .ok (.iconst 3, 1) := by decide +kernel
theorem dX9_canBecome_40 : decode cX9_canBecome 40 = .ok (.if_icmp .ne 7, 3) := by decide +kernel
theorem dX9_canBecome_43 : decode cX9_canBecome 43 = .ok (.iconst 1, 1) := by decide +kernel
theorem dX9_canBecome_44 : decode cX9_canBecome 44 = .ok (.goto 4, 3) := by decide +kernel
theorem dX9_canBecome_47 : decode cX9_canBecome 47 = .ok (.iconst 0, 1) := by decide +kernel
theorem dX9_canBecome_48 : decode cX9_canBecome 48 = .ok (.ireturn, 1) := by decide +kernel
theorem dX9_copySchema_0 : decode cX9_copySchema 0 = .ok (.iconst 0, 1) := by decide +kernel
theorem dX9_copySchema_1 : decode cX9_copySchema 1 = .ok (.istore_n 3, 1) := by decide +kernel
theorem dX9_copySchema_2 : decode cX9_copySchema 2 = .ok (.iload_n 3, 1) := by decide +kernel
theorem dX9_copySchema_3 : decode cX9_copySchema 3 = .ok (.bipush 8, 2) := by decide +kernel
theorem dX9_copySchema_5 : decode cX9_copySchema 5 = .ok (.if_icmp .ge 53, 3) := by decide +kernel
theorem dX9_copySchema_8 : decode cX9_copySchema 8 = .ok (.aload_n 0, 1) := by decide +kernel
theorem dX9_copySchema_9 : decode cX9_copySchema 9 = .ok (.getfield 42, 3) := by decide +kernel
theorem dX9_copySchema_12 : decode cX9_copySchema 12 = .ok (.bipush 8, 2) := by decide +kernel
theorem dX9_copySchema_14 : decode cX9_copySchema 14 = .ok (.iload_n 2, 1) := by decide +kernel
theorem dX9_copySchema_15 : decode cX9_copySchema 15 = .ok (.imul, 1) := by decide +kernel
theorem dX9_copySchema_16 : decode cX9_copySchema 16 = .ok (.iload_n 3, 1) := by decide +kernel
theorem dX9_copySchema_17 : decode cX9_copySchema 17 = .ok (.iadd, 1) := by decide +kernel
theorem dX9_copySchema_18 : decode cX9_copySchema 18 = .ok (.aload_n 0, 1) := by decide +kernel
theorem dX9_copySchema_19 : decode cX9_copySchema 19 = .ok (.getfield 42, 3) := by decide +kernel
theorem dX9_copySchema_22 : decode cX9_copySchema 22 = .ok (.bipush 8, 2) := by decide +kernel
theorem dX9_copySchema_24 : decode cX9_copySchema 24 = .ok (.iload_n 1, 1) := by decide +kernel
theorem dX9_copySchema_25 : decode cX9_copySchema 25 = .ok (.imul, 1) := by decide +kernel
theorem dX9_copySchema_26 : decode cX9_copySchema 26 = .ok (.iload_n 3, 1) := by decide +kernel
theorem dX9_copySchema_27 : decode cX9_copySchema 27 = .ok (.iadd, 1) := by decide +kernel
theorem dX9_copySchema_28 : decode cX9_copySchema 28 = .ok (.iaload, 1) := by decide +kernel
theorem dX9_copySchema_29 : decode cX9_copySchema 29 = .ok (.iastore, 1) := by decide +kernel
theorem dX9_copySchema_30 : decode cX9_copySchema 30 = .ok (.aload_n 0, 1) := by decide +kernel
theorem dX9_copySchema_31 : decode cX9_copySchema 31 = .ok (.getfield 45, 3) := by decide +kernel
theorem dX9_copySchema_34 : decode cX9_copySchema 34 = .ok (.bipush 8, 2) := by decide +kernel
theorem dX9_copySchema_36 : decode cX9_copySchema 36 = .ok (.iload_n 2, 1) := by decide +kernel
theorem dX9_copySchema_37 : decode cX9_copySchema 37 = .ok (.imul, 1) := by decide +kernel
theorem dX9_copySchema_38 : decode cX9_copySchema 38 = .ok (.iload_n 3, 1) := by decide +kernel
theorem dX9_copySchema_39 : decode cX9_copySchema 39 = .ok (.iadd, 1) := by decide +kernel
theorem dX9_copySchema_40 : decode cX9_copySchema 40 = .ok (.aload_n 0, 1) := by decide +kernel
theorem dX9_copySchema_41 : decode cX9_copySchema 41 = .ok (.getfield 45, 3) := by decide +kernel
theorem dX9_copySchema_44 : decode cX9_copySchema 44 = .ok (.bipush 8, 2) := by decide +kernel
theorem dX9_copySchema_46 : decode cX9_copySchema 46 = .ok (.iload_n 1, 1) := by decide +kernel
theorem dX9_copySchema_47 : decode cX9_copySchema 47 = .ok (.imul, 1) := by decide +kernel
theorem dX9_copySchema_48 : decode cX9_copySchema 48 = .ok (.iload_n 3, 1) := by decide +kernel
theorem dX9_copySchema_49 : decode cX9_copySchema 49 = .ok (.iadd, 1) := by decide +kernel
theorem dX9_copySchema_50 : decode cX9_copySchema 50 = .ok (.iaload, 1) := by decide +kernel
theorem dX9_copySchema_51 : decode cX9_copySchema 51 = .ok (.iastore, 1) := by decide +kernel
theorem dX9_copySchema_52 : decode cX9_copySchema 52 = .ok (.iinc 3 1, 3) := by decide +kernel
theorem dX9_copySchema_55 : decode cX9_copySchema 55 = .ok (.goto (-53), 3) := by decide +kernel
theorem dX9_copySchema_58 : decode cX9_copySchema 58 = .ok (.aload_n 0, 1) := by decide +kernel
theorem dX9_copySchema_59 : decode cX9_copySchema 59 = .ok (.getfield 48, 3) := by decide +kernel
theorem dX9_copySchema_62 : decode cX9_copySchema 62 = .ok (.iload_n 2, 1) := by decide +kernel
theorem dX9_copySchema_63 : decode cX9_copySchema 63 = .ok (.aload_n 0, 1) := by decide +kernel
theorem dX9_copySchema_64 : decode cX9_copySchema 64 = .ok (.getfield 48, 3) := by decide +kernel
theorem dX9_copySchema_67 : decode cX9_copySchema 67 = .ok (.iload_n 1, 1) := by decide +kernel
theorem dX9_copySchema_68 : decode cX9_copySchema 68 = .ok (.iaload, 1) := by decide +kernel
theorem dX9_copySchema_69 : decode cX9_copySchema 69 = .ok (.iastore, 1) := by decide +kernel
theorem dX9_copySchema_70 : decode cX9_copySchema 70 = .ok (.return_, 1) := by decide +kernel
theorem dX9_place_0 : decode cX9_place 0 = .ok (.iconst (-1), 1) := by decide +kernel
theorem dX9_place_1 : decode cX9_place 1 = .ok (.istore_n 2, 1) := by decide +kernel
theorem dX9_place_2 : decode cX9_place 2 = .ok (.iconst 0, 1) := by decide +kernel
theorem dX9_place_3 : decode cX9_place 3 = .ok (.istore_n 3, 1) := by decide +kernel
theorem dX9_place_4 : decode cX9_place 4 = .ok (.iload_n 3, 1) := by decide +kernel
theorem dX9_place_5 : decode cX9_place 5 = .ok (.aload_n 0, 1) := by decide +kernel
theorem dX9_place_6 : decode cX9_place 6 = .ok (.getfield 48, 3) := by decide +kernel
theorem dX9_place_9 : decode cX9_place 9 = .ok (.iconst 2, 1) := by decide +kernel
theorem dX9_place_10 : decode cX9_place 10 = .ok (.iaload, 1) := by decide +kernel
theorem dX9_place_11 : decode cX9_place 11 = .ok (.if_icmp .ge 28, 3) := by decide +kernel
theorem dX9_place_14 : decode cX9_place 14 = .ok (.aload_n 0, 1) := by decide +kernel
theorem dX9_place_15 : decode cX9_place 15 = .ok (.getfield 42, 3) := by decide +kernel
theorem dX9_place_18 : decode cX9_place 18 = .ok (.bipush 16, 2) := by decide +kernel
theorem dX9_place_20 : decode cX9_place 20 = .ok (.iload_n 3, 1) := by decide +kernel
theorem dX9_place_21 : decode cX9_place 21 = .ok (.iadd, 1) := by decide +kernel
theorem dX9_place_22 : decode cX9_place 22 = .ok (.iaload, 1) := by decide +kernel
theorem dX9_place_23 : decode cX9_place 23 = .ok (.iload_n 1, 1) := by decide +kernel
theorem dX9_place_24 : decode cX9_place 24 = .ok (.if_icmp .ne 7, 3) := by decide +kernel
theorem dX9_place_27 : decode cX9_place 27 = .ok (.iload_n 3, 1) := by decide +kernel
theorem dX9_place_28 : decode cX9_place 28 = .ok (.goto 4, 3) := by decide +kernel
theorem dX9_place_31 : decode cX9_place 31 = .ok (.iload_n 2, 1) := by decide +kernel
theorem dX9_place_32 : decode cX9_place 32 = .ok (.istore_n 2, 1) := by decide +kernel
theorem dX9_place_33 : decode cX9_place 33 = .ok (.iinc 3 1, 3) := by decide +kernel
theorem dX9_place_36 : decode cX9_place 36 = .ok (.goto (-32), 3) := by decide +kernel
theorem dX9_place_39 : decode cX9_place 39 = .ok (.iload_n 2, 1) := by decide +kernel
theorem dX9_place_40 : decode cX9_place 40 = .ok (.ireturn, 1) := by decide +kernel
theorem dX9_isWrong_0 : decode cX9_isWrong 0 = .ok (.aload_n 0, 1) := by decide +kernel
theorem dX9_isWrong_1 : decode cX9_isWrong 1 = .ok (.aload_n 0, 1) := by decide +kernel
theorem dX9_isWrong_2 : decode cX9_isWrong 2 = .ok (.getfield 54, 3) := by decide +kernel
theorem dX9_isWrong_5 : decode cX9_isWrong 5 = .ok (.iload_n 1, 1) := by decide +kernel
theorem dX9_isWrong_6 : decode cX9_isWrong 6 = .ok (.iaload, 1) := by decide +kernel
theorem dX9_isWrong_7 : decode cX9_isWrong 7 = .ok (.invokevirtual 136, 3) := by decide +kernel
theorem dX9_isWrong_10 : decode cX9_isWrong 10 = .ok (.istore_n 2, 1) := by decide +kernel
theorem dX9_isWrong_11 : decode cX9_isWrong 11 = .ok (.aload_n 0, 1) := by decide +kernel
theorem dX9_isWrong_12 : decode cX9_isWrong 12 = .ok (.getfield 51, 3) := by decide +kernel
theorem dX9_isWrong_15 : decode cX9_isWrong 15 = .ok (.iload_n 1, 1) := by decide +kernel
theorem dX9_isWrong_16 : decode cX9_isWrong 16 = .ok (.iaload, 1) := by decide +kernel
theorem dX9_isWrong_17 : decode cX9_isWrong 17 = .ok (.tableswitch 81 0 2 #[27, 48, 58], 27) := by decide +kernel
theorem dX9_isWrong_44 : decode cX9_isWrong 44 = .ok (.iload_n 2, 1) := by decide +kernel
theorem dX9_isWrong_45 : decode cX9_isWrong 45 = .ok (.ifCond .ge 14, 3) := by decide +kernel
theorem dX9_isWrong_48 : decode cX9_isWrong 48 = .ok (.aload_n 0, 1) := by decide +kernel
theorem dX9_isWrong_49 : decode cX9_isWrong 49 = .ok (.getfield 48, 3) := by decide +kernel
theorem dX9_isWrong_52 : decode cX9_isWrong 52 = .ok (.iconst 2, 1) := by decide +kernel
theorem dX9_isWrong_53 : decode cX9_isWrong 53 = .ok (.iaload, 1) := by decide +kernel
theorem dX9_isWrong_54 : decode cX9_isWrong 54 = .ok (.bipush 8, 2) := by decide +kernel
theorem dX9_isWrong_56 : decode cX9_isWrong 56 = .ok (.if_icmp .ne 7, 3) := by decide +kernel
theorem dX9_isWrong_59 : decode cX9_isWrong 59 = .ok (.iconst 1, 1) := by decide +kernel
theorem dX9_isWrong_60 : decode cX9_isWrong 60 = .ok (.goto 4, 3) := by decide +kernel
theorem dX9_isWrong_63 : decode cX9_isWrong 63 = .ok (.iconst 0, 1) := by decide +kernel
theorem dX9_isWrong_64 : decode cX9_isWrong 64 = .ok (.ireturn, 1) := by decide +kernel
theorem dX9_isWrong_65 : decode cX9_isWrong 65 = .ok (.iload_n 2, 1) := by decide +kernel
theorem dX9_isWrong_66 : decode cX9_isWrong 66 = .ok (.ifCond .ge 7, 3) := by decide +kernel
theorem dX9_isWrong_69 : decode cX9_isWrong 69 = .ok (.iconst 1, 1) := by decide +kernel
theorem dX9_isWrong_70 : decode cX9_isWrong 70 = .ok (.goto 4, 3) := by decide +kernel
theorem dX9_isWrong_73 : decode cX9_isWrong 73 = .ok (.iconst 0, 1) := by decide +kernel
theorem dX9_isWrong_74 : decode cX9_isWrong 74 = .ok (.ireturn, 1) := by decide +kernel
theorem dX9_isWrong_75 : decode cX9_isWrong 75 = .ok (.iload_n 2, 1) := by decide +kernel
theorem dX9_isWrong_76 : decode cX9_isWrong 76 = .ok (.ifCond .lt 16, 3) := by decide +kernel
theorem dX9_isWrong_79 : decode cX9_isWrong 79 = .ok (.aload_n 0, 1) := by decide +kernel
theorem dX9_isWrong_80 : decode cX9_isWrong 80 = .ok (.aload_n 0, 1) := by decide +kernel
theorem dX9_isWrong_81 : decode cX9_isWrong 81 = .ok (.getfield 57, 3) := by decide +kernel
theorem dX9_isWrong_84 : decode cX9_isWrong 84 = .ok (.iload_n 1, 1) := by decide +kernel
theorem dX9_isWrong_85 : decode cX9_isWrong 85 = .ok (.iaload, 1) := by decide +kernel
theorem dX9_isWrong_86 : decode cX9_isWrong 86 = .ok (.invokevirtual 136, 3) := by decide +kernel
theorem dX9_isWrong_89 : decode cX9_isWrong 89 = .ok (.ifCond .lt 7, 3) := by decide +kernel
theorem dX9_isWrong_92 : decode cX9_isWrong 92 = .ok (.iconst 1, 1) := by decide +kernel
theorem dX9_isWrong_93 : decode cX9_isWrong 93 = .ok (.goto 4, 3) := by decide +kernel
theorem dX9_isWrong_96 : decode cX9_isWrong 96 = .ok (.iconst 0, 1) := by decide +kernel
theorem dX9_isWrong_97 : decode cX9_isWrong 97 = .ok (.ireturn, 1) := by decide +kernel
theorem dX9_isWrong_98 : decode cX9_isWrong 98 = .ok (.iload_n 2, 1) := by decide +kernel
theorem dX9_isWrong_99 : decode cX9_isWrong 99 = .ok (.ifCond .lt 24, 3) := by decide +kernel
theorem dX9_isWrong_102 : decode cX9_isWrong 102 = .ok (.aload_n 0, 1) := by decide +kernel
theorem dX9_isWrong_103 : decode cX9_isWrong 103 = .ok (.getfield 45, 3) := by decide +kernel
theorem dX9_isWrong_106 : decode cX9_isWrong 106 = .ok (.bipush 16, 2) := by decide +kernel
theorem dX9_isWrong_108 : decode cX9_isWrong 108 = .ok (.iload_n 2, 1) := by decide +kernel
theorem dX9_isWrong_109 : decode cX9_isWrong 109 = .ok (.iadd, 1) := by decide +kernel
theorem dX9_isWrong_110 : decode cX9_isWrong 110 = .ok (.iaload, 1) := by decide +kernel
theorem dX9_isWrong_111 : decode cX9_isWrong 111 = .ok (.aload_n 0, 1) := by decide +kernel
theorem dX9_isWrong_112 : decode cX9_isWrong 112 = .ok (.getfield 57, 3) := by decide +kernel
theorem dX9_isWrong_115 : decode cX9_isWrong 115 = .ok (.iload_n 1, 1) := by decide +kernel
theorem dX9_isWrong_116 : decode cX9_isWrong 116 = .ok (.iaload, 1) := by decide +kernel
theorem dX9_isWrong_117 : decode cX9_isWrong 117 = .ok (.invokestatic 140, 3) := by decide +kernel
theorem dX9_isWrong_120 : decode cX9_isWrong 120 = .ok (.ifCond .ne 7, 3) := by decide +kernel
theorem dX9_isWrong_123 : decode cX9_isWrong 123 = .ok (.iconst 1, 1) := by decide +kernel
theorem dX9_isWrong_124 : decode cX9_isWrong 124 = .ok (.goto 4, 3) := by decide +kernel
theorem dX9_isWrong_127 : decode cX9_isWrong 127 = .ok (.iconst 0, 1) := by decide +kernel
theorem dX9_isWrong_128 : decode cX9_isWrong 128 = .ok (.ireturn, 1) := by decide +kernel
theorem dX9_step_0 : decode cX9_step 0 = .ok (.aload_n 0, 1) := by decide +kernel
theorem dX9_step_1 : decode cX9_step 1 = .ok (.aload_n 0, 1) := by decide +kernel
theorem dX9_step_2 : decode cX9_step 2 = .ok (.getfield 54, 3) := by decide +kernel
theorem dX9_step_5 : decode cX9_step 5 = .ok (.iload_n 1, 1) := by decide +kernel
theorem dX9_step_6 : decode cX9_step 6 = .ok (.iaload, 1) := by decide +kernel
theorem dX9_step_7 : decode cX9_step 7 = .ok (.invokevirtual 136, 3) := by decide +kernel
theorem dX9_step_10 : decode cX9_step 10 = .ok (.istore_n 2, 1) := by decide +kernel
theorem dX9_step_11 : decode cX9_step 11 = .ok (.aload_n 0, 1) := by decide +kernel
theorem dX9_step_12 : decode cX9_step 12 = .ok (.getfield 51, 3) := by decide +kernel
theorem dX9_step_15 : decode cX9_step 15 = .ok (.iload_n 1, 1) := by decide +kernel
theorem dX9_step_16 : decode cX9_step 16 = .ok (.iaload, 1) := by decide +kernel
theorem dX9_step_17 : decode cX9_step 17 = .ok (.tableswitch 167 0 2 #[27, 80, 149], 27) := by decide +kernel
theorem dX9_step_44 : decode cX9_step 44 = .ok (.aload_n 0, 1) := by decide +kernel
theorem dX9_step_45 : decode cX9_step 45 = .ok (.getfield 42, 3) := by decide +kernel
theorem dX9_step_48 : decode cX9_step 48 = .ok (.bipush 16, 2) := by decide +kernel
theorem dX9_step_50 : decode cX9_step 50 = .ok (.aload_n 0, 1) := by decide +kernel
theorem dX9_step_51 : decode cX9_step 51 = .ok (.getfield 48, 3) := by decide +kernel
theorem dX9_step_54 : decode cX9_step 54 = .ok (.iconst 2, 1) := by decide +kernel
theorem dX9_step_55 : decode cX9_step 55 = .ok (.iaload, 1) := by decide +kernel
theorem dX9_step_56 : decode cX9_step 56 = .ok (.iadd, 1) := by decide +kernel
theorem dX9_step_57 : decode cX9_step 57 = .ok (.aload_n 0, 1) := by decide +kernel
theorem dX9_step_58 : decode cX9_step 58 = .ok (.getfield 54, 3) := by decide +kernel
theorem dX9_step_61 : decode cX9_step 61 = .ok (.iload_n 1, 1) := by decide +kernel
theorem dX9_step_62 : decode cX9_step 62 = .ok (.iaload, 1) := by decide +kernel
theorem dX9_step_63 : decode cX9_step 63 = .ok (.iastore, 1) := by decide +kernel
theorem dX9_step_64 : decode cX9_step 64 = .ok (.aload_n 0, 1) := by decide +kernel
theorem dX9_step_65 : decode cX9_step 65 = .ok (.getfield 45, 3) := by decide +kernel
theorem dX9_step_68 : decode cX9_step 68 = .ok (.bipush 16, 2) := by decide +kernel
theorem dX9_step_70 : decode cX9_step 70 = .ok (.aload_n 0, 1) := by decide +kernel
theorem dX9_step_71 : decode cX9_step 71 = .ok (.getfield 48, 3) := by decide +kernel
theorem dX9_step_74 : decode cX9_step 74 = .ok (.iconst 2, 1) := by decide +kernel
theorem dX9_step_75 : decode cX9_step 75 = .ok (.iaload, 1) := by decide +kernel
theorem dX9_step_76 : decode cX9_step 76 = .ok (.iadd, 1) := by decide +kernel
theorem dX9_step_77 : decode cX9_step 77 = .ok (.aload_n 0, 1) := by decide +kernel
theorem dX9_step_78 : decode cX9_step 78 = .ok (.getfield 57, 3) := by decide +kernel
theorem dX9_step_81 : decode cX9_step 81 = .ok (.iload_n 1, 1) := by decide +kernel
theorem dX9_step_82 : decode cX9_step 82 = .ok (.iaload, 1) := by decide +kernel
theorem dX9_step_83 : decode cX9_step 83 = .ok (.iastore, 1) := by decide +kernel
theorem dX9_step_84 : decode cX9_step 84 = .ok (.aload_n 0, 1) := by decide +kernel
theorem dX9_step_85 : decode cX9_step 85 = .ok (.getfield 48, 3) := by decide +kernel
theorem dX9_step_88 : decode cX9_step 88 = .ok (.iconst 2, 1) := by decide +kernel
theorem dX9_step_89 : decode cX9_step 89 = .ok (.dup2, 1) := by decide +kernel
theorem dX9_step_90 : decode cX9_step 90 = .ok (.iaload, 1) := by decide +kernel
theorem dX9_step_91 : decode cX9_step 91 = .ok (.iconst 1, 1) := by decide +kernel
theorem dX9_step_92 : decode cX9_step 92 = .ok (.iadd, 1) := by decide +kernel
theorem dX9_step_93 : decode cX9_step 93 = .ok (.iastore, 1) := by decide +kernel
theorem dX9_step_94 : decode cX9_step 94 = .ok (.goto 105, 3) := by decide +kernel
theorem dX9_step_97 : decode cX9_step 97 = .ok (.iload_n 2, 1) := by decide +kernel
theorem dX9_step_98 : decode cX9_step 98 = .ok (.istore_n 3, 1) := by decide +kernel
theorem dX9_step_99 : decode cX9_step 99 = .ok (.iload_n 3, 1) := by decide +kernel
theorem dX9_step_100 : decode cX9_step 100 = .ok (.iconst 1, 1) := by decide +kernel
theorem dX9_step_101 : decode cX9_step 101 = .ok (.iadd, 1) := by decide +kernel
theorem dX9_step_102 : decode cX9_step 102 = .ok (.aload_n 0, 1) := by decide +kernel
theorem dX9_step_103 : decode cX9_step 103 = .ok (.getfield 48, 3) := by decide +kernel
theorem dX9_step_106 : decode cX9_step 106 = .ok (.iconst 2, 1) := by decide +kernel
theorem dX9_step_107 : decode cX9_step 107 = .ok (.iaload, 1) := by decide +kernel
theorem dX9_step_108 : decode cX9_step 108 = .ok (.if_icmp .ge 45, 3) := by decide +kernel
theorem dX9_step_111 : decode cX9_step 111 = .ok (.aload_n 0, 1) := by decide +kernel
theorem dX9_step_112 : decode cX9_step 112 = .ok (.getfield 42, 3) := by decide +kernel
theorem dX9_step_115 : decode cX9_step 115 = .ok (.bipush 16, 2) := by decide +kernel
theorem dX9_step_117 : decode cX9_step 117 = .ok (.iload_n 3, 1) := by decide +kernel
theorem dX9_step_118 : decode cX9_step 118 = .ok (.iadd, 1) := by decide +kernel
theorem dX9_step_119 : decode cX9_step 119 = .ok (.aload_n 0, 1) := by decide +kernel
theorem dX9_step_120 : decode cX9_step 120 = .ok (.getfield 42, 3) := by decide +kernel
theorem dX9_step_123 : decode cX9_step 123 = .ok (.bipush 17, 2) := by decide +kernel
theorem dX9_step_125 : decode cX9_step 125 = .ok (.iload_n 3, 1) := by decide +kernel
theorem dX9_step_126 : decode cX9_step 126 = .ok (.iadd, 1) := by decide +kernel
theorem dX9_step_127 : decode cX9_step 127 = .ok (.iaload, 1) := by decide +kernel
theorem dX9_step_128 : decode cX9_step 128 = .ok (.iastore, 1) := by decide +kernel
theorem dX9_step_129 : decode cX9_step 129 = .ok (.aload_n 0, 1) := by decide +kernel
theorem dX9_step_130 : decode cX9_step 130 = .ok (.getfield 45, 3) := by decide +kernel
theorem dX9_step_133 : decode cX9_step 133 = .ok (.bipush 16, 2) := by decide +kernel
theorem dX9_step_135 : decode cX9_step 135 = .ok (.iload_n 3, 1) := by decide +kernel
theorem dX9_step_136 : decode cX9_step 136 = .ok (.iadd, 1) := by decide +kernel
theorem dX9_step_137 : decode cX9_step 137 = .ok (.aload_n 0, 1) := by decide +kernel
theorem dX9_step_138 : decode cX9_step 138 = .ok (.getfield 45, 3) := by decide +kernel
theorem dX9_step_141 : decode cX9_step 141 = .ok (.bipush 17, 2) := by decide +kernel
theorem dX9_step_143 : decode cX9_step 143 = .ok (.iload_n 3, 1) := by decide +kernel
theorem dX9_step_144 : decode cX9_step 144 = .ok (.iadd, 1) := by decide +kernel
theorem dX9_step_145 : decode cX9_step 145 = .ok (.iaload, 1) := by decide +kernel
theorem dX9_step_146 : decode cX9_step 146 = .ok (.iastore, 1) := by decide +kernel
theorem dX9_step_147 : decode cX9_step 147 = .ok (.iinc 3 1, 3) := by decide +kernel
theorem dX9_step_150 : decode cX9_step 150 = .ok (.goto (-51), 3) := by decide +kernel
theorem dX9_step_153 : decode cX9_step 153 = .ok (.aload_n 0, 1) := by decide +kernel
theorem dX9_step_154 : decode cX9_step 154 = .ok (.getfield 48, 3) := by decide +kernel
theorem dX9_step_157 : decode cX9_step 157 = .ok (.iconst 2, 1) := by decide +kernel
theorem dX9_step_158 : decode cX9_step 158 = .ok (.dup2, 1) := by decide +kernel
theorem dX9_step_159 : decode cX9_step 159 = .ok (.iaload, 1) := by decide +kernel
theorem dX9_step_160 : decode cX9_step 160 = .ok (.iconst 1, 1) := by decide +kernel
theorem dX9_step_161 : decode cX9_step 161 = .ok (.isub, 1) := by decide +kernel
theorem dX9_step_162 : decode cX9_step 162 = .ok (.iastore, 1) := by decide +kernel
theorem dX9_step_163 : decode cX9_step 163 = .ok (.goto 36, 3) := by decide +kernel
theorem dX9_step_166 : decode cX9_step 166 = .ok (.aload_n 0, 1) := by decide +kernel
theorem dX9_step_167 : decode cX9_step 167 = .ok (.getfield 42, 3) := by decide +kernel
theorem dX9_step_170 : decode cX9_step 170 = .ok (.bipush 16, 2) := by decide +kernel
theorem dX9_step_172 : decode cX9_step 172 = .ok (.iload_n 2, 1) := by decide +kernel
theorem dX9_step_173 : decode cX9_step 173 = .ok (.iadd, 1) := by decide +kernel
theorem dX9_step_174 : decode cX9_step 174 = .ok (.aload_n 0, 1) := by decide +kernel
theorem dX9_step_175 : decode cX9_step 175 = .ok (.getfield 57, 3) := by decide +kernel
theorem dX9_step_178 : decode cX9_step 178 = .ok (.iload_n 1, 1) := by decide +kernel
theorem dX9_step_179 : decode cX9_step 179 = .ok (.iaload, 1) := by decide +kernel
theorem dX9_step_180 : decode cX9_step 180 = .ok (.iastore, 1) := by decide +kernel
theorem dX9_step_181 : decode cX9_step 181 = .ok (.goto 18, 3) := by decide +kernel
theorem dX9_step_184 : decode cX9_step 184 = .ok (.aload_n 0, 1) := by decide +kernel
theorem dX9_step_185 : decode cX9_step 185 = .ok (.getfield 45, 3) := by decide +kernel
theorem dX9_step_188 : decode cX9_step 188 = .ok (.bipush 16, 2) := by decide +kernel
theorem dX9_step_190 : decode cX9_step 190 = .ok (.iload_n 2, 1) := by decide +kernel
theorem dX9_step_191 : decode cX9_step 191 = .ok (.iadd, 1) := by decide +kernel
theorem dX9_step_192 : decode cX9_step 192 = .ok (.aload_n 0, 1) := by decide +kernel
theorem dX9_step_193 : decode cX9_step 193 = .ok (.getfield 57, 3) := by decide +kernel
theorem dX9_step_196 : decode cX9_step 196 = .ok (.iload_n 1, 1) := by decide +kernel
theorem dX9_step_197 : decode cX9_step 197 = .ok (.iaload, 1) := by decide +kernel
theorem dX9_step_198 : decode cX9_step 198 = .ok (.iastore, 1) := by decide +kernel
theorem dX9_step_199 : decode cX9_step 199 = .ok (.return_, 1) := by decide +kernel
theorem dX9_up_0 : decode cX9_up 0 = .ok (.aload_n 0, 1) := by decide +kernel
theorem dX9_up_1 : decode cX9_up 1 = .ok (.iload_n 1, 1) := by decide +kernel
theorem dX9_up_2 : decode cX9_up 2 = .ok (.iload_n 2, 1) := by decide +kernel
theorem dX9_up_3 : decode cX9_up 3 = .ok (.invokevirtual 144, 3) := by decide +kernel
theorem dX9_up_6 : decode cX9_up 6 = .ok (.aload_n 0, 1) := by decide +kernel
theorem dX9_up_7 : decode cX9_up 7 = .ok (.iconst 0, 1) := by decide +kernel
theorem dX9_up_8 : decode cX9_up 8 = .ok (.iconst 2, 1) := by decide +kernel
theorem dX9_up_9 : decode cX9_up 9 = .ok (.invokevirtual 147, 3) := by decide +kernel
theorem dX9_up_12 : decode cX9_up 12 = .ok (.bipush 6, 2) := by decide +kernel
theorem dX9_up_14 : decode cX9_up 14 = .ok (.istore_n 3, 1) := by decide +kernel
theorem dX9_up_15 : decode cX9_up 15 = .ok (.iload_n 3, 1) := by decide +kernel
theorem dX9_up_16 : decode cX9_up 16 = .ok (.bipush 6, 2) := by decide +kernel
theorem dX9_up_18 : decode cX9_up 18 = .ok (.aload_n 0, 1) := by decide +kernel
theorem dX9_up_19 : decode cX9_up 19 = .ok (.getfield 150, 3) := by decide +kernel
theorem dX9_up_22 : decode cX9_up 22 = .ok (.iadd, 1) := by decide +kernel
theorem dX9_up_23 : decode cX9_up 23 = .ok (.if_icmp .ge 164, 3) := by decide +kernel
theorem dX9_up_26 : decode cX9_up 26 = .ok (.aload_n 0, 1) := by decide +kernel
theorem dX9_up_27 : decode cX9_up 27 = .ok (.aload_n 0, 1) := by decide +kernel
theorem dX9_up_28 : decode cX9_up 28 = .ok (.getfield 54, 3) := by decide +kernel
theorem dX9_up_31 : decode cX9_up 31 = .ok (.iload_n 3, 1) := by decide +kernel
theorem dX9_up_32 : decode cX9_up 32 = .ok (.iaload, 1) := by decide +kernel
theorem dX9_up_33 : decode cX9_up 33 = .ok (.invokevirtual 136, 3) := by decide +kernel
theorem dX9_up_36 : decode cX9_up 36 = .ok (.istore 4, 2) := by decide +kernel
theorem dX9_up_38 : decode cX9_up 38 = .ok (.aload_n 0, 1) := by decide +kernel
theorem dX9_up_39 : decode cX9_up 39 = .ok (.getfield 51, 3) := by decide +kernel
theorem dX9_up_42 : decode cX9_up 42 = .ok (.iload_n 3, 1) := by decide +kernel
theorem dX9_up_43 : decode cX9_up 43 = .ok (.iaload, 1) := by decide +kernel
theorem dX9_up_44 : decode cX9_up 44 = .ok (.tableswitch 132 0 3 #[32, 65, 132, 105], 32) := by decide +kernel
theorem dX9_up_76 : decode cX9_up 76 = .ok (.aload_n 0, 1) := by decide +kernel
theorem dX9_up_77 : decode cX9_up 77 = .ok (.iload_n 2, 1) := by decide +kernel
theorem dX9_up_78 : decode cX9_up 78 = .ok (.aload_n 0, 1) := by decide +kernel
theorem dX9_up_79 : decode cX9_up 79 = .ok (.getfield 48, 3) := by decide +kernel
theorem dX9_up_82 : decode cX9_up 82 = .ok (.iconst 2, 1) := by decide +kernel
theorem dX9_up_83 : decode cX9_up 83 = .ok (.iaload, 1) := by decide +kernel
theorem dX9_up_84 : decode cX9_up 84 = .ok (.iadd, 1) := by decide +kernel
theorem dX9_up_85 : decode cX9_up 85 = .ok (.aload_n 0, 1) := by decide +kernel
theorem dX9_up_86 : decode cX9_up 86 = .ok (.getfield 57, 3) := by decide +kernel
theorem dX9_up_89 : decode cX9_up 89 = .ok (.iload_n 3, 1) := by decide +kernel
theorem dX9_up_90 : decode cX9_up 90 = .ok (.iaload, 1) := by decide +kernel
theorem dX9_up_91 : decode cX9_up 91 = .ok (.aload_n 0, 1) := by decide +kernel
theorem dX9_up_92 : decode cX9_up 92 = .ok (.getfield 60, 3) := by decide +kernel
theorem dX9_up_95 : decode cX9_up 95 = .ok (.iload_n 3, 1) := by decide +kernel
theorem dX9_up_96 : decode cX9_up 96 = .ok (.iaload, 1) := by decide +kernel
theorem dX9_up_97 : decode cX9_up 97 = .ok (.aload_n 0, 1) := by decide +kernel
theorem dX9_up_98 : decode cX9_up 98 = .ok (.getfield 63, 3) := by decide +kernel
theorem dX9_up_101 : decode cX9_up 101 = .ok (.iload_n 3, 1) := by decide +kernel
theorem dX9_up_102 : decode cX9_up 102 = .ok (.iaload, 1) := by decide +kernel
theorem dX9_up_103 : decode cX9_up 103 = .ok (.invokevirtual 153, 3) := by decide +kernel
theorem dX9_up_106 : decode cX9_up 106 = .ok (.goto 70, 3) := by decide +kernel
theorem dX9_up_109 : decode cX9_up 109 = .ok (.iload 4, 2) := by decide +kernel
theorem dX9_up_111 : decode cX9_up 111 = .ok (.istore 5, 2) := by decide +kernel
theorem dX9_up_113 : decode cX9_up 113 = .ok (.iload 5, 2) := by decide +kernel
theorem dX9_up_115 : decode cX9_up 115 = .ok (.iconst 1, 1) := by decide +kernel
theorem dX9_up_116 : decode cX9_up 116 = .ok (.iadd, 1) := by decide +kernel
theorem dX9_up_117 : decode cX9_up 117 = .ok (.aload_n 0, 1) := by decide +kernel
theorem dX9_up_118 : decode cX9_up 118 = .ok (.getfield 48, 3) := by decide +kernel
theorem dX9_up_121 : decode cX9_up 121 = .ok (.iconst 2, 1) := by decide +kernel
theorem dX9_up_122 : decode cX9_up 122 = .ok (.iaload, 1) := by decide +kernel
theorem dX9_up_123 : decode cX9_up 123 = .ok (.if_icmp .ge 23, 3) := by decide +kernel
theorem dX9_up_126 : decode cX9_up 126 = .ok (.aload_n 0, 1) := by decide +kernel
theorem dX9_up_127 : decode cX9_up 127 = .ok (.iload_n 2, 1) := by decide +kernel
theorem dX9_up_128 : decode cX9_up 128 = .ok (.iload 5, 2) := by decide +kernel
theorem dX9_up_130 : decode cX9_up 130 = .ok (.iadd, 1) := by decide +kernel
theorem dX9_up_131 : decode cX9_up 131 = .ok (.iconst 1, 1) := by decide +kernel
theorem dX9_up_132 : decode cX9_up 132 = .ok (.iadd, 1) := by decide +kernel
theorem dX9_up_133 : decode cX9_up 133 = .ok (.iload_n 2, 1) := by decide +kernel
theorem dX9_up_134 : decode cX9_up 134 = .ok (.iload 5, 2) := by decide +kernel
theorem dX9_up_136 : decode cX9_up 136 = .ok (.iadd, 1) := by decide +kernel
theorem dX9_up_137 : decode cX9_up 137 = .ok (.invokevirtual 97, 3) := by decide +kernel
theorem dX9_up_140 : decode cX9_up 140 = .ok (.iinc 5 1, 3) := by decide +kernel
theorem dX9_up_143 : decode cX9_up 143 = .ok (.goto (-30), 3) := by decide +kernel
theorem dX9_up_146 : decode cX9_up 146 = .ok (.goto 30, 3) := by decide +kernel
theorem dX9_up_149 : decode cX9_up 149 = .ok (.aload_n 0, 1) := by decide +kernel
theorem dX9_up_150 : decode cX9_up 150 = .ok (.iload_n 2, 1) := by decide +kernel
theorem dX9_up_151 : decode cX9_up 151 = .ok (.iload 4, 2) := by decide +kernel
theorem dX9_up_153 : decode cX9_up 153 = .ok (.iadd, 1) := by decide +kernel
theorem dX9_up_154 : decode cX9_up 154 = .ok (.aload_n 0, 1) := by decide +kernel
theorem dX9_up_155 : decode cX9_up 155 = .ok (.getfield 45, 3) := by decide +kernel
theorem dX9_up_158 : decode cX9_up 158 = .ok (.bipush 16, 2) := by decide +kernel
theorem dX9_up_160 : decode cX9_up 160 = .ok (.iload 4, 2) := by decide +kernel
theorem dX9_up_162 : decode cX9_up 162 = .ok (.iadd, 1) := by decide +kernel
theorem dX9_up_163 : decode cX9_up 163 = .ok (.iaload, 1) := by decide +kernel
theorem dX9_up_164 : decode cX9_up 164 = .ok (.aload_n 0, 1) := by decide +kernel
theorem dX9_up_165 : decode cX9_up 165 = .ok (.getfield 57, 3) := by decide +kernel
theorem dX9_up_168 : decode cX9_up 168 = .ok (.iload_n 3, 1) := by decide +kernel
theorem dX9_up_169 : decode cX9_up 169 = .ok (.iaload, 1) := by decide +kernel
theorem dX9_up_170 : decode cX9_up 170 = .ok (.invokevirtual 157, 3) := by decide +kernel
theorem dX9_up_173 : decode cX9_up 173 = .ok (.goto 3, 3) := by decide +kernel
theorem dX9_up_176 : decode cX9_up 176 = .ok (.aload_n 0, 1) := by decide +kernel
theorem dX9_up_177 : decode cX9_up 177 = .ok (.iload_n 3, 1) := by decide +kernel
theorem dX9_up_178 : decode cX9_up 178 = .ok (.invokevirtual 161, 3) := by decide +kernel
theorem dX9_up_181 : decode cX9_up 181 = .ok (.iinc 3 1, 3) := by decide +kernel
theorem dX9_up_184 : decode cX9_up 184 = .ok (.goto (-169), 3) := by decide +kernel
theorem dX9_up_187 : decode cX9_up 187 = .ok (.return_, 1) := by decide +kernel
theorem dX9_follow_0 : decode cX9_follow 0 = .ok (.aload_n 0, 1) := by decide +kernel
theorem dX9_follow_1 : decode cX9_follow 1 = .ok (.iconst 0, 1) := by decide +kernel
theorem dX9_follow_2 : decode cX9_follow 2 = .ok (.iconst 2, 1) := by decide +kernel
theorem dX9_follow_3 : decode cX9_follow 3 = .ok (.invokevirtual 147, 3) := by decide +kernel
theorem dX9_follow_6 : decode cX9_follow 6 = .ok (.iconst 0, 1) := by decide +kernel
theorem dX9_follow_7 : decode cX9_follow 7 = .ok (.istore_n 1, 1) := by decide +kernel
theorem dX9_follow_8 : decode cX9_follow 8 = .ok (.iload_n 1, 1) := by decide +kernel
theorem dX9_follow_9 : decode cX9_follow 9 = .ok (.bipush 8, 2) := by decide +kernel
theorem dX9_follow_11 : decode cX9_follow 11 = .ok (.if_icmp .ge 30, 3) := by decide +kernel
theorem dX9_follow_14 : decode cX9_follow 14 = .ok (.aload_n 0, 1) := by decide +kernel
theorem dX9_follow_15 : decode cX9_follow 15 = .ok (.getfield 85, 3) := by decide +kernel
theorem dX9_follow_18 : decode cX9_follow 18 = .ok (.iload_n 1, 1) := by decide +kernel
theorem dX9_follow_19 : decode cX9_follow 19 = .ok (.iload_n 1, 1) := by decide +kernel
theorem dX9_follow_20 : decode cX9_follow 20 = .ok (.iastore, 1) := by decide +kernel
theorem dX9_follow_21 : decode cX9_follow 21 = .ok (.aload_n 0, 1) := by decide +kernel
theorem dX9_follow_22 : decode cX9_follow 22 = .ok (.getfield 88, 3) := by decide +kernel
theorem dX9_follow_25 : decode cX9_follow 25 = .ok (.iload_n 1, 1) := by decide +kernel
theorem dX9_follow_26 : decode cX9_follow 26 = .ok (.iconst 0, 1) := by decide +kernel
theorem dX9_follow_27 : decode cX9_follow 27 = .ok (.bastore, 1) := by decide +kernel
theorem dX9_follow_28 : decode cX9_follow 28 = .ok (.aload_n 0, 1) := by decide +kernel
theorem dX9_follow_29 : decode cX9_follow 29 = .ok (.getfield 94, 3) := by decide +kernel
theorem dX9_follow_32 : decode cX9_follow 32 = .ok (.iload_n 1, 1) := by decide +kernel
theorem dX9_follow_33 : decode cX9_follow 33 = .ok (.iconst 0, 1) := by decide +kernel
theorem dX9_follow_34 : decode cX9_follow 34 = .ok (.iastore, 1) := by decide +kernel
theorem dX9_follow_35 : decode cX9_follow 35 = .ok (.iinc 1 1, 3) := by decide +kernel
theorem dX9_follow_38 : decode cX9_follow 38 = .ok (.goto (-30), 3) := by decide +kernel
theorem dX9_follow_41 : decode cX9_follow 41 = .ok (.bipush 6, 2) := by decide +kernel
theorem dX9_follow_43 : decode cX9_follow 43 = .ok (.istore_n 1, 1) := by decide +kernel
theorem dX9_follow_44 : decode cX9_follow 44 = .ok (.iload_n 1, 1) := by decide +kernel
theorem dX9_follow_45 : decode cX9_follow 45 = .ok (.bipush 6, 2) := by decide +kernel
theorem dX9_follow_47 : decode cX9_follow 47 = .ok (.aload_n 0, 1) := by decide +kernel
theorem dX9_follow_48 : decode cX9_follow 48 = .ok (.getfield 150, 3) := by decide +kernel
theorem dX9_follow_51 : decode cX9_follow 51 = .ok (.iadd, 1) := by decide +kernel
theorem dX9_follow_52 : decode cX9_follow 52 = .ok (.if_icmp .ge 172, 3) := by decide +kernel
theorem dX9_follow_55 : decode cX9_follow 55 = .ok (.aload_n 0, 1) := by decide +kernel
theorem dX9_follow_56 : decode cX9_follow 56 = .ok (.aload_n 0, 1) := by decide +kernel
theorem dX9_follow_57 : decode cX9_follow 57 = .ok (.getfield 54, 3) := by decide +kernel
theorem dX9_follow_60 : decode cX9_follow 60 = .ok (.iload_n 1, 1) := by decide +kernel
theorem dX9_follow_61 : decode cX9_follow 61 = .ok (.iaload, 1) := by decide +kernel
theorem dX9_follow_62 : decode cX9_follow 62 = .ok (.invokevirtual 136, 3) := by decide +kernel
theorem dX9_follow_65 : decode cX9_follow 65 = .ok (.istore_n 2, 1) := by decide +kernel
theorem dX9_follow_66 : decode cX9_follow 66 = .ok (.aload_n 0, 1) := by decide +kernel
theorem dX9_follow_67 : decode cX9_follow 67 = .ok (.getfield 51, 3) := by decide +kernel
theorem dX9_follow_70 : decode cX9_follow 70 = .ok (.iload_n 1, 1) := by decide +kernel
theorem dX9_follow_71 : decode cX9_follow 71 = .ok (.iaload, 1) := by decide +kernel
theorem dX9_follow_72 : decode cX9_follow 72 = .ok (.ifCond .ne 15, 3) := by decide +kernel
theorem dX9_follow_75 : decode cX9_follow 75 = .ok (.aload_n 0, 1) := by decide +kernel
theorem dX9_follow_76 : decode cX9_follow 76 = .ok (.getfield 85, 3) := by decide +kernel
theorem dX9_follow_79 : decode cX9_follow 79 = .ok (.aload_n 0, 1) := by decide +kernel
theorem dX9_follow_80 : decode cX9_follow 80 = .ok (.getfield 48, 3) := by decide +kernel
theorem dX9_follow_83 : decode cX9_follow 83 = .ok (.iconst 2, 1) := by decide +kernel
theorem dX9_follow_84 : decode cX9_follow 84 = .ok (.iaload, 1) := by decide +kernel
theorem dX9_follow_85 : decode cX9_follow 85 = .ok (.iconst (-1), 1) := by decide +kernel
theorem dX9_follow_86 : decode cX9_follow 86 = .ok (.iastore, 1) := by decide +kernel
theorem dX9_follow_87 : decode cX9_follow 87 = .ok (.aload_n 0, 1) := by decide +kernel
theorem dX9_follow_88 : decode cX9_follow 88 = .ok (.getfield 51, 3) := by decide +kernel
theorem dX9_follow_91 : decode cX9_follow 91 = .ok (.iload_n 1, 1) := by decide +kernel
theorem dX9_follow_92 : decode cX9_follow 92 = .ok (.iaload, 1) := by decide +kernel
theorem dX9_follow_93 : decode cX9_follow 93 = .ok (.iconst 3, 1) := by decide +kernel
theorem dX9_follow_94 : decode cX9_follow 94 = .ok (.if_icmp .ne 54, 3) := by decide +kernel
theorem dX9_follow_97 : decode cX9_follow 97 = .ok (.aload_n 0, 1) := by decide +kernel
theorem dX9_follow_98 : decode cX9_follow 98 = .ok (.getfield 85, 3) := by decide +kernel
theorem dX9_follow_101 : decode cX9_follow 101 = .ok (.iload_n 2, 1) := by decide +kernel
theorem dX9_follow_102 : decode cX9_follow 102 = .ok (.iaload, 1) := by decide +kernel
theorem dX9_follow_103 : decode cX9_follow 103 = .ok (.ifCond .lt 45, 3) := by decide +kernel
theorem dX9_follow_106 : decode cX9_follow 106 = .ok (.aload_n 0, 1) := by decide +kernel
theorem dX9_follow_107 : decode cX9_follow 107 = .ok (.getfield 85, 3) := by decide +kernel
theorem dX9_follow_110 : decode cX9_follow 110 = .ok (.iload_n 2, 1) := by decide +kernel
theorem dX9_follow_111 : decode cX9_follow 111 = .ok (.iaload, 1) := by decide +kernel
theorem dX9_follow_112 : decode cX9_follow 112 = .ok (.istore_n 3, 1) := by decide +kernel
theorem dX9_follow_113 : decode cX9_follow 113 = .ok (.aload_n 0, 1) := by decide +kernel
theorem dX9_follow_114 : decode cX9_follow 114 = .ok (.getfield 91, 3) := by decide +kernel
theorem dX9_follow_117 : decode cX9_follow 117 = .ok (.bipush 6, 2) := by decide +kernel
theorem dX9_follow_119 : decode cX9_follow 119 = .ok (.iload_n 3, 1) := by decide +kernel
theorem dX9_follow_120 : decode cX9_follow 120 = .ok (.imul, 1) := by decide +kernel
theorem dX9_follow_121 : decode cX9_follow 121 = .ok (.aload_n 0, 1) := by decide +kernel
theorem dX9_follow_122 : decode cX9_follow 122 = .ok (.getfield 94, 3) := by decide +kernel
theorem dX9_follow_125 : decode cX9_follow 125 = .ok (.iload_n 3, 1) := by decide +kernel
theorem dX9_follow_126 : decode cX9_follow 126 = .ok (.iaload, 1) := by decide +kernel
theorem dX9_follow_127 : decode cX9_follow 127 = .ok (.iadd, 1) := by decide +kernel
theorem dX9_follow_128 : decode cX9_follow 128 = .ok (.aload_n 0, 1) := by decide +kernel
theorem dX9_follow_129 : decode cX9_follow 129 = .ok (.getfield 45, 3) := by decide +kernel
theorem dX9_follow_132 : decode cX9_follow 132 = .ok (.bipush 16, 2) := by decide +kernel
theorem dX9_follow_134 : decode cX9_follow 134 = .ok (.iload_n 2, 1) := by decide +kernel
theorem dX9_follow_135 : decode cX9_follow 135 = .ok (.iadd, 1) := by decide +kernel
theorem dX9_follow_136 : decode cX9_follow 136 = .ok (.iaload, 1) := by decide +kernel
theorem dX9_follow_137 : decode cX9_follow 137 = .ok (.iastore, 1) := by decide +kernel
theorem dX9_follow_138 : decode cX9_follow 138 = .ok (.aload_n 0, 1) := by decide +kernel
theorem dX9_follow_139 : decode cX9_follow 139 = .ok (.getfield 94, 3) := by decide +kernel
theorem dX9_follow_142 : decode cX9_follow 142 = .ok (.iload_n 3, 1) := by decide +kernel
theorem dX9_follow_143 : decode cX9_follow 143 = .ok (.dup2, 1) := by decide +kernel
theorem dX9_follow_144 : decode cX9_follow 144 = .ok (.iaload, 1) := by decide +kernel
theorem dX9_follow_145 : decode cX9_follow 145 = .ok (.iconst 1, 1) := by decide +kernel
theorem dX9_follow_146 : decode cX9_follow 146 = .ok (.iadd, 1) := by decide +kernel
theorem dX9_follow_147 : decode cX9_follow 147 = .ok (.iastore, 1) := by decide +kernel
theorem dX9_follow_148 : decode cX9_follow 148 = .ok (.aload_n 0, 1) := by decide +kernel
theorem dX9_follow_149 : decode cX9_follow 149 = .ok (.getfield 51, 3) := by decide +kernel
theorem dX9_follow_152 : decode cX9_follow 152 = .ok (.iload_n 1, 1) := by decide +kernel
theorem dX9_follow_153 : decode cX9_follow 153 = .ok (.iaload, 1) := by decide +kernel
theorem dX9_follow_154 : decode cX9_follow 154 = .ok (.iconst 1, 1) := by decide +kernel
theorem dX9_follow_155 : decode cX9_follow 155 = .ok (.if_icmp .ne 58, 3) := by decide +kernel
theorem dX9_follow_158 : decode cX9_follow 158 = .ok (.aload_n 0, 1) := by decide +kernel
theorem dX9_follow_159 : decode cX9_follow 159 = .ok (.getfield 85, 3) := by decide +kernel
theorem dX9_follow_162 : decode cX9_follow 162 = .ok (.iload_n 2, 1) := by decide +kernel
theorem dX9_follow_163 : decode cX9_follow 163 = .ok (.iaload, 1) := by decide +kernel
theorem dX9_follow_164 : decode cX9_follow 164 = .ok (.ifCond .lt 15, 3) := by decide +kernel
theorem dX9_follow_167 : decode cX9_follow 167 = .ok (.aload_n 0, 1) := by decide +kernel
theorem dX9_follow_168 : decode cX9_follow 168 = .ok (.getfield 88, 3) := by decide +kernel
theorem dX9_follow_171 : decode cX9_follow 171 = .ok (.aload_n 0, 1) := by decide +kernel
theorem dX9_follow_172 : decode cX9_follow 172 = .ok (.getfield 85, 3) := by decide +kernel
theorem dX9_follow_175 : decode cX9_follow 175 = .ok (.iload_n 2, 1) := by decide +kernel
theorem dX9_follow_176 : decode cX9_follow 176 = .ok (.iaload, 1) := by decide +kernel
theorem dX9_follow_177 : decode cX9_follow 177 = .ok (.iconst 1, 1) := by decide +kernel
theorem dX9_follow_178 : decode cX9_follow 178 = .ok (.bastore, 1) := by decide +kernel
theorem dX9_follow_179 : decode cX9_follow 179 = .ok (.iload_n 2, 1) := by decide +kernel
theorem dX9_follow_180 : decode cX9_follow 180 = .ok (.istore_n 3, 1) := by decide +kernel
theorem dX9_follow_181 : decode cX9_follow 181 = .ok (.iload_n 3, 1) := by decide +kernel
theorem dX9_follow_182 : decode cX9_follow 182 = .ok (.iconst 1, 1) := by decide +kernel
theorem dX9_follow_183 : decode cX9_follow 183 = .ok (.iadd, 1) := by decide +kernel
theorem dX9_follow_184 : decode cX9_follow 184 = .ok (.aload_n 0, 1) := by decide +kernel
theorem dX9_follow_185 : decode cX9_follow 185 = .ok (.getfield 48, 3) := by decide +kernel
theorem dX9_follow_188 : decode cX9_follow 188 = .ok (.iconst 2, 1) := by decide +kernel
theorem dX9_follow_189 : decode cX9_follow 189 = .ok (.iaload, 1) := by decide +kernel
theorem dX9_follow_190 : decode cX9_follow 190 = .ok (.if_icmp .ge 23, 3) := by decide +kernel
theorem dX9_follow_193 : decode cX9_follow 193 = .ok (.aload_n 0, 1) := by decide +kernel
theorem dX9_follow_194 : decode cX9_follow 194 = .ok (.getfield 85, 3) := by decide +kernel
theorem dX9_follow_197 : decode cX9_follow 197 = .ok (.iload_n 3, 1) := by decide +kernel
theorem dX9_follow_198 : decode cX9_follow 198 = .ok (.aload_n 0, 1) := by decide +kernel
theorem dX9_follow_199 : decode cX9_follow 199 = .ok (.getfield 85, 3) := by decide +kernel
theorem dX9_follow_202 : decode cX9_follow 202 = .ok (.iload_n 3, 1) := by decide +kernel
theorem dX9_follow_203 : decode cX9_follow 203 = .ok (.iconst 1, 1) := by decide +kernel
theorem dX9_follow_204 : decode cX9_follow 204 = .ok (.iadd, 1) := by decide +kernel
theorem dX9_follow_205 : decode cX9_follow 205 = .ok (.iaload, 1) := by decide +kernel
theorem dX9_follow_206 : decode cX9_follow 206 = .ok (.iastore, 1) := by decide +kernel
theorem dX9_follow_207 : decode cX9_follow 207 = .ok (.iinc 3 1, 3) := by decide +kernel
theorem dX9_follow_210 : decode cX9_follow 210 = .ok (.goto (-29), 3) := by decide +kernel
theorem dX9_follow_213 : decode cX9_follow 213 = .ok (.aload_n 0, 1) := by decide +kernel
theorem dX9_follow_214 : decode cX9_follow 214 = .ok (.iload_n 1, 1) := by decide +kernel
theorem dX9_follow_215 : decode cX9_follow 215 = .ok (.invokevirtual 161, 3) := by decide +kernel
theorem dX9_follow_218 : decode cX9_follow 218 = .ok (.iinc 1 1, 3) := by decide +kernel
theorem dX9_follow_221 : decode cX9_follow 221 = .ok (.goto (-177), 3) := by decide +kernel
theorem dX9_follow_224 : decode cX9_follow 224 = .ok (.return_, 1) := by decide +kernel
theorem dX9_down_0 : decode cX9_down 0 = .ok (.aload_n 0, 1) := by decide +kernel
theorem dX9_down_1 : decode cX9_down 1 = .ok (.invokevirtual 164, 3) := by decide +kernel
theorem dX9_down_4 : decode cX9_down 4 = .ok (.iconst 0, 1) := by decide +kernel
theorem dX9_down_5 : decode cX9_down 5 = .ok (.istore 4, 2) := by decide +kernel
theorem dX9_down_7 : decode cX9_down 7 = .ok (.iload 4, 2) := by decide +kernel
theorem dX9_down_9 : decode cX9_down 9 = .ok (.aload_n 0, 1) := by decide +kernel
theorem dX9_down_10 : decode cX9_down 10 = .ok (.getfield 48, 3) := by decide +kernel
theorem dX9_down_13 : decode cX9_down 13 = .ok (.iconst 0, 1) := by decide +kernel
theorem dX9_down_14 : decode cX9_down 14 = .ok (.iaload, 1) := by decide +kernel
theorem dX9_down_15 : decode cX9_down 15 = .ok (.if_icmp .ge 46, 3) := by decide +kernel
theorem dX9_down_18 : decode cX9_down 18 = .ok (.aload_n 0, 1) := by decide +kernel
theorem dX9_down_19 : decode cX9_down 19 = .ok (.getfield 88, 3) := by decide +kernel
theorem dX9_down_22 : decode cX9_down 22 = .ok (.iload 4, 2) := by decide +kernel
theorem dX9_down_24 : decode cX9_down 24 = .ok (.baload, 1) := by decide +kernel
theorem dX9_down_25 : decode cX9_down 25 = .ok (.ifCond .eq 30, 3) := by decide +kernel
theorem dX9_down_28 : decode cX9_down 28 = .ok (.iload_n 2, 1) := by decide +kernel
theorem dX9_down_29 : decode cX9_down 29 = .ok (.ifCond .ge 14, 3) := by decide +kernel
theorem dX9_down_32 : decode cX9_down 32 = .ok (.aload_n 0, 1) := by decide +kernel
theorem dX9_down_33 : decode cX9_down 33 = .ok (.iload_n 3, 1) := by decide +kernel
theorem dX9_down_34 : decode cX9_down 34 = .ok (.iload 4, 2) := by decide +kernel
theorem dX9_down_36 : decode cX9_down 36 = .ok (.iadd, 1) := by decide +kernel
theorem dX9_down_37 : decode cX9_down 37 = .ok (.invokevirtual 101, 3) := by decide +kernel
theorem dX9_down_40 : decode cX9_down 40 = .ok (.goto 15, 3) := by decide +kernel
theorem dX9_down_43 : decode cX9_down 43 = .ok (.aload_n 0, 1) := by decide +kernel
theorem dX9_down_44 : decode cX9_down 44 = .ok (.iload_n 2, 1) := by decide +kernel
theorem dX9_down_45 : decode cX9_down 45 = .ok (.iload 4, 2) := by decide +kernel
theorem dX9_down_47 : decode cX9_down 47 = .ok (.iadd, 1) := by decide +kernel
theorem dX9_down_48 : decode cX9_down 48 = .ok (.iload_n 3, 1) := by decide +kernel
theorem dX9_down_49 : decode cX9_down 49 = .ok (.iload 4, 2) := by decide +kernel
theorem dX9_down_51 : decode cX9_down 51 = .ok (.iadd, 1) := by decide +kernel
theorem dX9_down_52 : decode cX9_down 52 = .ok (.invokevirtual 97, 3) := by decide +kernel
theorem dX9_down_55 : decode cX9_down 55 = .ok (.iinc 4 1, 3) := by decide +kernel
theorem dX9_down_58 : decode cX9_down 58 = .ok (.goto (-51), 3) := by decide +kernel
theorem dX9_down_61 : decode cX9_down 61 = .ok (.iconst 0, 1) := by decide +kernel
theorem dX9_down_62 : decode cX9_down 62 = .ok (.istore 4, 2) := by decide +kernel
theorem dX9_down_64 : decode cX9_down 64 = .ok (.iload 4, 2) := by decide +kernel
theorem dX9_down_66 : decode cX9_down 66 = .ok (.aload_n 0, 1) := by decide +kernel
theorem dX9_down_67 : decode cX9_down 67 = .ok (.getfield 48, 3) := by decide +kernel
theorem dX9_down_70 : decode cX9_down 70 = .ok (.iconst 1, 1) := by decide +kernel
theorem dX9_down_71 : decode cX9_down 71 = .ok (.iaload, 1) := by decide +kernel
theorem dX9_down_72 : decode cX9_down 72 = .ok (.if_icmp .ge 110, 3) := by decide +kernel
theorem dX9_down_75 : decode cX9_down 75 = .ok (.aload_n 0, 1) := by decide +kernel
theorem dX9_down_76 : decode cX9_down 76 = .ok (.getfield 85, 3) := by decide +kernel
theorem dX9_down_79 : decode cX9_down 79 = .ok (.iload 4, 2) := by decide +kernel
theorem dX9_down_81 : decode cX9_down 81 = .ok (.iaload, 1) := by decide +kernel
theorem dX9_down_82 : decode cX9_down 82 = .ok (.istore 5, 2) := by decide +kernel
theorem dX9_down_84 : decode cX9_down 84 = .ok (.iload 5, 2) := by decide +kernel
theorem dX9_down_86 : decode cX9_down 86 = .ok (.ifCond .ge 6, 3) := by decide +kernel
theorem dX9_down_89 : decode cX9_down 89 = .ok (.goto 87, 3) := by decide +kernel
theorem dX9_down_92 : decode cX9_down 92 = .ok (.aload_n 0, 1) := by decide +kernel
theorem dX9_down_93 : decode cX9_down 93 = .ok (.iload_n 1, 1) := by decide +kernel
theorem dX9_down_94 : decode cX9_down 94 = .ok (.iload 4, 2) := by decide +kernel
theorem dX9_down_96 : decode cX9_down 96 = .ok (.iadd, 1) := by decide +kernel
theorem dX9_down_97 : decode cX9_down 97 = .ok (.iload_n 3, 1) := by decide +kernel
theorem dX9_down_98 : decode cX9_down 98 = .ok (.iload 5, 2) := by decide +kernel
theorem dX9_down_100 : decode cX9_down 100 = .ok (.iadd, 1) := by decide +kernel
theorem dX9_down_101 : decode cX9_down 101 = .ok (.invokevirtual 97, 3) := by decide +kernel
theorem dX9_down_104 : decode cX9_down 104 = .ok (.aload_n 0, 1) := by decide +kernel
theorem dX9_down_105 : decode cX9_down 105 = .ok (.getfield 45, 3) := by decide +kernel
theorem dX9_down_108 : decode cX9_down 108 = .ok (.bipush 8, 2) := by decide +kernel
theorem dX9_down_110 : decode cX9_down 110 = .ok (.iload 4, 2) := by decide +kernel
theorem dX9_down_112 : decode cX9_down 112 = .ok (.iadd, 1) := by decide +kernel
theorem dX9_down_113 : decode cX9_down 113 = .ok (.iaload, 1) := by decide +kernel
theorem dX9_down_114 : decode cX9_down 114 = .ok (.istore 6, 2) := by decide +kernel
theorem dX9_down_116 : decode cX9_down 116 = .ok (.aload_n 0, 1) := by decide +kernel
theorem dX9_down_117 : decode cX9_down 117 = .ok (.getfield 94, 3) := by decide +kernel
theorem dX9_down_120 : decode cX9_down 120 = .ok (.iload 5, 2) := by decide +kernel
theorem dX9_down_122 : decode cX9_down 122 = .ok (.iaload, 1) := by decide +kernel
theorem dX9_down_123 : decode cX9_down 123 = .ok (.iconst 1, 1) := by decide +kernel
theorem dX9_down_124 : decode cX9_down 124 = .ok (.isub, 1) := by decide +kernel
theorem dX9_down_125 : decode cX9_down 125 = .ok (.istore 7, 2) := by decide +kernel
theorem dX9_down_127 : decode cX9_down 127 = .ok (.iload 7, 2) := by decide +kernel
theorem dX9_down_129 : decode cX9_down 129 = .ok (.ifCond .lt 47, 3) := by decide +kernel
theorem dX9_down_132 : decode cX9_down 132 = .ok (.aload_n 0, 1) := by decide +kernel
theorem dX9_down_133 : decode cX9_down 133 = .ok (.iload_n 3, 1) := by decide +kernel
theorem dX9_down_134 : decode cX9_down 134 = .ok (.iload 5, 2) := by decide +kernel
theorem dX9_down_136 : decode cX9_down 136 = .ok (.iadd, 1) := by decide +kernel
theorem dX9_down_137 : decode cX9_down 137 = .ok (.iload 6, 2) := by decide +kernel
theorem dX9_down_139 : decode cX9_down 139 = .ok (.aload_n 0, 1) := by decide +kernel
theorem dX9_down_140 : decode cX9_down 140 = .ok (.getfield 91, 3) := by decide +kernel
theorem dX9_down_143 : decode cX9_down 143 = .ok (.bipush 6, 2) := by decide +kernel
theorem dX9_down_145 : decode cX9_down 145 = .ok (.iload 5, 2) := by decide +kernel
theorem dX9_down_147 : decode cX9_down 147 = .ok (.imul, 1) := by decide +kernel
theorem dX9_down_148 : decode cX9_down 148 = .ok (.iload 7, 2) := by decide +kernel
theorem dX9_down_150 : decode cX9_down 150 = .ok (.iadd, 1) := by decide +kernel
theorem dX9_down_151 : decode cX9_down 151 = .ok (.iaload, 1) := by decide +kernel
theorem dX9_down_152 : decode cX9_down 152 = .ok (.invokevirtual 157, 3) := by decide +kernel
theorem dX9_down_155 : decode cX9_down 155 = .ok (.aload_n 0, 1) := by decide +kernel
theorem dX9_down_156 : decode cX9_down 156 = .ok (.getfield 91, 3) := by decide +kernel
theorem dX9_down_159 : decode cX9_down 159 = .ok (.bipush 6, 2) := by decide +kernel
theorem dX9_down_161 : decode cX9_down 161 = .ok (.iload 5, 2) := by decide +kernel
theorem dX9_down_163 : decode cX9_down 163 = .ok (.imul, 1) := by decide +kernel
theorem dX9_down_164 : decode cX9_down 164 = .ok (.iload 7, 2) := by decide +kernel
theorem dX9_down_166 : decode cX9_down 166 = .ok (.iadd, 1) := by decide +kernel
theorem dX9_down_167 : decode cX9_down 167 = .ok (.iaload, 1) := by decide +kernel
theorem dX9_down_168 : decode cX9_down 168 = .ok (.istore 6, 2) := by decide +kernel
theorem dX9_down_170 : decode cX9_down 170 = .ok (.iinc 7 (-1), 3) := by decide +kernel
theorem dX9_down_173 : decode cX9_down 173 = .ok (.goto (-46), 3) := by decide +kernel
theorem dX9_down_176 : decode cX9_down 176 = .ok (.iinc 4 1, 3) := by decide +kernel
theorem dX9_down_179 : decode cX9_down 179 = .ok (.goto (-115), 3) := by decide +kernel
theorem dX9_down_182 : decode cX9_down 182 = .ok (.return_, 1) := by decide +kernel
theorem dX9_act_0 : decode cX9_act 0 = .ok (.aload_n 0, 1) := by decide +kernel
theorem dX9_act_1 : decode cX9_act 1 = .ok (.getfield 167, 3) := by decide +kernel
theorem dX9_act_4 : decode cX9_act 4 = .ok (.ifCond .le 27, 3) := by decide +kernel
theorem dX9_act_7 : decode cX9_act 7 = .ok (.aload_n 0, 1) := by decide +kernel
theorem dX9_act_8 : decode cX9_act 8 = .ok (.dup, 1) := by decide +kernel
theorem dX9_act_9 : decode cX9_act 9 = .ok (.getfield 167, 3) := by decide +kernel
theorem dX9_act_12 : decode cX9_act 12 = .ok (.iconst 1, 1) := by decide +kernel
theorem dX9_act_13 : decode cX9_act 13 = .ok (.isub, 1) := by decide +kernel
theorem dX9_act_14 : decode cX9_act 14 = .ok (.putfield 167, 3) := by decide +kernel
theorem dX9_act_17 : decode cX9_act 17 = .ok (.aload_n 0, 1) := by decide +kernel
theorem dX9_act_18 : decode cX9_act 18 = .ok (.getfield 167, 3) := by decide +kernel
theorem dX9_act_21 : decode cX9_act 21 = .ok (.ifCond .ne 10, 3) := by decide +kernel
theorem dX9_act_24 : decode cX9_act 24 = .ok (.aload_n 0, 1) := by decide +kernel
theorem dX9_act_25 : decode cX9_act 25 = .ok (.iconst 1, 1) := by decide +kernel
theorem dX9_act_26 : decode cX9_act 26 = .ok (.putfield 170, 3) := by decide +kernel
theorem dX9_act_29 : decode cX9_act 29 = .ok (.iconst 0, 1) := by decide +kernel
theorem dX9_act_30 : decode cX9_act 30 = .ok (.ireturn, 1) := by decide +kernel
theorem dX9_act_31 : decode cX9_act 31 = .ok (.aload_n 0, 1) := by decide +kernel
theorem dX9_act_32 : decode cX9_act 32 = .ok (.dup, 1) := by decide +kernel
theorem dX9_act_33 : decode cX9_act 33 = .ok (.getfield 174, 3) := by decide +kernel
theorem dX9_act_36 : decode cX9_act 36 = .ok (.iconst 1, 1) := by decide +kernel
theorem dX9_act_37 : decode cX9_act 37 = .ok (.iadd, 1) := by decide +kernel
theorem dX9_act_38 : decode cX9_act 38 = .ok (.putfield 174, 3) := by decide +kernel
theorem dX9_act_41 : decode cX9_act 41 = .ok (.aload_n 0, 1) := by decide +kernel
theorem dX9_act_42 : decode cX9_act 42 = .ok (.dup, 1) := by decide +kernel
theorem dX9_act_43 : decode cX9_act 43 = .ok (.getfield 177, 3) := by decide +kernel
theorem dX9_act_46 : decode cX9_act 46 = .ok (.iconst 1, 1) := by decide +kernel
theorem dX9_act_47 : decode cX9_act 47 = .ok (.iadd, 1) := by decide +kernel
theorem dX9_act_48 : decode cX9_act 48 = .ok (.putfield 177, 3) := by decide +kernel
theorem dX9_act_51 : decode cX9_act 51 = .ok (.iconst 1, 1) := by decide +kernel
theorem dX9_act_52 : decode cX9_act 52 = .ok (.ireturn, 1) := by decide +kernel
theorem dX9_acts_0 : decode cX9_acts 0 = .ok (.iconst 0, 1) := by decide +kernel
theorem dX9_acts_1 : decode cX9_acts 1 = .ok (.istore_n 2, 1) := by decide +kernel
theorem dX9_acts_2 : decode cX9_acts 2 = .ok (.iload_n 2, 1) := by decide +kernel
theorem dX9_acts_3 : decode cX9_acts 3 = .ok (.iload_n 1, 1) := by decide +kernel
theorem dX9_acts_4 : decode cX9_acts 4 = .ok (.if_icmp .ge 16, 3) := by decide +kernel
theorem dX9_acts_7 : decode cX9_acts 7 = .ok (.aload_n 0, 1) := by decide +kernel
theorem dX9_acts_8 : decode cX9_acts 8 = .ok (.invokevirtual 180, 3) := by decide +kernel
theorem dX9_acts_11 : decode cX9_acts 11 = .ok (.ifCond .eq 9, 3) := by decide +kernel
theorem dX9_acts_14 : decode cX9_acts 14 = .ok (.iinc 2 1, 3) := by decide +kernel
theorem dX9_acts_17 : decode cX9_acts 17 = .ok (.goto (-15), 3) := by decide +kernel
theorem dX9_acts_20 : decode cX9_acts 20 = .ok (.iload_n 2, 1) := by decide +kernel
theorem dX9_acts_21 : decode cX9_acts 21 = .ok (.ireturn, 1) := by decide +kernel
theorem dX9_plan_0 : decode cX9_plan 0 = .ok (.iload_n 1, 1) := by decide +kernel
theorem dX9_plan_1 : decode cX9_plan 1 = .ok (.iconst 0, 1) := by decide +kernel
theorem dX9_plan_2 : decode cX9_plan 2 = .ok (.iconst 3, 1) := by decide +kernel
theorem dX9_plan_3 : decode cX9_plan 3 = .ok (.invokestatic 110, 3) := by decide +kernel
theorem dX9_plan_6 : decode cX9_plan 6 = .ok (.ifCond .eq 13, 3) := by decide +kernel
theorem dX9_plan_9 : decode cX9_plan 9 = .ok (.iload_n 2, 1) := by decide +kernel
theorem dX9_plan_10 : decode cX9_plan 10 = .ok (.iconst 0, 1) := by decide +kernel
theorem dX9_plan_11 : decode cX9_plan 11 = .ok (.bipush 63, 2) := by decide +kernel
theorem dX9_plan_13 : decode cX9_plan 13 = .ok (.invokestatic 110, 3) := by decide +kernel
theorem dX9_plan_16 : decode cX9_plan 16 = .ok (.ifCond .ne 5, 3) := by decide +kernel
theorem dX9_plan_19 : decode cX9_plan 19 = .ok (.iconst (-1), 1) := by decide +kernel
theorem dX9_plan_20 : decode cX9_plan 20 = .ok (.ireturn, 1) := by decide +kernel
theorem dX9_plan_21 : decode cX9_plan 21 = .ok (.iload_n 1, 1) := by decide +kernel
theorem dX9_plan_22 : decode cX9_plan 22 = .ok (.iconst 2, 1) := by decide +kernel
theorem dX9_plan_23 : decode cX9_plan 23 = .ok (.if_icmp .ne 13, 3) := by decide +kernel
theorem dX9_plan_26 : decode cX9_plan 26 = .ok (.iload_n 3, 1) := by decide +kernel
theorem dX9_plan_27 : decode cX9_plan 27 = .ok (.iconst 0, 1) := by decide +kernel
theorem dX9_plan_28 : decode cX9_plan 28 = .ok (.bipush 63, 2) := by decide +kernel
theorem dX9_plan_30 : decode cX9_plan 30 = .ok (.invokestatic 110, 3) := by decide +kernel
theorem dX9_plan_33 : decode cX9_plan 33 = .ok (.ifCond .eq 21, 3) := by decide +kernel
theorem dX9_plan_36 : decode cX9_plan 36 = .ok (.iload_n 1, 1) := by decide +kernel
theorem dX9_plan_37 : decode cX9_plan 37 = .ok (.ifCond .eq 8, 3) := by decide +kernel
theorem dX9_plan_40 : decode cX9_plan 40 = .ok (.iload_n 1, 1) := by decide +kernel
theorem dX9_plan_41 : decode cX9_plan 41 = .ok (.iconst 3, 1) := by decide +kernel
theorem dX9_plan_42 : decode cX9_plan 42 = .ok (.if_icmp .ne 14, 3) := by decide +kernel
theorem dX9_plan_45 : decode cX9_plan 45 = .ok (.iload_n 3, 1) := by decide +kernel
theorem dX9_plan_46 : decode cX9_plan 46 = .ok (.iconst 0, 1) := by decide +kernel
theorem dX9_plan_47 : decode cX9_plan 47 = .ok (.iconst 4, 1) := by decide +kernel
theorem dX9_plan_48 : decode cX9_plan 48 = .ok (.invokestatic 110, 3) := by decide +kernel
theorem dX9_plan_51 : decode cX9_plan 51 = .ok (.ifCond .ne 5, 3) := by decide +kernel
theorem dX9_plan_54 : decode cX9_plan 54 = .ok (.iconst (-1), 1) := by decide +kernel
theorem dX9_plan_55 : decode cX9_plan 55 = .ok (.ireturn, 1) := by decide +kernel
theorem dX9_plan_56 : decode cX9_plan 56 = .ok (.aload_n 0, 1) := by decide +kernel
theorem dX9_plan_57 : decode cX9_plan 57 = .ok (.getfield 184, 3) := by decide +kernel
theorem dX9_plan_60 : decode cX9_plan 60 = .ok (.bipush 6, 2) := by decide +kernel
theorem dX9_plan_62 : decode cX9_plan 62 = .ok (.if_icmp .ne 6, 3) := by decide +kernel
theorem dX9_plan_65 : decode cX9_plan 65 = .ok (.bipush (-4), 2) := by decide +kernel
theorem dX9_plan_67 : decode cX9_plan 67 = .ok (.ireturn, 1) := by decide +kernel
theorem dX9_plan_68 : decode cX9_plan 68 = .ok (.aload_n 0, 1) := by decide +kernel
theorem dX9_plan_69 : decode cX9_plan 69 = .ok (.getfield 51, 3) := by decide +kernel
theorem dX9_plan_72 : decode cX9_plan 72 = .ok (.aload_n 0, 1) := by decide +kernel
theorem dX9_plan_73 : decode cX9_plan 73 = .ok (.getfield 184, 3) := by decide +kernel
theorem dX9_plan_76 : decode cX9_plan 76 = .ok (.iload_n 1, 1) := by decide +kernel
theorem dX9_plan_77 : decode cX9_plan 77 = .ok (.iastore, 1) := by decide +kernel
theorem dX9_plan_78 : decode cX9_plan 78 = .ok (.aload_n 0, 1) := by decide +kernel
theorem dX9_plan_79 : decode cX9_plan 79 = .ok (.getfield 54, 3) := by decide +kernel
theorem dX9_plan_82 : decode cX9_plan 82 = .ok (.aload_n 0, 1) := by decide +kernel
theorem dX9_plan_83 : decode cX9_plan 83 = .ok (.getfield 184, 3) := by decide +kernel
theorem dX9_plan_86 : decode cX9_plan 86 = .ok (.iload_n 2, 1) := by decide +kernel
theorem dX9_plan_87 : decode cX9_plan 87 = .ok (.iastore, 1) := by decide +kernel
theorem dX9_plan_88 : decode cX9_plan 88 = .ok (.aload_n 0, 1) := by decide +kernel
theorem dX9_plan_89 : decode cX9_plan 89 = .ok (.getfield 57, 3) := by decide +kernel
theorem dX9_plan_92 : decode cX9_plan 92 = .ok (.aload_n 0, 1) := by decide +kernel
theorem dX9_plan_93 : decode cX9_plan 93 = .ok (.getfield 184, 3) := by decide +kernel
theorem dX9_plan_96 : decode cX9_plan 96 = .ok (.iload_n 3, 1) := by decide +kernel
theorem dX9_plan_97 : decode cX9_plan 97 = .ok (.iastore, 1) := by decide +kernel
theorem dX9_plan_98 : decode cX9_plan 98 = .ok (.aload_n 0, 1) := by decide +kernel
theorem dX9_plan_99 : decode cX9_plan 99 = .ok (.getfield 60, 3) := by decide +kernel
theorem dX9_plan_102 : decode cX9_plan 102 = .ok (.aload_n 0, 1) := by decide +kernel
theorem dX9_plan_103 : decode cX9_plan 103 = .ok (.getfield 184, 3) := by decide +kernel
theorem dX9_plan_106 : decode cX9_plan 106 = .ok (.iload 4, 2) := by decide +kernel
theorem dX9_plan_108 : decode cX9_plan 108 = .ok (.iastore, 1) := by decide +kernel
theorem dX9_plan_109 : decode cX9_plan 109 = .ok (.aload_n 0, 1) := by decide +kernel
theorem dX9_plan_110 : decode cX9_plan 110 = .ok (.getfield 63, 3) := by decide +kernel
theorem dX9_plan_113 : decode cX9_plan 113 = .ok (.aload_n 0, 1) := by decide +kernel
theorem dX9_plan_114 : decode cX9_plan 114 = .ok (.getfield 184, 3) := by decide +kernel
theorem dX9_plan_117 : decode cX9_plan 117 = .ok (.iload 5, 2) := by decide +kernel
theorem dX9_plan_119 : decode cX9_plan 119 = .ok (.iastore, 1) := by decide +kernel
theorem dX9_plan_120 : decode cX9_plan 120 = .ok (.aload_n 0, 1) := by decide +kernel
theorem dX9_plan_121 : decode cX9_plan 121 = .ok (.dup, 1) := by decide +kernel
theorem dX9_plan_122 : decode cX9_plan 122 = .ok (.getfield 184, 3) := by decide +kernel
theorem dX9_plan_125 : decode cX9_plan 125 = .ok (.iconst 1, 1) := by decide +kernel
theorem dX9_plan_126 : decode cX9_plan 126 = .ok (.iadd, 1) := by decide +kernel
theorem dX9_plan_127 : decode cX9_plan 127 = .ok (.putfield 184, 3) := by decide +kernel
theorem dX9_plan_130 : decode cX9_plan 130 = .ok (.aload_n 0, 1) := by decide +kernel
theorem dX9_plan_131 : decode cX9_plan 131 = .ok (.getfield 184, 3) := by decide +kernel
theorem dX9_plan_134 : decode cX9_plan 134 = .ok (.ireturn, 1) := by decide +kernel
theorem dX9_scrap_0 : decode cX9_scrap 0 = .ok (.aload_n 0, 1) := by decide +kernel
theorem dX9_scrap_1 : decode cX9_scrap 1 = .ok (.getfield 184, 3) := by decide +kernel
theorem dX9_scrap_4 : decode cX9_scrap 4 = .ok (.istore_n 1, 1) := by decide +kernel
theorem dX9_scrap_5 : decode cX9_scrap 5 = .ok (.aload_n 0, 1) := by decide +kernel
theorem dX9_scrap_6 : decode cX9_scrap 6 = .ok (.iconst 0, 1) := by decide +kernel
theorem dX9_scrap_7 : decode cX9_scrap 7 = .ok (.putfield 184, 3) := by decide +kernel
theorem dX9_scrap_10 : decode cX9_scrap 10 = .ok (.iload_n 1, 1) := by decide +kernel
theorem dX9_scrap_11 : decode cX9_scrap 11 = .ok (.ireturn, 1) := by decide +kernel
theorem dX9_draft_0 : decode cX9_draft 0 = .ok (.iload_n 1, 1) := by decide +kernel
theorem dX9_draft_1 : decode cX9_draft 1 = .ok (.iconst 0, 1) := by decide +kernel
theorem dX9_draft_2 : decode cX9_draft 2 = .ok (.bipush 7, 2) := by decide +kernel
theorem dX9_draft_4 : decode cX9_draft 4 = .ok (.invokestatic 110, 3) := by decide +kernel
theorem dX9_draft_7 : decode cX9_draft 7 = .ok (.ifCond .ne 5, 3) := by decide +kernel
theorem dX9_draft_10 : decode cX9_draft 10 = .ok (.iconst (-1), 1) := by decide +kernel
theorem dX9_draft_11 : decode cX9_draft 11 = .ok (.ireturn, 1) := by decide +kernel
theorem dX9_draft_12 : decode cX9_draft 12 = .ok (.aload_n 0, 1) := by decide +kernel
theorem dX9_draft_13 : decode cX9_draft 13 = .ok (.getfield 66, 3) := by decide +kernel
theorem dX9_draft_16 : decode cX9_draft 16 = .ok (.iload_n 1, 1) := by decide +kernel
theorem dX9_draft_17 : decode cX9_draft 17 = .ok (.iload_n 2, 1) := by decide +kernel
theorem dX9_draft_18 : decode cX9_draft 18 = .ok (.iastore, 1) := by decide +kernel
theorem dX9_draft_19 : decode cX9_draft 19 = .ok (.aload_n 0, 1) := by decide +kernel
theorem dX9_draft_20 : decode cX9_draft 20 = .ok (.getfield 69, 3) := by decide +kernel
theorem dX9_draft_23 : decode cX9_draft 23 = .ok (.iload_n 1, 1) := by decide +kernel
theorem dX9_draft_24 : decode cX9_draft 24 = .ok (.iload_n 3, 1) := by decide +kernel
theorem dX9_draft_25 : decode cX9_draft 25 = .ok (.iastore, 1) := by decide +kernel
theorem dX9_draft_26 : decode cX9_draft 26 = .ok (.aload_n 0, 1) := by decide +kernel
theorem dX9_draft_27 : decode cX9_draft 27 = .ok (.getfield 72, 3) := by decide +kernel
theorem dX9_draft_30 : decode cX9_draft 30 = .ok (.iload_n 1, 1) := by decide +kernel
theorem dX9_draft_31 : decode cX9_draft 31 = .ok (.iconst 0, 1) := by decide +kernel
theorem dX9_draft_32 : decode cX9_draft 32 = .ok (.iastore, 1) := by decide +kernel
theorem dX9_draft_33 : decode cX9_draft 33 = .ok (.iconst 1, 1) := by decide +kernel
theorem dX9_draft_34 : decode cX9_draft 34 = .ok (.ireturn, 1) := by decide +kernel
theorem dX9_letters_0 : decode cX9_letters 0 = .ok (.iload_n 1, 1) := by decide +kernel
theorem dX9_letters_1 : decode cX9_letters 1 = .ok (.iconst 0, 1) := by decide +kernel
theorem dX9_letters_2 : decode cX9_letters 2 = .ok (.bipush 7, 2) := by decide +kernel
theorem dX9_letters_4 : decode cX9_letters 4 = .ok (.invokestatic 110, 3) := by decide +kernel
theorem dX9_letters_7 : decode cX9_letters 7 = .ok (.ifCond .ne 5, 3) := by decide +kernel
theorem dX9_letters_10 : decode cX9_letters 10 = .ok (.iconst (-1), 1) := by decide +kernel
theorem dX9_letters_11 : decode cX9_letters 11 = .ok (.ireturn, 1) := by decide +kernel
theorem dX9_letters_12 : decode cX9_letters 12 = .ok (.aload_n 0, 1) := by decide +kernel
theorem dX9_letters_13 : decode cX9_letters 13 = .ok (.sipush 648, 3) := by decide +kernel
theorem dX9_letters_16 : decode cX9_letters 16 = .ok (.iconst 4, 1) := by decide +kernel
theorem dX9_letters_17 : decode cX9_letters 17 = .ok (.iload_n 2, 1) := by decide +kernel
theorem dX9_letters_18 : decode cX9_letters 18 = .ok (.iload_n 3, 1) := by decide +kernel
theorem dX9_letters_19 : decode cX9_letters 19 = .ok (.invokevirtual 153, 3) := by decide +kernel
theorem dX9_letters_22 : decode cX9_letters 22 = .ok (.aload_n 0, 1) := by decide +kernel
theorem dX9_letters_23 : decode cX9_letters 23 = .ok (.getfield 72, 3) := by decide +kernel
theorem dX9_letters_26 : decode cX9_letters 26 = .ok (.iload_n 1, 1) := by decide +kernel
theorem dX9_letters_27 : decode cX9_letters 27 = .ok (.iaload, 1) := by decide +kernel
theorem dX9_letters_28 : decode cX9_letters 28 = .ok (.istore 4, 2) := by decide +kernel
theorem dX9_letters_30 : decode cX9_letters 30 = .ok (.iload 4, 2) := by decide +kernel
theorem dX9_letters_32 : decode cX9_letters 32 = .ok (.aload_n 0, 1) := by decide +kernel
theorem dX9_letters_33 : decode cX9_letters 33 = .ok (.getfield 13, 3) := by decide +kernel
theorem dX9_letters_36 : decode cX9_letters 36 = .ok (.sipush 648, 3) := by decide +kernel
theorem dX9_letters_39 : decode cX9_letters 39 = .ok (.iaload, 1) := by decide +kernel
theorem dX9_letters_40 : decode cX9_letters 40 = .ok (.iadd, 1) := by decide +kernel
theorem dX9_letters_41 : decode cX9_letters 41 = .ok (.bipush 24, 2) := by decide +kernel
theorem dX9_letters_43 : decode cX9_letters 43 = .ok (.if_icmp .le 6, 3) := by decide +kernel
theorem dX9_letters_46 : decode cX9_letters 46 = .ok (.bipush (-4), 2) := by decide +kernel
theorem dX9_letters_48 : decode cX9_letters 48 = .ok (.ireturn, 1) := by decide +kernel
theorem dX9_letters_49 : decode cX9_letters 49 = .ok (.iconst 0, 1) := by decide +kernel
theorem dX9_letters_50 : decode cX9_letters 50 = .ok (.istore 5, 2) := by decide +kernel
theorem dX9_letters_52 : decode cX9_letters 52 = .ok (.iload 5, 2) := by decide +kernel
theorem dX9_letters_54 : decode cX9_letters 54 = .ok (.aload_n 0, 1) := by decide +kernel
theorem dX9_letters_55 : decode cX9_letters 55 = .ok (.getfield 13, 3) := by decide +kernel
theorem dX9_letters_58 : decode cX9_letters 58 = .ok (.sipush 648, 3) := by decide +kernel
theorem dX9_letters_61 : decode cX9_letters 61 = .ok (.iaload, 1) := by decide +kernel
theorem dX9_letters_62 : decode cX9_letters 62 = .ok (.if_icmp .ge 35, 3) := by decide +kernel
theorem dX9_letters_65 : decode cX9_letters 65 = .ok (.aload_n 0, 1) := by decide +kernel
theorem dX9_letters_66 : decode cX9_letters 66 = .ok (.getfield 75, 3) := by decide +kernel
theorem dX9_letters_69 : decode cX9_letters 69 = .ok (.bipush 24, 2) := by decide +kernel
theorem dX9_letters_71 : decode cX9_letters 71 = .ok (.iload_n 1, 1) := by decide +kernel
theorem dX9_letters_72 : decode cX9_letters 72 = .ok (.imul, 1) := by decide +kernel
theorem dX9_letters_73 : decode cX9_letters 73 = .ok (.iload 4, 2) := by decide +kernel
theorem dX9_letters_75 : decode cX9_letters 75 = .ok (.iadd, 1) := by decide +kernel
theorem dX9_letters_76 : decode cX9_letters 76 = .ok (.iload 5, 2) := by decide +kernel
theorem dX9_letters_78 : decode cX9_letters 78 = .ok (.iadd, 1) := by decide +kernel
theorem dX9_letters_79 : decode cX9_letters 79 = .ok (.aload_n 0, 1) := by decide +kernel
theorem dX9_letters_80 : decode cX9_letters 80 = .ok (.getfield 17, 3) := by decide +kernel
theorem dX9_letters_83 : decode cX9_letters 83 = .ok (.sipush 15552, 3) := by decide +kernel
theorem dX9_letters_86 : decode cX9_letters 86 = .ok (.iload 5, 2) := by decide +kernel
theorem dX9_letters_88 : decode cX9_letters 88 = .ok (.iadd, 1) := by decide +kernel
theorem dX9_letters_89 : decode cX9_letters 89 = .ok (.iaload, 1) := by decide +kernel
theorem dX9_letters_90 : decode cX9_letters 90 = .ok (.iastore, 1) := by decide +kernel
theorem dX9_letters_91 : decode cX9_letters 91 = .ok (.iinc 5 1, 3) := by decide +kernel
theorem dX9_letters_94 : decode cX9_letters 94 = .ok (.goto (-42), 3) := by decide +kernel
theorem dX9_letters_97 : decode cX9_letters 97 = .ok (.aload_n 0, 1) := by decide +kernel
theorem dX9_letters_98 : decode cX9_letters 98 = .ok (.getfield 72, 3) := by decide +kernel
theorem dX9_letters_101 : decode cX9_letters 101 = .ok (.iload_n 1, 1) := by decide +kernel
theorem dX9_letters_102 : decode cX9_letters 102 = .ok (.iload 4, 2) := by decide +kernel
theorem dX9_letters_104 : decode cX9_letters 104 = .ok (.aload_n 0, 1) := by decide +kernel
theorem dX9_letters_105 : decode cX9_letters 105 = .ok (.getfield 13, 3) := by decide +kernel
theorem dX9_letters_108 : decode cX9_letters 108 = .ok (.sipush 648, 3) := by decide +kernel
theorem dX9_letters_111 : decode cX9_letters 111 = .ok (.iaload, 1) := by decide +kernel
theorem dX9_letters_112 : decode cX9_letters 112 = .ok (.iadd, 1) := by decide +kernel
theorem dX9_letters_113 : decode cX9_letters 113 = .ok (.iastore, 1) := by decide +kernel
theorem dX9_letters_114 : decode cX9_letters 114 = .ok (.aload_n 0, 1) := by decide +kernel
theorem dX9_letters_115 : decode cX9_letters 115 = .ok (.getfield 72, 3) := by decide +kernel
theorem dX9_letters_118 : decode cX9_letters 118 = .ok (.iload_n 1, 1) := by decide +kernel
theorem dX9_letters_119 : decode cX9_letters 119 = .ok (.iaload, 1) := by decide +kernel
theorem dX9_letters_120 : decode cX9_letters 120 = .ok (.ireturn, 1) := by decide +kernel
theorem dX9_drafted_0 : decode cX9_drafted 0 = .ok (.iconst 0, 1) := by decide +kernel
theorem dX9_drafted_1 : decode cX9_drafted 1 = .ok (.istore_n 3, 1) := by decide +kernel
theorem dX9_drafted_2 : decode cX9_drafted 2 = .ok (.iload_n 3, 1) := by decide +kernel
theorem dX9_drafted_3 : decode cX9_drafted 3 = .ok (.aload_n 0, 1) := by decide +kernel
theorem dX9_drafted_4 : decode cX9_drafted 4 = .ok (.getfield 48, 3) := by decide +kernel
theorem dX9_drafted_7 : decode cX9_drafted 7 = .ok (.iload_n 2, 1) := by decide +kernel
theorem dX9_drafted_8 : decode cX9_drafted 8 = .ok (.iaload, 1) := by decide +kernel
theorem dX9_drafted_9 : decode cX9_drafted 9 = .ok (.if_icmp .ge 107, 3) := by decide +kernel
theorem dX9_drafted_12 : decode cX9_drafted 12 = .ok (.aload_n 0, 1) := by decide +kernel
theorem dX9_drafted_13 : decode cX9_drafted 13 = .ok (.getfield 45, 3) := by decide +kernel
theorem dX9_drafted_16 : decode cX9_drafted 16 = .ok (.bipush 8, 2) := by decide +kernel
theorem dX9_drafted_18 : decode cX9_drafted 18 = .ok (.iload_n 2, 1) := by decide +kernel
theorem dX9_drafted_19 : decode cX9_drafted 19 = .ok (.imul, 1) := by decide +kernel
theorem dX9_drafted_20 : decode cX9_drafted 20 = .ok (.iload_n 3, 1) := by decide +kernel
theorem dX9_drafted_21 : decode cX9_drafted 21 = .ok (.iadd, 1) := by decide +kernel
theorem dX9_drafted_22 : decode cX9_drafted 22 = .ok (.iaload, 1) := by decide +kernel
theorem dX9_drafted_23 : decode cX9_drafted 23 = .ok (.istore 4, 2) := by decide +kernel
theorem dX9_drafted_25 : decode cX9_drafted 25 = .ok (.iload 4, 2) := by decide +kernel
theorem dX9_drafted_27 : decode cX9_drafted 27 = .ok (.iconst 4, 1) := by decide +kernel
theorem dX9_drafted_28 : decode cX9_drafted 28 = .ok (.if_icmp .ne 61, 3) := by decide +kernel
theorem dX9_drafted_31 : decode cX9_drafted 31 = .ok (.aload_n 0, 1) := by decide +kernel
theorem dX9_drafted_32 : decode cX9_drafted 32 = .ok (.getfield 72, 3) := by decide +kernel
theorem dX9_drafted_35 : decode cX9_drafted 35 = .ok (.iload_n 3, 1) := by decide +kernel
theorem dX9_drafted_36 : decode cX9_drafted 36 = .ok (.iaload, 1) := by decide +kernel
theorem dX9_drafted_37 : decode cX9_drafted 37 = .ok (.ifCond .le 52, 3) := by decide +kernel
theorem dX9_drafted_40 : decode cX9_drafted 40 = .ok (.aload_n 0, 1) := by decide +kernel
theorem dX9_drafted_41 : decode cX9_drafted 41 = .ok (.iload_n 1, 1) := by decide +kernel
theorem dX9_drafted_42 : decode cX9_drafted 42 = .ok (.iload_n 3, 1) := by decide +kernel
theorem dX9_drafted_43 : decode cX9_drafted 43 = .ok (.iadd, 1) := by decide +kernel
theorem dX9_drafted_44 : decode cX9_drafted 44 = .ok (.invokevirtual 101, 3) := by decide +kernel
theorem dX9_drafted_47 : decode cX9_drafted 47 = .ok (.iconst 0, 1) := by decide +kernel
theorem dX9_drafted_48 : decode cX9_drafted 48 = .ok (.istore 5, 2) := by decide +kernel
theorem dX9_drafted_50 : decode cX9_drafted 50 = .ok (.iload 5, 2) := by decide +kernel
theorem dX9_drafted_52 : decode cX9_drafted 52 = .ok (.aload_n 0, 1) := by decide +kernel
theorem dX9_drafted_53 : decode cX9_drafted 53 = .ok (.getfield 72, 3) := by decide +kernel
theorem dX9_drafted_56 : decode cX9_drafted 56 = .ok (.iload_n 3, 1) := by decide +kernel
theorem dX9_drafted_57 : decode cX9_drafted 57 = .ok (.iaload, 1) := by decide +kernel
theorem dX9_drafted_58 : decode cX9_drafted 58 = .ok (.if_icmp .ge 28, 3) := by decide +kernel
theorem dX9_drafted_61 : decode cX9_drafted 61 = .ok (.aload_n 0, 1) := by decide +kernel
theorem dX9_drafted_62 : decode cX9_drafted 62 = .ok (.iload_n 1, 1) := by decide +kernel
theorem dX9_drafted_63 : decode cX9_drafted 63 = .ok (.iload_n 3, 1) := by decide +kernel
theorem dX9_drafted_64 : decode cX9_drafted 64 = .ok (.iadd, 1) := by decide +kernel
theorem dX9_drafted_65 : decode cX9_drafted 65 = .ok (.aload_n 0, 1) := by decide +kernel
theorem dX9_drafted_66 : decode cX9_drafted 66 = .ok (.getfield 75, 3) := by decide +kernel
theorem dX9_drafted_69 : decode cX9_drafted 69 = .ok (.bipush 24, 2) := by decide +kernel
theorem dX9_drafted_71 : decode cX9_drafted 71 = .ok (.iload_n 3, 1) := by decide +kernel
theorem dX9_drafted_72 : decode cX9_drafted 72 = .ok (.imul, 1) := by decide +kernel
theorem dX9_drafted_73 : decode cX9_drafted 73 = .ok (.iload 5, 2) := by decide +kernel
theorem dX9_drafted_75 : decode cX9_drafted 75 = .ok (.iadd, 1) := by decide +kernel
theorem dX9_drafted_76 : decode cX9_drafted 76 = .ok (.iaload, 1) := by decide +kernel
theorem dX9_drafted_77 : decode cX9_drafted 77 = .ok (.invokevirtual 107, 3) := by decide +kernel
theorem dX9_drafted_80 : decode cX9_drafted 80 = .ok (.iinc 5 1, 3) := by decide +kernel
theorem dX9_drafted_83 : decode cX9_drafted 83 = .ok (.goto (-33), 3) := by decide +kernel
theorem dX9_drafted_86 : decode cX9_drafted 86 = .ok (.goto 24, 3) := by decide +kernel
theorem dX9_drafted_89 : decode cX9_drafted 89 = .ok (.aload_n 0, 1) := by decide +kernel
theorem dX9_drafted_90 : decode cX9_drafted 90 = .ok (.iload_n 1, 1) := by decide +kernel
theorem dX9_drafted_91 : decode cX9_drafted 91 = .ok (.iload_n 3, 1) := by decide +kernel
theorem dX9_drafted_92 : decode cX9_drafted 92 = .ok (.iadd, 1) := by decide +kernel
theorem dX9_drafted_93 : decode cX9_drafted 93 = .ok (.iload 4, 2) := by decide +kernel
theorem dX9_drafted_95 : decode cX9_drafted 95 = .ok (.aload_n 0, 1) := by decide +kernel
theorem dX9_drafted_96 : decode cX9_drafted 96 = .ok (.getfield 66, 3) := by decide +kernel
theorem dX9_drafted_99 : decode cX9_drafted 99 = .ok (.iload_n 3, 1) := by decide +kernel
theorem dX9_drafted_100 : decode cX9_drafted 100 = .ok (.iaload, 1) := by decide +kernel
theorem dX9_drafted_101 : decode cX9_drafted 101 = .ok (.aload_n 0, 1) := by decide +kernel
theorem dX9_drafted_102 : decode cX9_drafted 102 = .ok (.getfield 69, 3) := by decide +kernel
theorem dX9_drafted_105 : decode cX9_drafted 105 = .ok (.iload_n 3, 1) := by decide +kernel
theorem dX9_drafted_106 : decode cX9_drafted 106 = .ok (.iaload, 1) := by decide +kernel
theorem dX9_drafted_107 : decode cX9_drafted 107 = .ok (.invokevirtual 153, 3) := by decide +kernel
theorem dX9_drafted_110 : decode cX9_drafted 110 = .ok (.iinc 3 1, 3) := by decide +kernel
theorem dX9_drafted_113 : decode cX9_drafted 113 = .ok (.goto (-111), 3) := by decide +kernel
theorem dX9_drafted_116 : decode cX9_drafted 116 = .ok (.return_, 1) := by decide +kernel
theorem dX9_find_0 : decode cX9_find 0 = .ok (.iconst (-1), 1) := by decide +kernel
theorem dX9_find_1 : decode cX9_find 1 = .ok (.istore_n 2, 1) := by decide +kernel
theorem dX9_find_2 : decode cX9_find 2 = .ok (.iconst 0, 1) := by decide +kernel
theorem dX9_find_3 : decode cX9_find 3 = .ok (.istore_n 3, 1) := by decide +kernel
theorem dX9_find_4 : decode cX9_find 4 = .ok (.iload_n 3, 1) := by decide +kernel
theorem dX9_find_5 : decode cX9_find 5 = .ok (.aload_n 0, 1) := by decide +kernel
theorem dX9_find_6 : decode cX9_find 6 = .ok (.getfield 187, 3) := by decide +kernel
theorem dX9_find_9 : decode cX9_find 9 = .ok (.if_icmp .ge 25, 3) := by decide +kernel
theorem dX9_find_12 : decode cX9_find 12 = .ok (.aload_n 0, 1) := by decide +kernel
theorem dX9_find_13 : decode cX9_find 13 = .ok (.getfield 23, 3) := by decide +kernel
theorem dX9_find_16 : decode cX9_find 16 = .ok (.iload_n 3, 1) := by decide +kernel
theorem dX9_find_17 : decode cX9_find 17 = .ok (.iaload, 1) := by decide +kernel
theorem dX9_find_18 : decode cX9_find 18 = .ok (.iload_n 1, 1) := by decide +kernel
theorem dX9_find_19 : decode cX9_find 19 = .ok (.if_icmp .ne 7, 3) := by decide +kernel
theorem dX9_find_22 : decode cX9_find 22 = .ok (.iload_n 3, 1) := by decide +kernel
theorem dX9_find_23 : decode cX9_find 23 = .ok (.goto 4, 3) := by decide +kernel
theorem dX9_find_26 : decode cX9_find 26 = .ok (.iload_n 2, 1) := by decide +kernel
theorem dX9_find_27 : decode cX9_find 27 = .ok (.istore_n 2, 1) := by decide +kernel
theorem dX9_find_28 : decode cX9_find 28 = .ok (.iinc 3 1, 3) := by decide +kernel
theorem dX9_find_31 : decode cX9_find 31 = .ok (.goto (-27), 3) := by decide +kernel
theorem dX9_find_34 : decode cX9_find 34 = .ok (.iload_n 2, 1) := by decide +kernel
theorem dX9_find_35 : decode cX9_find 35 = .ok (.ireturn, 1) := by decide +kernel
theorem dX9_form_0 : decode cX9_form 0 = .ok (.bipush 16, 2) := by decide +kernel
theorem dX9_form_2 : decode cX9_form 2 = .ok (.aload_n 0, 1) := by decide +kernel
theorem dX9_form_3 : decode cX9_form 3 = .ok (.getfield 26, 3) := by decide +kernel
theorem dX9_form_6 : decode cX9_form 6 = .ok (.iload_n 1, 1) := by decide +kernel
theorem dX9_form_7 : decode cX9_form 7 = .ok (.iaload, 1) := by decide +kernel
theorem dX9_form_8 : decode cX9_form 8 = .ok (.imul, 1) := by decide +kernel
theorem dX9_form_9 : decode cX9_form 9 = .ok (.bipush 8, 2) := by decide +kernel
theorem dX9_form_11 : decode cX9_form 11 = .ok (.iload_n 2, 1) := by decide +kernel
theorem dX9_form_12 : decode cX9_form 12 = .ok (.imul, 1) := by decide +kernel
theorem dX9_form_13 : decode cX9_form 13 = .ok (.iadd, 1) := by decide +kernel
theorem dX9_form_14 : decode cX9_form 14 = .ok (.ireturn, 1) := by decide +kernel
theorem dX9_moveRow_0 : decode cX9_moveRow 0 = .ok (.aload_n 0, 1) := by decide +kernel
theorem dX9_moveRow_1 : decode cX9_moveRow 1 = .ok (.getfield 23, 3) := by decide +kernel
theorem dX9_moveRow_4 : decode cX9_moveRow 4 = .ok (.iload_n 2, 1) := by decide +kernel
theorem dX9_moveRow_5 : decode cX9_moveRow 5 = .ok (.aload_n 0, 1) := by decide +kernel
theorem dX9_moveRow_6 : decode cX9_moveRow 6 = .ok (.getfield 23, 3) := by decide +kernel
theorem dX9_moveRow_9 : decode cX9_moveRow 9 = .ok (.iload_n 1, 1) := by decide +kernel
theorem dX9_moveRow_10 : decode cX9_moveRow 10 = .ok (.iaload, 1) := by decide +kernel
theorem dX9_moveRow_11 : decode cX9_moveRow 11 = .ok (.iastore, 1) := by decide +kernel
theorem dX9_moveRow_12 : decode cX9_moveRow 12 = .ok (.aload_n 0, 1) := by decide +kernel
theorem dX9_moveRow_13 : decode cX9_moveRow 13 = .ok (.getfield 26, 3) := by decide +kernel
theorem dX9_moveRow_16 : decode cX9_moveRow 16 = .ok (.iload_n 2, 1) := by decide +kernel
theorem dX9_moveRow_17 : decode cX9_moveRow 17 = .ok (.aload_n 0, 1) := by decide +kernel
theorem dX9_moveRow_18 : decode cX9_moveRow 18 = .ok (.getfield 26, 3) := by decide +kernel
theorem dX9_moveRow_21 : decode cX9_moveRow 21 = .ok (.iload_n 1, 1) := by decide +kernel
theorem dX9_moveRow_22 : decode cX9_moveRow 22 = .ok (.iaload, 1) := by decide +kernel
theorem dX9_moveRow_23 : decode cX9_moveRow 23 = .ok (.iastore, 1) := by decide +kernel
theorem dX9_moveRow_24 : decode cX9_moveRow 24 = .ok (.aload_n 0, 1) := by decide +kernel
theorem dX9_moveRow_25 : decode cX9_moveRow 25 = .ok (.getfield 29, 3) := by decide +kernel
theorem dX9_moveRow_28 : decode cX9_moveRow 28 = .ok (.iload_n 2, 1) := by decide +kernel
theorem dX9_moveRow_29 : decode cX9_moveRow 29 = .ok (.aload_n 0, 1) := by decide +kernel
theorem dX9_moveRow_30 : decode cX9_moveRow 30 = .ok (.getfield 29, 3) := by decide +kernel
theorem dX9_moveRow_33 : decode cX9_moveRow 33 = .ok (.iload_n 1, 1) := by decide +kernel
theorem dX9_moveRow_34 : decode cX9_moveRow 34 = .ok (.iaload, 1) := by decide +kernel
theorem dX9_moveRow_35 : decode cX9_moveRow 35 = .ok (.iastore, 1) := by decide +kernel
theorem dX9_moveRow_36 : decode cX9_moveRow 36 = .ok (.aload_n 0, 1) := by decide +kernel
theorem dX9_moveRow_37 : decode cX9_moveRow 37 = .ok (.getfield 32, 3) := by decide +kernel
theorem dX9_moveRow_40 : decode cX9_moveRow 40 = .ok (.iload_n 2, 1) := by decide +kernel
theorem dX9_moveRow_41 : decode cX9_moveRow 41 = .ok (.aload_n 0, 1) := by decide +kernel
theorem dX9_moveRow_42 : decode cX9_moveRow 42 = .ok (.getfield 32, 3) := by decide +kernel
theorem dX9_moveRow_45 : decode cX9_moveRow 45 = .ok (.iload_n 1, 1) := by decide +kernel
theorem dX9_moveRow_46 : decode cX9_moveRow 46 = .ok (.baload, 1) := by decide +kernel
theorem dX9_moveRow_47 : decode cX9_moveRow 47 = .ok (.bastore, 1) := by decide +kernel
theorem dX9_moveRow_48 : decode cX9_moveRow 48 = .ok (.aload_n 0, 1) := by decide +kernel
theorem dX9_moveRow_49 : decode cX9_moveRow 49 = .ok (.getfield 36, 3) := by decide +kernel
theorem dX9_moveRow_52 : decode cX9_moveRow 52 = .ok (.iload_n 2, 1) := by decide +kernel
theorem dX9_moveRow_53 : decode cX9_moveRow 53 = .ok (.aload_n 0, 1) := by decide +kernel
theorem dX9_moveRow_54 : decode cX9_moveRow 54 = .ok (.getfield 36, 3) := by decide +kernel
theorem dX9_moveRow_57 : decode cX9_moveRow 57 = .ok (.iload_n 1, 1) := by decide +kernel
theorem dX9_moveRow_58 : decode cX9_moveRow 58 = .ok (.baload, 1) := by decide +kernel
theorem dX9_moveRow_59 : decode cX9_moveRow 59 = .ok (.bastore, 1) := by decide +kernel
theorem dX9_moveRow_60 : decode cX9_moveRow 60 = .ok (.return_, 1) := by decide +kernel
theorem dX9_insert_0 : decode cX9_insert 0 = .ok (.aload_n 0, 1) := by decide +kernel
theorem dX9_insert_1 : decode cX9_insert 1 = .ok (.getfield 187, 3) := by decide +kernel
theorem dX9_insert_4 : decode cX9_insert 4 = .ok (.istore_n 2, 1) := by decide +kernel
theorem dX9_insert_5 : decode cX9_insert 5 = .ok (.iload_n 2, 1) := by decide +kernel
theorem dX9_insert_6 : decode cX9_insert 6 = .ok (.ifCond .le 29, 3) := by decide +kernel
theorem dX9_insert_9 : decode cX9_insert 9 = .ok (.aload_n 0, 1) := by decide +kernel
theorem dX9_insert_10 : decode cX9_insert 10 = .ok (.getfield 23, 3) := by decide +kernel
theorem dX9_insert_13 : decode cX9_insert 13 = .ok (.iload_n 2, 1) := by decide +kernel
theorem dX9_insert_14 : decode cX9_insert 14 = .ok (.iconst 1, 1) := by decide +kernel
theorem dX9_insert_15 : decode cX9_insert 15 = .ok (.isub, 1) := by decide +kernel
theorem dX9_insert_16 : decode cX9_insert 16 = .ok (.iaload, 1) := by decide +kernel
theorem dX9_insert_17 : decode cX9_insert 17 = .ok (.iload_n 1, 1) := by decide +kernel
theorem dX9_insert_18 : decode cX9_insert 18 = .ok (.if_icmp .le 17, 3) := by decide +kernel
theorem dX9_insert_21 : decode cX9_insert 21 = .ok (.aload_n 0, 1) := by decide +kernel
theorem dX9_insert_22 : decode cX9_insert 22 = .ok (.iload_n 2, 1) := by decide +kernel
theorem dX9_insert_23 : decode cX9_insert 23 = .ok (.iconst 1, 1) := by decide +kernel
theorem dX9_insert_24 : decode cX9_insert 24 = .ok (.isub, 1) := by decide +kernel
theorem dX9_insert_25 : decode cX9_insert 25 = .ok (.iload_n 2, 1) := by decide +kernel
theorem dX9_insert_26 : decode cX9_insert 26 = .ok (.invokevirtual 190, 3) := by decide +kernel
theorem dX9_insert_29 : decode cX9_insert 29 = .ok (.iinc 2 (-1), 3) := by decide +kernel
theorem dX9_insert_32 : decode cX9_insert 32 = .ok (.goto (-27), 3) := by decide +kernel
theorem dX9_insert_35 : decode cX9_insert 35 = .ok (.iconst 0, 1) := by decide +kernel
theorem dX9_insert_36 : decode cX9_insert 36 = .ok (.istore_n 3, 1) := by decide +kernel
theorem dX9_insert_37 : decode cX9_insert 37 = .ok (.aload_n 0, 1) := by decide +kernel
theorem dX9_insert_38 : decode cX9_insert 38 = .ok (.getfield 39, 3) := by decide +kernel
theorem dX9_insert_41 : decode cX9_insert 41 = .ok (.iload_n 3, 1) := by decide +kernel
theorem dX9_insert_42 : decode cX9_insert 42 = .ok (.baload, 1) := by decide +kernel
theorem dX9_insert_43 : decode cX9_insert 43 = .ok (.ifCond .eq 9, 3) := by decide +kernel
theorem dX9_insert_46 : decode cX9_insert 46 = .ok (.iinc 3 1, 3) := by decide +kernel
theorem dX9_insert_49 : decode cX9_insert 49 = .ok (.goto (-12), 3) := by decide +kernel
theorem dX9_insert_52 : decode cX9_insert 52 = .ok (.aload_n 0, 1) := by decide +kernel
theorem dX9_insert_53 : decode cX9_insert 53 = .ok (.getfield 39, 3) := by decide +kernel
theorem dX9_insert_56 : decode cX9_insert 56 = .ok (.iload_n 3, 1) := by decide +kernel
theorem dX9_insert_57 : decode cX9_insert 57 = .ok (.iconst 1, 1) := by decide +kernel
theorem dX9_insert_58 : decode cX9_insert 58 = .ok (.bastore, 1) := by decide +kernel
theorem dX9_insert_59 : decode cX9_insert 59 = .ok (.aload_n 0, 1) := by decide +kernel
theorem dX9_insert_60 : decode cX9_insert 60 = .ok (.getfield 23, 3) := by decide +kernel
theorem dX9_insert_63 : decode cX9_insert 63 = .ok (.iload_n 2, 1) := by decide +kernel
theorem dX9_insert_64 : decode cX9_insert 64 = .ok (.iload_n 1, 1) := by decide +kernel
theorem dX9_insert_65 : decode cX9_insert 65 = .ok (.iastore, 1) := by decide +kernel
theorem dX9_insert_66 : decode cX9_insert 66 = .ok (.aload_n 0, 1) := by decide +kernel
theorem dX9_insert_67 : decode cX9_insert 67 = .ok (.getfield 26, 3) := by decide +kernel
theorem dX9_insert_70 : decode cX9_insert 70 = .ok (.iload_n 2, 1) := by decide +kernel
theorem dX9_insert_71 : decode cX9_insert 71 = .ok (.iload_n 3, 1) := by decide +kernel
theorem dX9_insert_72 : decode cX9_insert 72 = .ok (.iastore, 1) := by decide +kernel
theorem dX9_insert_73 : decode cX9_insert 73 = .ok (.aload_n 0, 1) := by decide +kernel
theorem dX9_insert_74 : decode cX9_insert 74 = .ok (.getfield 29, 3) := by decide +kernel
theorem dX9_insert_77 : decode cX9_insert 77 = .ok (.iload_n 2, 1) := by decide +kernel
theorem dX9_insert_78 : decode cX9_insert 78 = .ok (.iconst 0, 1) := by decide +kernel
theorem dX9_insert_79 : decode cX9_insert 79 = .ok (.iastore, 1) := by decide +kernel
theorem dX9_insert_80 : decode cX9_insert 80 = .ok (.aload_n 0, 1) := by decide +kernel
theorem dX9_insert_81 : decode cX9_insert 81 = .ok (.getfield 32, 3) := by decide +kernel
theorem dX9_insert_84 : decode cX9_insert 84 = .ok (.iload_n 2, 1) := by decide +kernel
theorem dX9_insert_85 : decode cX9_insert 85 = .ok (.iconst 0, 1) := by decide +kernel
theorem dX9_insert_86 : decode cX9_insert 86 = .ok (.bastore, 1) := by decide +kernel
theorem dX9_insert_87 : decode cX9_insert 87 = .ok (.aload_n 0, 1) := by decide +kernel
theorem dX9_insert_88 : decode cX9_insert 88 = .ok (.getfield 36, 3) := by decide +kernel
theorem dX9_insert_91 : decode cX9_insert 91 = .ok (.iload_n 2, 1) := by decide +kernel
theorem dX9_insert_92 : decode cX9_insert 92 = .ok (.iconst 0, 1) := by decide +kernel
theorem dX9_insert_93 : decode cX9_insert 93 = .ok (.bastore, 1) := by decide +kernel
theorem dX9_insert_94 : decode cX9_insert 94 = .ok (.aload_n 0, 1) := by decide +kernel
theorem dX9_insert_95 : decode cX9_insert 95 = .ok (.dup, 1) := by decide +kernel
theorem dX9_insert_96 : decode cX9_insert 96 = .ok (.getfield 187, 3) := by decide +kernel
theorem dX9_insert_99 : decode cX9_insert 99 = .ok (.iconst 1, 1) := by decide +kernel
theorem dX9_insert_100 : decode cX9_insert 100 = .ok (.iadd, 1) := by decide +kernel
theorem dX9_insert_101 : decode cX9_insert 101 = .ok (.putfield 187, 3) := by decide +kernel
theorem dX9_insert_104 : decode cX9_insert 104 = .ok (.iload_n 2, 1) := by decide +kernel
theorem dX9_insert_105 : decode cX9_insert 105 = .ok (.ireturn, 1) := by decide +kernel
theorem dX9_drop_0 : decode cX9_drop 0 = .ok (.aload_n 0, 1) := by decide +kernel
theorem dX9_drop_1 : decode cX9_drop 1 = .ok (.getfield 39, 3) := by decide +kernel
theorem dX9_drop_4 : decode cX9_drop 4 = .ok (.aload_n 0, 1) := by decide +kernel
theorem dX9_drop_5 : decode cX9_drop 5 = .ok (.getfield 26, 3) := by decide +kernel
theorem dX9_drop_8 : decode cX9_drop 8 = .ok (.iload_n 1, 1) := by decide +kernel
theorem dX9_drop_9 : decode cX9_drop 9 = .ok (.iaload, 1) := by decide +kernel
theorem dX9_drop_10 : decode cX9_drop 10 = .ok (.iconst 0, 1) := by decide +kernel
theorem dX9_drop_11 : decode cX9_drop 11 = .ok (.bastore, 1) := by decide +kernel
theorem dX9_drop_12 : decode cX9_drop 12 = .ok (.iload_n 1, 1) := by decide +kernel
theorem dX9_drop_13 : decode cX9_drop 13 = .ok (.istore_n 2, 1) := by decide +kernel
theorem dX9_drop_14 : decode cX9_drop 14 = .ok (.iload_n 2, 1) := by decide +kernel
theorem dX9_drop_15 : decode cX9_drop 15 = .ok (.iconst 1, 1) := by decide +kernel
theorem dX9_drop_16 : decode cX9_drop 16 = .ok (.iadd, 1) := by decide +kernel
theorem dX9_drop_17 : decode cX9_drop 17 = .ok (.aload_n 0, 1) := by decide +kernel
theorem dX9_drop_18 : decode cX9_drop 18 = .ok (.getfield 187, 3) := by decide +kernel
theorem dX9_drop_21 : decode cX9_drop 21 = .ok (.if_icmp .ge 17, 3) := by decide +kernel
theorem dX9_drop_24 : decode cX9_drop 24 = .ok (.aload_n 0, 1) := by decide +kernel
theorem dX9_drop_25 : decode cX9_drop 25 = .ok (.iload_n 2, 1) := by decide +kernel
theorem dX9_drop_26 : decode cX9_drop 26 = .ok (.iconst 1, 1) := by decide +kernel
theorem dX9_drop_27 : decode cX9_drop 27 = .ok (.iadd, 1) := by decide +kernel
theorem dX9_drop_28 : decode cX9_drop 28 = .ok (.iload_n 2, 1) := by decide +kernel
theorem dX9_drop_29 : decode cX9_drop 29 = .ok (.invokevirtual 190, 3) := by decide +kernel
theorem dX9_drop_32 : decode cX9_drop 32 = .ok (.iinc 2 1, 3) := by decide +kernel
theorem dX9_drop_35 : decode cX9_drop 35 = .ok (.goto (-21), 3) := by decide +kernel
theorem dX9_drop_38 : decode cX9_drop 38 = .ok (.aload_n 0, 1) := by decide +kernel
theorem dX9_drop_39 : decode cX9_drop 39 = .ok (.dup, 1) := by decide +kernel
theorem dX9_drop_40 : decode cX9_drop 40 = .ok (.getfield 187, 3) := by decide +kernel
theorem dX9_drop_43 : decode cX9_drop 43 = .ok (.iconst 1, 1) := by decide +kernel
theorem dX9_drop_44 : decode cX9_drop 44 = .ok (.isub, 1) := by decide +kernel
theorem dX9_drop_45 : decode cX9_drop 45 = .ok (.putfield 187, 3) := by decide +kernel
theorem dX9_drop_48 : decode cX9_drop 48 = .ok (.return_, 1) := by decide +kernel
theorem dX9_write_0 : decode cX9_write 0 = .ok (.aload_n 0, 1) := by decide +kernel
theorem dX9_write_1 : decode cX9_write 1 = .ok (.iconst 0, 1) := by decide +kernel
theorem dX9_write_2 : decode cX9_write 2 = .ok (.putfield 177, 3) := by decide +kernel
theorem dX9_write_5 : decode cX9_write 5 = .ok (.aload_n 0, 1) := by decide +kernel
theorem dX9_write_6 : decode cX9_write 6 = .ok (.getfield 170, 3) := by decide +kernel
theorem dX9_write_9 : decode cX9_write 9 = .ok (.ifCond .eq 6, 3) := by decide +kernel
theorem dX9_write_12 : decode cX9_write 12 = .ok (.bipush (-8), 2) := by decide +kernel
theorem dX9_write_14 : decode cX9_write 14 = .ok (.ireturn, 1) := by decide +kernel
theorem dX9_write_15 : decode cX9_write 15 = .ok (.iload_n 2, 1) := by decide +kernel
theorem dX9_write_16 : decode cX9_write 16 = .ok (.ifCond .eq 13, 3) := by decide +kernel
theorem dX9_write_19 : decode cX9_write 19 = .ok (.aload_n 0, 1) := by decide +kernel
theorem dX9_write_20 : decode cX9_write 20 = .ok (.getfield 193, 3) := by decide +kernel
theorem dX9_write_23 : decode cX9_write 23 = .ok (.ifCond .ne 6, 3) := by decide +kernel
theorem dX9_write_26 : decode cX9_write 26 = .ok (.bipush (-2), 2) := by decide +kernel
theorem dX9_write_28 : decode cX9_write 28 = .ok (.ireturn, 1) := by decide +kernel
theorem dX9_write_29 : decode cX9_write 29 = .ok (.aload_n 0, 1) := by decide +kernel
theorem dX9_write_30 : decode cX9_write 30 = .ok (.iload_n 1, 1) := by decide +kernel
theorem dX9_write_31 : decode cX9_write 31 = .ok (.invokevirtual 196, 3) := by decide +kernel
theorem dX9_write_34 : decode cX9_write 34 = .ok (.istore_n 3, 1) := by decide +kernel
theorem dX9_write_35 : decode cX9_write 35 = .ok (.iload_n 3, 1) := by decide +kernel
theorem dX9_write_36 : decode cX9_write 36 = .ok (.ifCond .lt 7, 3) := by decide +kernel
theorem dX9_write_39 : decode cX9_write 39 = .ok (.iconst 1, 1) := by decide +kernel
theorem dX9_write_40 : decode cX9_write 40 = .ok (.goto 4, 3) := by decide +kernel
theorem dX9_write_43 : decode cX9_write 43 = .ok (.iconst 0, 1) := by decide +kernel
theorem dX9_write_44 : decode cX9_write 44 = .ok (.istore 4, 2) := by decide +kernel
theorem dX9_write_46 : decode cX9_write 46 = .ok (.iload 4, 2) := by decide +kernel
theorem dX9_write_48 : decode cX9_write 48 = .ok (.ifCond .ne 15, 3) := by decide +kernel
theorem dX9_write_51 : decode cX9_write 51 = .ok (.aload_n 0, 1) := by decide +kernel
theorem dX9_write_52 : decode cX9_write 52 = .ok (.getfield 187, 3) := by decide +kernel
theorem dX9_write_55 : decode cX9_write 55 = .ok (.bipush 40, 2) := by decide +kernel
theorem dX9_write_57 : decode cX9_write 57 = .ok (.if_icmp .ne 6, 3) := by decide +kernel
theorem dX9_write_60 : decode cX9_write 60 = .ok (.bipush (-4), 2) := by decide +kernel
theorem dX9_write_62 : decode cX9_write 62 = .ok (.ireturn, 1) := by decide +kernel
theorem dX9_write_63 : decode cX9_write 63 = .ok (.aload_n 0, 1) := by decide +kernel
theorem dX9_write_64 : decode cX9_write 64 = .ok (.getfield 193, 3) := by decide +kernel
theorem dX9_write_67 : decode cX9_write 67 = .ok (.ifCond .eq 7, 3) := by decide +kernel
theorem dX9_write_70 : decode cX9_write 70 = .ok (.iconst 4, 1) := by decide +kernel
theorem dX9_write_71 : decode cX9_write 71 = .ok (.goto 4, 3) := by decide +kernel
theorem dX9_write_74 : decode cX9_write 74 = .ok (.iconst 1, 1) := by decide +kernel
theorem dX9_write_75 : decode cX9_write 75 = .ok (.istore 5, 2) := by decide +kernel
theorem dX9_write_77 : decode cX9_write 77 = .ok (.aload_n 0, 1) := by decide +kernel
theorem dX9_write_78 : decode cX9_write 78 = .ok (.iload 5, 2) := by decide +kernel
theorem dX9_write_80 : decode cX9_write 80 = .ok (.invokevirtual 199, 3) := by decide +kernel
theorem dX9_write_83 : decode cX9_write 83 = .ok (.istore 6, 2) := by decide +kernel
theorem dX9_write_85 : decode cX9_write 85 = .ok (.iload 6, 2) := by decide +kernel
theorem dX9_write_87 : decode cX9_write 87 = .ok (.ifCond .ne 6, 3) := by decide +kernel
theorem dX9_write_90 : decode cX9_write 90 = .ok (.bipush (-9), 2) := by decide +kernel
theorem dX9_write_92 : decode cX9_write 92 = .ok (.ireturn, 1) := by decide +kernel
theorem dX9_write_93 : decode cX9_write 93 = .ok (.iload 4, 2) := by decide +kernel
theorem dX9_write_95 : decode cX9_write 95 = .ok (.ifCond .ne 9, 3) := by decide +kernel
theorem dX9_write_98 : decode cX9_write 98 = .ok (.aload_n 0, 1) := by decide +kernel
theorem dX9_write_99 : decode cX9_write 99 = .ok (.iload_n 1, 1) := by decide +kernel
theorem dX9_write_100 : decode cX9_write 100 = .ok (.invokevirtual 202, 3) := by decide +kernel
theorem dX9_write_103 : decode cX9_write 103 = .ok (.istore_n 3, 1) := by decide +kernel
theorem dX9_write_104 : decode cX9_write 104 = .ok (.iload_n 2, 1) := by decide +kernel
theorem dX9_write_105 : decode cX9_write 105 = .ok (.ifCond .eq 48, 3) := by decide +kernel
theorem dX9_write_108 : decode cX9_write 108 = .ok (.aload_n 0, 1) := by decide +kernel
theorem dX9_write_109 : decode cX9_write 109 = .ok (.aload_n 0, 1) := by decide +kernel
theorem dX9_write_110 : decode cX9_write 110 = .ok (.iload_n 3, 1) := by decide +kernel
theorem dX9_write_111 : decode cX9_write 111 = .ok (.iconst 1, 1) := by decide +kernel
theorem dX9_write_112 : decode cX9_write 112 = .ok (.invokevirtual 205, 3) := by decide +kernel
theorem dX9_write_115 : decode cX9_write 115 = .ok (.iconst 1, 1) := by decide +kernel
theorem dX9_write_116 : decode cX9_write 116 = .ok (.invokevirtual 209, 3) := by decide +kernel
theorem dX9_write_119 : decode cX9_write 119 = .ok (.aload_n 0, 1) := by decide +kernel
theorem dX9_write_120 : decode cX9_write 120 = .ok (.aload_n 0, 1) := by decide +kernel
theorem dX9_write_121 : decode cX9_write 121 = .ok (.iload_n 3, 1) := by decide +kernel
theorem dX9_write_122 : decode cX9_write 122 = .ok (.iconst 1, 1) := by decide +kernel
theorem dX9_write_123 : decode cX9_write 123 = .ok (.invokevirtual 205, 3) := by decide +kernel
theorem dX9_write_126 : decode cX9_write 126 = .ok (.iload 4, 2) := by decide +kernel
theorem dX9_write_128 : decode cX9_write 128 = .ok (.ifCond .eq 12, 3) := by decide +kernel
theorem dX9_write_131 : decode cX9_write 131 = .ok (.aload_n 0, 1) := by decide +kernel
theorem dX9_write_132 : decode cX9_write 132 = .ok (.iload_n 3, 1) := by decide +kernel
theorem dX9_write_133 : decode cX9_write 133 = .ok (.iconst 0, 1) := by decide +kernel
theorem dX9_write_134 : decode cX9_write 134 = .ok (.invokevirtual 205, 3) := by decide +kernel
theorem dX9_write_137 : decode cX9_write 137 = .ok (.goto 4, 3) := by decide +kernel
theorem dX9_write_140 : decode cX9_write 140 = .ok (.iconst (-1), 1) := by decide +kernel
theorem dX9_write_141 : decode cX9_write 141 = .ok (.aload_n 0, 1) := by decide +kernel
theorem dX9_write_142 : decode cX9_write 142 = .ok (.iload_n 3, 1) := by decide +kernel
theorem dX9_write_143 : decode cX9_write 143 = .ok (.iconst 0, 1) := by decide +kernel
theorem dX9_write_144 : decode cX9_write 144 = .ok (.invokevirtual 205, 3) := by decide +kernel
theorem dX9_write_147 : decode cX9_write 147 = .ok (.invokevirtual 212, 3) := by decide +kernel
theorem dX9_write_150 : decode cX9_write 150 = .ok (.goto 37, 3) := by decide +kernel
theorem dX9_write_153 : decode cX9_write 153 = .ok (.aload_n 0, 1) := by decide +kernel
theorem dX9_write_154 : decode cX9_write 154 = .ok (.aload_n 0, 1) := by decide +kernel
theorem dX9_write_155 : decode cX9_write 155 = .ok (.iload_n 3, 1) := by decide +kernel
theorem dX9_write_156 : decode cX9_write 156 = .ok (.iconst 0, 1) := by decide +kernel
theorem dX9_write_157 : decode cX9_write 157 = .ok (.invokevirtual 205, 3) := by decide +kernel
theorem dX9_write_160 : decode cX9_write 160 = .ok (.iconst 0, 1) := by decide +kernel
theorem dX9_write_161 : decode cX9_write 161 = .ok (.invokevirtual 209, 3) := by decide +kernel
theorem dX9_write_164 : decode cX9_write 164 = .ok (.aload_n 0, 1) := by decide +kernel
theorem dX9_write_165 : decode cX9_write 165 = .ok (.getfield 193, 3) := by decide +kernel
theorem dX9_write_168 : decode cX9_write 168 = .ok (.ifCond .eq 19, 3) := by decide +kernel
theorem dX9_write_171 : decode cX9_write 171 = .ok (.aload_n 0, 1) := by decide +kernel
theorem dX9_write_172 : decode cX9_write 172 = .ok (.aload_n 0, 1) := by decide +kernel
theorem dX9_write_173 : decode cX9_write 173 = .ok (.iload_n 3, 1) := by decide +kernel
theorem dX9_write_174 : decode cX9_write 174 = .ok (.iconst 0, 1) := by decide +kernel
theorem dX9_write_175 : decode cX9_write 175 = .ok (.invokevirtual 205, 3) := by decide +kernel
theorem dX9_write_178 : decode cX9_write 178 = .ok (.aload_n 0, 1) := by decide +kernel
theorem dX9_write_179 : decode cX9_write 179 = .ok (.iload_n 3, 1) := by decide +kernel
theorem dX9_write_180 : decode cX9_write 180 = .ok (.iconst 1, 1) := by decide +kernel
theorem dX9_write_181 : decode cX9_write 181 = .ok (.invokevirtual 205, 3) := by decide +kernel
theorem dX9_write_184 : decode cX9_write 184 = .ok (.invokevirtual 214, 3) := by decide +kernel
theorem dX9_write_187 : decode cX9_write 187 = .ok (.aload_n 0, 1) := by decide +kernel
theorem dX9_write_188 : decode cX9_write 188 = .ok (.getfield 193, 3) := by decide +kernel
theorem dX9_write_191 : decode cX9_write 191 = .ok (.ifCond .eq 20, 3) := by decide +kernel
theorem dX9_write_194 : decode cX9_write 194 = .ok (.aload_n 0, 1) := by decide +kernel
theorem dX9_write_195 : decode cX9_write 195 = .ok (.getfield 32, 3) := by decide +kernel
theorem dX9_write_198 : decode cX9_write 198 = .ok (.iload_n 3, 1) := by decide +kernel
theorem dX9_write_199 : decode cX9_write 199 = .ok (.iconst 0, 1) := by decide +kernel
theorem dX9_write_200 : decode cX9_write 200 = .ok (.bastore, 1) := by decide +kernel
theorem dX9_write_201 : decode cX9_write 201 = .ok (.aload_n 0, 1) := by decide +kernel
theorem dX9_write_202 : decode cX9_write 202 = .ok (.getfield 36, 3) := by decide +kernel
theorem dX9_write_205 : decode cX9_write 205 = .ok (.iload_n 3, 1) := by decide +kernel
theorem dX9_write_206 : decode cX9_write 206 = .ok (.iconst 0, 1) := by decide +kernel
theorem dX9_write_207 : decode cX9_write 207 = .ok (.bastore, 1) := by decide +kernel
theorem dX9_write_208 : decode cX9_write 208 = .ok (.goto 20, 3) := by decide +kernel
theorem dX9_write_211 : decode cX9_write 211 = .ok (.aload_n 0, 1) := by decide +kernel
theorem dX9_write_212 : decode cX9_write 212 = .ok (.getfield 29, 3) := by decide +kernel
theorem dX9_write_215 : decode cX9_write 215 = .ok (.iload_n 3, 1) := by decide +kernel
theorem dX9_write_216 : decode cX9_write 216 = .ok (.iaload, 1) := by decide +kernel
theorem dX9_write_217 : decode cX9_write 217 = .ok (.iconst 1, 1) := by decide +kernel
theorem dX9_write_218 : decode cX9_write 218 = .ok (.if_icmp .ne 10, 3) := by decide +kernel
theorem dX9_write_221 : decode cX9_write 221 = .ok (.aload_n 0, 1) := by decide +kernel
theorem dX9_write_222 : decode cX9_write 222 = .ok (.getfield 29, 3) := by decide +kernel
theorem dX9_write_225 : decode cX9_write 225 = .ok (.iload_n 3, 1) := by decide +kernel
theorem dX9_write_226 : decode cX9_write 226 = .ok (.iconst 0, 1) := by decide +kernel
theorem dX9_write_227 : decode cX9_write 227 = .ok (.iastore, 1) := by decide +kernel
theorem dX9_write_228 : decode cX9_write 228 = .ok (.iload 6, 2) := by decide +kernel
theorem dX9_write_230 : decode cX9_write 230 = .ok (.iload 5, 2) := by decide +kernel
theorem dX9_write_232 : decode cX9_write 232 = .ok (.if_icmp .ne 14, 3) := by decide +kernel
theorem dX9_write_235 : decode cX9_write 235 = .ok (.iload 4, 2) := by decide +kernel
theorem dX9_write_237 : decode cX9_write 237 = .ok (.ifCond .eq 7, 3) := by decide +kernel
theorem dX9_write_240 : decode cX9_write 240 = .ok (.iconst 1, 1) := by decide +kernel
theorem dX9_write_241 : decode cX9_write 241 = .ok (.goto 4, 3) := by decide +kernel
theorem dX9_write_244 : decode cX9_write 244 = .ok (.iconst 0, 1) := by decide +kernel
theorem dX9_write_245 : decode cX9_write 245 = .ok (.ireturn, 1) := by decide +kernel
theorem dX9_write_246 : decode cX9_write 246 = .ok (.aload_n 0, 1) := by decide +kernel
theorem dX9_write_247 : decode cX9_write 247 = .ok (.iconst 1, 1) := by decide +kernel
theorem dX9_write_248 : decode cX9_write 248 = .ok (.putfield 217, 3) := by decide +kernel
theorem dX9_write_251 : decode cX9_write 251 = .ok (.bipush (-9), 2) := by decide +kernel
theorem dX9_write_253 : decode cX9_write 253 = .ok (.ireturn, 1) := by decide +kernel
theorem dX9_remove_0 : decode cX9_remove 0 = .ok (.aload_n 0, 1) := by decide +kernel
theorem dX9_remove_1 : decode cX9_remove 1 = .ok (.iconst 0, 1) := by decide +kernel
theorem dX9_remove_2 : decode cX9_remove 2 = .ok (.putfield 177, 3) := by decide +kernel
theorem dX9_remove_5 : decode cX9_remove 5 = .ok (.aload_n 0, 1) := by decide +kernel
theorem dX9_remove_6 : decode cX9_remove 6 = .ok (.getfield 170, 3) := by decide +kernel
theorem dX9_remove_9 : decode cX9_remove 9 = .ok (.ifCond .eq 6, 3) := by decide +kernel
theorem dX9_remove_12 : decode cX9_remove 12 = .ok (.bipush (-8), 2) := by decide +kernel
theorem dX9_remove_14 : decode cX9_remove 14 = .ok (.ireturn, 1) := by decide +kernel
theorem dX9_remove_15 : decode cX9_remove 15 = .ok (.aload_n 0, 1) := by decide +kernel
theorem dX9_remove_16 : decode cX9_remove 16 = .ok (.iload_n 1, 1) := by decide +kernel
theorem dX9_remove_17 : decode cX9_remove 17 = .ok (.invokevirtual 196, 3) := by decide +kernel
theorem dX9_remove_20 : decode cX9_remove 20 = .ok (.istore_n 2, 1) := by decide +kernel
theorem dX9_remove_21 : decode cX9_remove 21 = .ok (.iload_n 2, 1) := by decide +kernel
theorem dX9_remove_22 : decode cX9_remove 22 = .ok (.ifCond .ge 6, 3) := by decide +kernel
theorem dX9_remove_25 : decode cX9_remove 25 = .ok (.bipush (-3), 2) := by decide +kernel
theorem dX9_remove_27 : decode cX9_remove 27 = .ok (.ireturn, 1) := by decide +kernel
theorem dX9_remove_28 : decode cX9_remove 28 = .ok (.aload_n 0, 1) := by decide +kernel
theorem dX9_remove_29 : decode cX9_remove 29 = .ok (.getfield 193, 3) := by decide +kernel
theorem dX9_remove_32 : decode cX9_remove 32 = .ok (.ifCond .eq 7, 3) := by decide +kernel
theorem dX9_remove_35 : decode cX9_remove 35 = .ok (.iconst 4, 1) := by decide +kernel
theorem dX9_remove_36 : decode cX9_remove 36 = .ok (.goto 18, 3) := by decide +kernel
theorem dX9_remove_39 : decode cX9_remove 39 = .ok (.aload_n 0, 1) := by decide +kernel
theorem dX9_remove_40 : decode cX9_remove 40 = .ok (.getfield 29, 3) := by decide +kernel
theorem dX9_remove_43 : decode cX9_remove 43 = .ok (.iload_n 2, 1) := by decide +kernel
theorem dX9_remove_44 : decode cX9_remove 44 = .ok (.iaload, 1) := by decide +kernel
theorem dX9_remove_45 : decode cX9_remove 45 = .ok (.iconst 2, 1) := by decide +kernel
theorem dX9_remove_46 : decode cX9_remove 46 = .ok (.if_icmp .ne 7, 3) := by decide +kernel
theorem dX9_remove_49 : decode cX9_remove 49 = .ok (.iconst 2, 1) := by decide +kernel
theorem dX9_remove_50 : decode cX9_remove 50 = .ok (.goto 4, 3) := by decide +kernel
theorem dX9_remove_53 : decode cX9_remove 53 = .ok (.iconst 1, 1) := by decide +kernel
theorem dX9_remove_54 : decode cX9_remove 54 = .ok (.istore_n 3, 1) := by decide +kernel
theorem dX9_remove_55 : decode cX9_remove 55 = .ok (.aload_n 0, 1) := by decide +kernel
theorem dX9_remove_56 : decode cX9_remove 56 = .ok (.iload_n 3, 1) := by decide +kernel
theorem dX9_remove_57 : decode cX9_remove 57 = .ok (.invokevirtual 199, 3) := by decide +kernel
theorem dX9_remove_60 : decode cX9_remove 60 = .ok (.istore 4, 2) := by decide +kernel
theorem dX9_remove_62 : decode cX9_remove 62 = .ok (.iload 4, 2) := by decide +kernel
theorem dX9_remove_64 : decode cX9_remove 64 = .ok (.ifCond .eq 16, 3) := by decide +kernel
theorem dX9_remove_67 : decode cX9_remove 67 = .ok (.aload_n 0, 1) := by decide +kernel
theorem dX9_remove_68 : decode cX9_remove 68 = .ok (.getfield 193, 3) := by decide +kernel
theorem dX9_remove_71 : decode cX9_remove 71 = .ok (.ifCond .ne 12, 3) := by decide +kernel
theorem dX9_remove_74 : decode cX9_remove 74 = .ok (.iload 4, 2) := by decide +kernel
theorem dX9_remove_76 : decode cX9_remove 76 = .ok (.iload_n 3, 1) := by decide +kernel
theorem dX9_remove_77 : decode cX9_remove 77 = .ok (.if_icmp .ge 6, 3) := by decide +kernel
theorem dX9_remove_80 : decode cX9_remove 80 = .ok (.bipush (-9), 2) := by decide +kernel
theorem dX9_remove_82 : decode cX9_remove 82 = .ok (.ireturn, 1) := by decide +kernel
theorem dX9_remove_83 : decode cX9_remove 83 = .ok (.aload_n 0, 1) := by decide +kernel
theorem dX9_remove_84 : decode cX9_remove 84 = .ok (.iload_n 2, 1) := by decide +kernel
theorem dX9_remove_85 : decode cX9_remove 85 = .ok (.invokevirtual 220, 3) := by decide +kernel
theorem dX9_remove_88 : decode cX9_remove 88 = .ok (.iload 4, 2) := by decide +kernel
theorem dX9_remove_90 : decode cX9_remove 90 = .ok (.iload_n 3, 1) := by decide +kernel
theorem dX9_remove_91 : decode cX9_remove 91 = .ok (.if_icmp .ne 5, 3) := by decide +kernel
theorem dX9_remove_94 : decode cX9_remove 94 = .ok (.iconst 1, 1) := by decide +kernel
theorem dX9_remove_95 : decode cX9_remove 95 = .ok (.ireturn, 1) := by decide +kernel
theorem dX9_remove_96 : decode cX9_remove 96 = .ok (.aload_n 0, 1) := by decide +kernel
theorem dX9_remove_97 : decode cX9_remove 97 = .ok (.iconst 1, 1) := by decide +kernel
theorem dX9_remove_98 : decode cX9_remove 98 = .ok (.putfield 217, 3) := by decide +kernel
theorem dX9_remove_101 : decode cX9_remove 101 = .ok (.bipush (-9), 2) := by decide +kernel
theorem dX9_remove_103 : decode cX9_remove 103 = .ok (.ireturn, 1) := by decide +kernel
theorem dX9_read_0 : decode cX9_read 0 = .ok (.aload_n 0, 1) := by decide +kernel
theorem dX9_read_1 : decode cX9_read 1 = .ok (.getfield 170, 3) := by decide +kernel
theorem dX9_read_4 : decode cX9_read 4 = .ok (.ifCond .eq 6, 3) := by decide +kernel
theorem dX9_read_7 : decode cX9_read 7 = .ok (.bipush (-8), 2) := by decide +kernel
theorem dX9_read_9 : decode cX9_read 9 = .ok (.ireturn, 1) := by decide +kernel
theorem dX9_read_10 : decode cX9_read 10 = .ok (.iload_n 2, 1) := by decide +kernel
theorem dX9_read_11 : decode cX9_read 11 = .ok (.ifCond .eq 13, 3) := by decide +kernel
theorem dX9_read_14 : decode cX9_read 14 = .ok (.aload_n 0, 1) := by decide +kernel
theorem dX9_read_15 : decode cX9_read 15 = .ok (.getfield 193, 3) := by decide +kernel
theorem dX9_read_18 : decode cX9_read 18 = .ok (.ifCond .ne 6, 3) := by decide +kernel
theorem dX9_read_21 : decode cX9_read 21 = .ok (.bipush (-2), 2) := by decide +kernel
theorem dX9_read_23 : decode cX9_read 23 = .ok (.ireturn, 1) := by decide +kernel
theorem dX9_read_24 : decode cX9_read 24 = .ok (.aload_n 0, 1) := by decide +kernel
theorem dX9_read_25 : decode cX9_read 25 = .ok (.iload_n 1, 1) := by decide +kernel
theorem dX9_read_26 : decode cX9_read 26 = .ok (.invokevirtual 196, 3) := by decide +kernel
theorem dX9_read_29 : decode cX9_read 29 = .ok (.istore_n 3, 1) := by decide +kernel
theorem dX9_read_30 : decode cX9_read 30 = .ok (.aload_n 0, 1) := by decide +kernel
theorem dX9_read_31 : decode cX9_read 31 = .ok (.iconst (-1), 1) := by decide +kernel
theorem dX9_read_32 : decode cX9_read 32 = .ok (.putfield 78, 3) := by decide +kernel
theorem dX9_read_35 : decode cX9_read 35 = .ok (.iload_n 3, 1) := by decide +kernel
theorem dX9_read_36 : decode cX9_read 36 = .ok (.ifCond .ge 5, 3) := by decide +kernel
theorem dX9_read_39 : decode cX9_read 39 = .ok (.iconst 0, 1) := by decide +kernel
theorem dX9_read_40 : decode cX9_read 40 = .ok (.ireturn, 1) := by decide +kernel
theorem dX9_read_41 : decode cX9_read 41 = .ok (.iload_n 2, 1) := by decide +kernel
theorem dX9_read_42 : decode cX9_read 42 = .ok (.ifCond .eq 7, 3) := by decide +kernel
theorem dX9_read_45 : decode cX9_read 45 = .ok (.iconst 1, 1) := by decide +kernel
theorem dX9_read_46 : decode cX9_read 46 = .ok (.goto 4, 3) := by decide +kernel
theorem dX9_read_49 : decode cX9_read 49 = .ok (.iconst 0, 1) := by decide +kernel
theorem dX9_read_50 : decode cX9_read 50 = .ok (.istore 4, 2) := by decide +kernel
theorem dX9_read_52 : decode cX9_read 52 = .ok (.aload_n 0, 1) := by decide +kernel
theorem dX9_read_53 : decode cX9_read 53 = .ok (.aload_n 0, 1) := by decide +kernel
theorem dX9_read_54 : decode cX9_read 54 = .ok (.getfield 48, 3) := by decide +kernel
theorem dX9_read_57 : decode cX9_read 57 = .ok (.iload 4, 2) := by decide +kernel
theorem dX9_read_59 : decode cX9_read 59 = .ok (.iaload, 1) := by decide +kernel
theorem dX9_read_60 : decode cX9_read 60 = .ok (.putfield 78, 3) := by decide +kernel
theorem dX9_read_63 : decode cX9_read 63 = .ok (.aload_n 0, 1) := by decide +kernel
theorem dX9_read_64 : decode cX9_read 64 = .ok (.aload_n 0, 1) := by decide +kernel
theorem dX9_read_65 : decode cX9_read 65 = .ok (.iload_n 3, 1) := by decide +kernel
theorem dX9_read_66 : decode cX9_read 66 = .ok (.iload 4, 2) := by decide +kernel
theorem dX9_read_68 : decode cX9_read 68 = .ok (.invokevirtual 205, 3) := by decide +kernel
theorem dX9_read_71 : decode cX9_read 71 = .ok (.sipush 640, 3) := by decide +kernel
theorem dX9_read_74 : decode cX9_read 74 = .ok (.invokevirtual 144, 3) := by decide +kernel
theorem dX9_read_77 : decode cX9_read 77 = .ok (.iconst 0, 1) := by decide +kernel
theorem dX9_read_78 : decode cX9_read 78 = .ok (.istore 5, 2) := by decide +kernel
theorem dX9_read_80 : decode cX9_read 80 = .ok (.iload 5, 2) := by decide +kernel
theorem dX9_read_82 : decode cX9_read 82 = .ok (.bipush 8, 2) := by decide +kernel
theorem dX9_read_84 : decode cX9_read 84 = .ok (.if_icmp .ge 29, 3) := by decide +kernel
theorem dX9_read_87 : decode cX9_read 87 = .ok (.aload_n 0, 1) := by decide +kernel
theorem dX9_read_88 : decode cX9_read 88 = .ok (.getfield 82, 3) := by decide +kernel
theorem dX9_read_91 : decode cX9_read 91 = .ok (.iload 5, 2) := by decide +kernel
theorem dX9_read_93 : decode cX9_read 93 = .ok (.aload_n 0, 1) := by decide +kernel
theorem dX9_read_94 : decode cX9_read 94 = .ok (.getfield 45, 3) := by decide +kernel
theorem dX9_read_97 : decode cX9_read 97 = .ok (.bipush 8, 2) := by decide +kernel
theorem dX9_read_99 : decode cX9_read 99 = .ok (.iload 4, 2) := by decide +kernel
theorem dX9_read_101 : decode cX9_read 101 = .ok (.imul, 1) := by decide +kernel
theorem dX9_read_102 : decode cX9_read 102 = .ok (.iload 5, 2) := by decide +kernel
theorem dX9_read_104 : decode cX9_read 104 = .ok (.iadd, 1) := by decide +kernel
theorem dX9_read_105 : decode cX9_read 105 = .ok (.iaload, 1) := by decide +kernel
theorem dX9_read_106 : decode cX9_read 106 = .ok (.iastore, 1) := by decide +kernel
theorem dX9_read_107 : decode cX9_read 107 = .ok (.iinc 5 1, 3) := by decide +kernel
theorem dX9_read_110 : decode cX9_read 110 = .ok (.goto (-30), 3) := by decide +kernel
theorem dX9_read_113 : decode cX9_read 113 = .ok (.iconst 1, 1) := by decide +kernel
theorem dX9_read_114 : decode cX9_read 114 = .ok (.ireturn, 1) := by decide +kernel
theorem dX9_seen_0 : decode cX9_seen 0 = .ok (.aload_n 0, 1) := by decide +kernel
theorem dX9_seen_1 : decode cX9_seen 1 = .ok (.getfield 78, 3) := by decide +kernel
theorem dX9_seen_4 : decode cX9_seen 4 = .ok (.ireturn, 1) := by decide +kernel
theorem dX9_value_0 : decode cX9_value 0 = .ok (.iload_n 1, 1) := by decide +kernel
theorem dX9_value_1 : decode cX9_value 1 = .ok (.iconst 0, 1) := by decide +kernel
theorem dX9_value_2 : decode cX9_value 2 = .ok (.aload_n 0, 1) := by decide +kernel
theorem dX9_value_3 : decode cX9_value 3 = .ok (.getfield 78, 3) := by decide +kernel
theorem dX9_value_6 : decode cX9_value 6 = .ok (.iconst 1, 1) := by decide +kernel
theorem dX9_value_7 : decode cX9_value 7 = .ok (.isub, 1) := by decide +kernel
theorem dX9_value_8 : decode cX9_value 8 = .ok (.invokestatic 110, 3) := by decide +kernel
theorem dX9_value_11 : decode cX9_value 11 = .ok (.ifCond .ne 5, 3) := by decide +kernel
theorem dX9_value_14 : decode cX9_value 14 = .ok (.lconst 0, 1) := by decide +kernel
theorem dX9_value_15 : decode cX9_value 15 = .ok (.lreturn, 1) := by decide +kernel
theorem dX9_value_16 : decode cX9_value 16 = .ok (.aload_n 0, 1) := by decide +kernel
theorem dX9_value_17 : decode cX9_value 17 = .ok (.getfield 82, 3) := by decide +kernel
theorem dX9_value_20 : decode cX9_value 20 = .ok (.iload_n 1, 1) := by decide +kernel
theorem dX9_value_21 : decode cX9_value 21 = .ok (.iaload, 1) := by decide +kernel
theorem dX9_value_22 : decode cX9_value 22 = .ok (.iconst 4, 1) := by decide +kernel
theorem dX9_value_23 : decode cX9_value 23 = .ok (.if_icmp .ne 17, 3) := by decide +kernel
theorem dX9_value_26 : decode cX9_value 26 = .ok (.aload_n 0, 1) := by decide +kernel
theorem dX9_value_27 : decode cX9_value 27 = .ok (.getfield 13, 3) := by decide +kernel
theorem dX9_value_30 : decode cX9_value 30 = .ok (.sipush 640, 3) := by decide +kernel
theorem dX9_value_33 : decode cX9_value 33 = .ok (.iload_n 1, 1) := by decide +kernel
theorem dX9_value_34 : decode cX9_value 34 = .ok (.iadd, 1) := by decide +kernel
theorem dX9_value_35 : decode cX9_value 35 = .ok (.iaload, 1) := by decide +kernel
theorem dX9_value_36 : decode cX9_value 36 = .ok (.i2l, 1) := by decide +kernel
theorem dX9_value_37 : decode cX9_value 37 = .ok (.goto 13, 3) := by decide +kernel
theorem dX9_value_40 : decode cX9_value 40 = .ok (.aload_n 0, 1) := by decide +kernel
theorem dX9_value_41 : decode cX9_value 41 = .ok (.getfield 7, 3) := by decide +kernel
theorem dX9_value_44 : decode cX9_value 44 = .ok (.sipush 640, 3) := by decide +kernel
theorem dX9_value_47 : decode cX9_value 47 = .ok (.iload_n 1, 1) := by decide +kernel
theorem dX9_value_48 : decode cX9_value 48 = .ok (.iadd, 1) := by decide +kernel
theorem dX9_value_49 : decode cX9_value 49 = .ok (.laload, 1) := by decide +kernel
theorem dX9_value_50 : decode cX9_value 50 = .ok (.lreturn, 1) := by decide +kernel
theorem dX9_letter_0 : decode cX9_letter 0 = .ok (.iload_n 1, 1) := by decide +kernel
theorem dX9_letter_1 : decode cX9_letter 1 = .ok (.iconst 0, 1) := by decide +kernel
theorem dX9_letter_2 : decode cX9_letter 2 = .ok (.aload_n 0, 1) := by decide +kernel
theorem dX9_letter_3 : decode cX9_letter 3 = .ok (.getfield 78, 3) := by decide +kernel
theorem dX9_letter_6 : decode cX9_letter 6 = .ok (.iconst 1, 1) := by decide +kernel
theorem dX9_letter_7 : decode cX9_letter 7 = .ok (.isub, 1) := by decide +kernel
theorem dX9_letter_8 : decode cX9_letter 8 = .ok (.invokestatic 110, 3) := by decide +kernel
theorem dX9_letter_11 : decode cX9_letter 11 = .ok (.ifCond .eq 33, 3) := by decide +kernel
theorem dX9_letter_14 : decode cX9_letter 14 = .ok (.aload_n 0, 1) := by decide +kernel
theorem dX9_letter_15 : decode cX9_letter 15 = .ok (.getfield 82, 3) := by decide +kernel
theorem dX9_letter_18 : decode cX9_letter 18 = .ok (.iload_n 1, 1) := by decide +kernel
theorem dX9_letter_19 : decode cX9_letter 19 = .ok (.iaload, 1) := by decide +kernel
theorem dX9_letter_20 : decode cX9_letter 20 = .ok (.iconst 4, 1) := by decide +kernel
theorem dX9_letter_21 : decode cX9_letter 21 = .ok (.if_icmp .ne 23, 3) := by decide +kernel
theorem dX9_letter_24 : decode cX9_letter 24 = .ok (.iload_n 2, 1) := by decide +kernel
theorem dX9_letter_25 : decode cX9_letter 25 = .ok (.iconst 0, 1) := by decide +kernel
theorem dX9_letter_26 : decode cX9_letter 26 = .ok (.aload_n 0, 1) := by decide +kernel
theorem dX9_letter_27 : decode cX9_letter 27 = .ok (.getfield 13, 3) := by decide +kernel
theorem dX9_letter_30 : decode cX9_letter 30 = .ok (.sipush 640, 3) := by decide +kernel
theorem dX9_letter_33 : decode cX9_letter 33 = .ok (.iload_n 1, 1) := by decide +kernel
theorem dX9_letter_34 : decode cX9_letter 34 = .ok (.iadd, 1) := by decide +kernel
theorem dX9_letter_35 : decode cX9_letter 35 = .ok (.iaload, 1) := by decide +kernel
theorem dX9_letter_36 : decode cX9_letter 36 = .ok (.iconst 1, 1) := by decide +kernel
theorem dX9_letter_37 : decode cX9_letter 37 = .ok (.isub, 1) := by decide +kernel
theorem dX9_letter_38 : decode cX9_letter 38 = .ok (.invokestatic 110, 3) := by decide +kernel
theorem dX9_letter_41 : decode cX9_letter 41 = .ok (.ifCond .ne 5, 3) := by decide +kernel
theorem dX9_letter_44 : decode cX9_letter 44 = .ok (.iconst 0, 1) := by decide +kernel
theorem dX9_letter_45 : decode cX9_letter 45 = .ok (.ireturn, 1) := by decide +kernel
theorem dX9_letter_46 : decode cX9_letter 46 = .ok (.aload_n 0, 1) := by decide +kernel
theorem dX9_letter_47 : decode cX9_letter 47 = .ok (.getfield 17, 3) := by decide +kernel
theorem dX9_letter_50 : decode cX9_letter 50 = .ok (.bipush 24, 2) := by decide +kernel
theorem dX9_letter_52 : decode cX9_letter 52 = .ok (.sipush 640, 3) := by decide +kernel
theorem dX9_letter_55 : decode cX9_letter 55 = .ok (.iload_n 1, 1) := by decide +kernel
theorem dX9_letter_56 : decode cX9_letter 56 = .ok (.iadd, 1) := by decide +kernel
theorem dX9_letter_57 : decode cX9_letter 57 = .ok (.imul, 1) := by decide +kernel
theorem dX9_letter_58 : decode cX9_letter 58 = .ok (.iload_n 2, 1) := by decide +kernel
theorem dX9_letter_59 : decode cX9_letter 59 = .ok (.iadd, 1) := by decide +kernel
theorem dX9_letter_60 : decode cX9_letter 60 = .ok (.iaload, 1) := by decide +kernel
theorem dX9_letter_61 : decode cX9_letter 61 = .ok (.ireturn, 1) := by decide +kernel
theorem dX9_next_0 : decode cX9_next 0 = .ok (.aload_n 0, 1) := by decide +kernel
theorem dX9_next_1 : decode cX9_next 1 = .ok (.getfield 170, 3) := by decide +kernel
theorem dX9_next_4 : decode cX9_next 4 = .ok (.ifCond .eq 5, 3) := by decide +kernel
theorem dX9_next_7 : decode cX9_next 7 = .ok (.iconst 0, 1) := by decide +kernel
theorem dX9_next_8 : decode cX9_next 8 = .ok (.ireturn, 1) := by decide +kernel
theorem dX9_next_9 : decode cX9_next 9 = .ok (.iconst 0, 1) := by decide +kernel
theorem dX9_next_10 : decode cX9_next 10 = .ok (.istore_n 3, 1) := by decide +kernel
theorem dX9_next_11 : decode cX9_next 11 = .ok (.iload_n 3, 1) := by decide +kernel
theorem dX9_next_12 : decode cX9_next 12 = .ok (.aload_n 0, 1) := by decide +kernel
theorem dX9_next_13 : decode cX9_next 13 = .ok (.getfield 187, 3) := by decide +kernel
theorem dX9_next_16 : decode cX9_next 16 = .ok (.if_icmp .ge 30, 3) := by decide +kernel
theorem dX9_next_19 : decode cX9_next 19 = .ok (.iload_n 2, 1) := by decide +kernel
theorem dX9_next_20 : decode cX9_next 20 = .ok (.ifCond .ne 13, 3) := by decide +kernel
theorem dX9_next_23 : decode cX9_next 23 = .ok (.aload_n 0, 1) := by decide +kernel
theorem dX9_next_24 : decode cX9_next 24 = .ok (.getfield 23, 3) := by decide +kernel
theorem dX9_next_27 : decode cX9_next 27 = .ok (.iload_n 3, 1) := by decide +kernel
theorem dX9_next_28 : decode cX9_next 28 = .ok (.iaload, 1) := by decide +kernel
theorem dX9_next_29 : decode cX9_next 29 = .ok (.iload_n 1, 1) := by decide +kernel
theorem dX9_next_30 : decode cX9_next 30 = .ok (.if_icmp .le 10, 3) := by decide +kernel
theorem dX9_next_33 : decode cX9_next 33 = .ok (.aload_n 0, 1) := by decide +kernel
theorem dX9_next_34 : decode cX9_next 34 = .ok (.getfield 23, 3) := by decide +kernel
theorem dX9_next_37 : decode cX9_next 37 = .ok (.iload_n 3, 1) := by decide +kernel
theorem dX9_next_38 : decode cX9_next 38 = .ok (.iaload, 1) := by decide +kernel
theorem dX9_next_39 : decode cX9_next 39 = .ok (.ireturn, 1) := by decide +kernel
theorem dX9_next_40 : decode cX9_next 40 = .ok (.iinc 3 1, 3) := by decide +kernel
theorem dX9_next_43 : decode cX9_next 43 = .ok (.goto (-32), 3) := by decide +kernel
theorem dX9_next_46 : decode cX9_next 46 = .ok (.iload_n 1, 1) := by decide +kernel
theorem dX9_next_47 : decode cX9_next 47 = .ok (.ireturn, 1) := by decide +kernel
theorem dX9_more_0 : decode cX9_more 0 = .ok (.aload_n 0, 1) := by decide +kernel
theorem dX9_more_1 : decode cX9_more 1 = .ok (.getfield 170, 3) := by decide +kernel
theorem dX9_more_4 : decode cX9_more 4 = .ok (.ifCond .eq 6, 3) := by decide +kernel
theorem dX9_more_7 : decode cX9_more 7 = .ok (.bipush (-8), 2) := by decide +kernel
theorem dX9_more_9 : decode cX9_more 9 = .ok (.ireturn, 1) := by decide +kernel
theorem dX9_more_10 : decode cX9_more 10 = .ok (.iconst 0, 1) := by decide +kernel
theorem dX9_more_11 : decode cX9_more 11 = .ok (.istore_n 3, 1) := by decide +kernel
theorem dX9_more_12 : decode cX9_more 12 = .ok (.iconst 0, 1) := by decide +kernel
theorem dX9_more_13 : decode cX9_more 13 = .ok (.istore 4, 2) := by decide +kernel
theorem dX9_more_15 : decode cX9_more 15 = .ok (.iload 4, 2) := by decide +kernel
theorem dX9_more_17 : decode cX9_more 17 = .ok (.aload_n 0, 1) := by decide +kernel
theorem dX9_more_18 : decode cX9_more 18 = .ok (.getfield 187, 3) := by decide +kernel
theorem dX9_more_21 : decode cX9_more 21 = .ok (.if_icmp .ge 32, 3) := by decide +kernel
theorem dX9_more_24 : decode cX9_more 24 = .ok (.iload_n 3, 1) := by decide +kernel
theorem dX9_more_25 : decode cX9_more 25 = .ok (.iload_n 2, 1) := by decide +kernel
theorem dX9_more_26 : decode cX9_more 26 = .ok (.ifCond .ne 14, 3) := by decide +kernel
theorem dX9_more_29 : decode cX9_more 29 = .ok (.aload_n 0, 1) := by decide +kernel
theorem dX9_more_30 : decode cX9_more 30 = .ok (.getfield 23, 3) := by decide +kernel
theorem dX9_more_33 : decode cX9_more 33 = .ok (.iload 4, 2) := by decide +kernel
theorem dX9_more_35 : decode cX9_more 35 = .ok (.iaload, 1) := by decide +kernel
theorem dX9_more_36 : decode cX9_more 36 = .ok (.iload_n 1, 1) := by decide +kernel
theorem dX9_more_37 : decode cX9_more 37 = .ok (.if_icmp .le 7, 3) := by decide +kernel
theorem dX9_more_40 : decode cX9_more 40 = .ok (.iconst 1, 1) := by decide +kernel
theorem dX9_more_41 : decode cX9_more 41 = .ok (.goto 4, 3) := by decide +kernel
theorem dX9_more_44 : decode cX9_more 44 = .ok (.iconst 0, 1) := by decide +kernel
theorem dX9_more_45 : decode cX9_more 45 = .ok (.iadd, 1) := by decide +kernel
theorem dX9_more_46 : decode cX9_more 46 = .ok (.istore_n 3, 1) := by decide +kernel
theorem dX9_more_47 : decode cX9_more 47 = .ok (.iinc 4 1, 3) := by decide +kernel
theorem dX9_more_50 : decode cX9_more 50 = .ok (.goto (-35), 3) := by decide +kernel
theorem dX9_more_53 : decode cX9_more 53 = .ok (.iload_n 3, 1) := by decide +kernel
theorem dX9_more_54 : decode cX9_more 54 = .ok (.ireturn, 1) := by decide +kernel
theorem dX9_shadowed_0 : decode cX9_shadowed 0 = .ok (.iconst 0, 1) := by decide +kernel
theorem dX9_shadowed_1 : decode cX9_shadowed 1 = .ok (.istore_n 1, 1) := by decide +kernel
theorem dX9_shadowed_2 : decode cX9_shadowed 2 = .ok (.iconst 0, 1) := by decide +kernel
theorem dX9_shadowed_3 : decode cX9_shadowed 3 = .ok (.istore_n 2, 1) := by decide +kernel
theorem dX9_shadowed_4 : decode cX9_shadowed 4 = .ok (.iload_n 2, 1) := by decide +kernel
theorem dX9_shadowed_5 : decode cX9_shadowed 5 = .ok (.aload_n 0, 1) := by decide +kernel
theorem dX9_shadowed_6 : decode cX9_shadowed 6 = .ok (.getfield 187, 3) := by decide +kernel
theorem dX9_shadowed_9 : decode cX9_shadowed 9 = .ok (.if_icmp .ge 27, 3) := by decide +kernel
theorem dX9_shadowed_12 : decode cX9_shadowed 12 = .ok (.iload_n 1, 1) := by decide +kernel
theorem dX9_shadowed_13 : decode cX9_shadowed 13 = .ok (.aload_n 0, 1) := by decide +kernel
theorem dX9_shadowed_14 : decode cX9_shadowed 14 = .ok (.getfield 29, 3) := by decide +kernel
theorem dX9_shadowed_17 : decode cX9_shadowed 17 = .ok (.iload_n 2, 1) := by decide +kernel
theorem dX9_shadowed_18 : decode cX9_shadowed 18 = .ok (.iaload, 1) := by decide +kernel
theorem dX9_shadowed_19 : decode cX9_shadowed 19 = .ok (.iconst 2, 1) := by decide +kernel
theorem dX9_shadowed_20 : decode cX9_shadowed 20 = .ok (.if_icmp .ne 7, 3) := by decide +kernel
theorem dX9_shadowed_23 : decode cX9_shadowed 23 = .ok (.iconst 1, 1) := by decide +kernel
theorem dX9_shadowed_24 : decode cX9_shadowed 24 = .ok (.goto 4, 3) := by decide +kernel
theorem dX9_shadowed_27 : decode cX9_shadowed 27 = .ok (.iconst 0, 1) := by decide +kernel
theorem dX9_shadowed_28 : decode cX9_shadowed 28 = .ok (.iadd, 1) := by decide +kernel
theorem dX9_shadowed_29 : decode cX9_shadowed 29 = .ok (.istore_n 1, 1) := by decide +kernel
theorem dX9_shadowed_30 : decode cX9_shadowed 30 = .ok (.iinc 2 1, 3) := by decide +kernel
theorem dX9_shadowed_33 : decode cX9_shadowed 33 = .ok (.goto (-29), 3) := by decide +kernel
theorem dX9_shadowed_36 : decode cX9_shadowed 36 = .ok (.iload_n 1, 1) := by decide +kernel
theorem dX9_shadowed_37 : decode cX9_shadowed 37 = .ok (.ireturn, 1) := by decide +kernel
theorem dX9_isLagging_0 : decode cX9_isLagging 0 = .ok (.aload_n 0, 1) := by decide +kernel
theorem dX9_isLagging_1 : decode cX9_isLagging 1 = .ok (.getfield 193, 3) := by decide +kernel
theorem dX9_isLagging_4 : decode cX9_isLagging 4 = .ok (.ifCond .eq 12, 3) := by decide +kernel
theorem dX9_isLagging_7 : decode cX9_isLagging 7 = .ok (.aload_n 0, 1) := by decide +kernel
theorem dX9_isLagging_8 : decode cX9_isLagging 8 = .ok (.getfield 32, 3) := by decide +kernel
theorem dX9_isLagging_11 : decode cX9_isLagging 11 = .ok (.iload_n 1, 1) := by decide +kernel
theorem dX9_isLagging_12 : decode cX9_isLagging 12 = .ok (.baload, 1) := by decide +kernel
theorem dX9_isLagging_13 : decode cX9_isLagging 13 = .ok (.goto 17, 3) := by decide +kernel
theorem dX9_isLagging_16 : decode cX9_isLagging 16 = .ok (.aload_n 0, 1) := by decide +kernel
theorem dX9_isLagging_17 : decode cX9_isLagging 17 = .ok (.getfield 29, 3) := by decide +kernel
theorem dX9_isLagging_20 : decode cX9_isLagging 20 = .ok (.iload_n 1, 1) := by decide +kernel
theorem dX9_isLagging_21 : decode cX9_isLagging 21 = .ok (.iaload, 1) := by decide +kernel
theorem dX9_isLagging_22 : decode cX9_isLagging 22 = .ok (.ifCond .le 7, 3) := by decide +kernel
theorem dX9_isLagging_25 : decode cX9_isLagging 25 = .ok (.iconst 1, 1) := by decide +kernel
theorem dX9_isLagging_26 : decode cX9_isLagging 26 = .ok (.goto 4, 3) := by decide +kernel
theorem dX9_isLagging_29 : decode cX9_isLagging 29 = .ok (.iconst 0, 1) := by decide +kernel
theorem dX9_isLagging_30 : decode cX9_isLagging 30 = .ok (.ireturn, 1) := by decide +kernel
theorem dX9_begin_0 : decode cX9_begin 0 = .ok (.aload_n 0, 1) := by decide +kernel
theorem dX9_begin_1 : decode cX9_begin 1 = .ok (.iconst 0, 1) := by decide +kernel
theorem dX9_begin_2 : decode cX9_begin 2 = .ok (.putfield 177, 3) := by decide +kernel
theorem dX9_begin_5 : decode cX9_begin 5 = .ok (.aload_n 0, 1) := by decide +kernel
theorem dX9_begin_6 : decode cX9_begin 6 = .ok (.getfield 170, 3) := by decide +kernel
theorem dX9_begin_9 : decode cX9_begin 9 = .ok (.ifCond .eq 6, 3) := by decide +kernel
theorem dX9_begin_12 : decode cX9_begin 12 = .ok (.bipush (-8), 2) := by decide +kernel
theorem dX9_begin_14 : decode cX9_begin 14 = .ok (.ireturn, 1) := by decide +kernel
theorem dX9_begin_15 : decode cX9_begin 15 = .ok (.aload_n 0, 1) := by decide +kernel
theorem dX9_begin_16 : decode cX9_begin 16 = .ok (.getfield 193, 3) := by decide +kernel
theorem dX9_begin_19 : decode cX9_begin 19 = .ok (.ifCond .ne 17, 3) := by decide +kernel
theorem dX9_begin_22 : decode cX9_begin 22 = .ok (.aload_n 0, 1) := by decide +kernel
theorem dX9_begin_23 : decode cX9_begin 23 = .ok (.getfield 184, 3) := by decide +kernel
theorem dX9_begin_26 : decode cX9_begin 26 = .ok (.ifCond .eq 10, 3) := by decide +kernel
theorem dX9_begin_29 : decode cX9_begin 29 = .ok (.aload_n 0, 1) := by decide +kernel
theorem dX9_begin_30 : decode cX9_begin 30 = .ok (.invokevirtual 223, 3) := by decide +kernel
theorem dX9_begin_33 : decode cX9_begin 33 = .ok (.ifCond .le 6, 3) := by decide +kernel
theorem dX9_begin_36 : decode cX9_begin 36 = .ok (.bipush (-2), 2) := by decide +kernel
theorem dX9_begin_38 : decode cX9_begin 38 = .ok (.ireturn, 1) := by decide +kernel
theorem dX9_begin_39 : decode cX9_begin 39 = .ok (.aload_n 0, 1) := by decide +kernel
theorem dX9_begin_40 : decode cX9_begin 40 = .ok (.getfield 227, 3) := by decide +kernel
theorem dX9_begin_43 : decode cX9_begin 43 = .ok (.bipush 30, 2) := by decide +kernel
theorem dX9_begin_45 : decode cX9_begin 45 = .ok (.if_icmp .ne 6, 3) := by decide +kernel
theorem dX9_begin_48 : decode cX9_begin 48 = .ok (.bipush (-4), 2) := by decide +kernel
theorem dX9_begin_50 : decode cX9_begin 50 = .ok (.ireturn, 1) := by decide +kernel
theorem dX9_begin_51 : decode cX9_begin 51 = .ok (.aload_n 0, 1) := by decide +kernel
theorem dX9_begin_52 : decode cX9_begin 52 = .ok (.iconst 0, 1) := by decide +kernel
theorem dX9_begin_53 : decode cX9_begin 53 = .ok (.iconst 2, 1) := by decide +kernel
theorem dX9_begin_54 : decode cX9_begin 54 = .ok (.invokevirtual 147, 3) := by decide +kernel
theorem dX9_begin_57 : decode cX9_begin 57 = .ok (.iconst 0, 1) := by decide +kernel
theorem dX9_begin_58 : decode cX9_begin 58 = .ok (.istore_n 1, 1) := by decide +kernel
theorem dX9_begin_59 : decode cX9_begin 59 = .ok (.iload_n 1, 1) := by decide +kernel
theorem dX9_begin_60 : decode cX9_begin 60 = .ok (.aload_n 0, 1) := by decide +kernel
theorem dX9_begin_61 : decode cX9_begin 61 = .ok (.getfield 184, 3) := by decide +kernel
theorem dX9_begin_64 : decode cX9_begin 64 = .ok (.if_icmp .ge 27, 3) := by decide +kernel
theorem dX9_begin_67 : decode cX9_begin 67 = .ok (.aload_n 0, 1) := by decide +kernel
theorem dX9_begin_68 : decode cX9_begin 68 = .ok (.iload_n 1, 1) := by decide +kernel
theorem dX9_begin_69 : decode cX9_begin 69 = .ok (.invokevirtual 230, 3) := by decide +kernel
theorem dX9_begin_72 : decode cX9_begin 72 = .ok (.ifCond .eq 8, 3) := by decide +kernel
theorem dX9_begin_75 : decode cX9_begin 75 = .ok (.bipush (-10), 2) := by decide +kernel
theorem dX9_begin_77 : decode cX9_begin 77 = .ok (.iload_n 1, 1) := by decide +kernel
theorem dX9_begin_78 : decode cX9_begin 78 = .ok (.isub, 1) := by decide +kernel
theorem dX9_begin_79 : decode cX9_begin 79 = .ok (.ireturn, 1) := by decide +kernel
theorem dX9_begin_80 : decode cX9_begin 80 = .ok (.aload_n 0, 1) := by decide +kernel
theorem dX9_begin_81 : decode cX9_begin 81 = .ok (.iload_n 1, 1) := by decide +kernel
theorem dX9_begin_82 : decode cX9_begin 82 = .ok (.invokevirtual 161, 3) := by decide +kernel
theorem dX9_begin_85 : decode cX9_begin 85 = .ok (.iinc 1 1, 3) := by decide +kernel
theorem dX9_begin_88 : decode cX9_begin 88 = .ok (.goto (-29), 3) := by decide +kernel
theorem dX9_begin_91 : decode cX9_begin 91 = .ok (.aload_n 0, 1) := by decide +kernel
theorem dX9_begin_92 : decode cX9_begin 92 = .ok (.invokevirtual 180, 3) := by decide +kernel
theorem dX9_begin_95 : decode cX9_begin 95 = .ok (.ifCond .ne 6, 3) := by decide +kernel
theorem dX9_begin_98 : decode cX9_begin 98 = .ok (.bipush (-9), 2) := by decide +kernel
theorem dX9_begin_100 : decode cX9_begin 100 = .ok (.ireturn, 1) := by decide +kernel
theorem dX9_begin_101 : decode cX9_begin 101 = .ok (.aload_n 0, 1) := by decide +kernel
theorem dX9_begin_102 : decode cX9_begin 102 = .ok (.iconst 2, 1) := by decide +kernel
theorem dX9_begin_103 : decode cX9_begin 103 = .ok (.iconst 1, 1) := by decide +kernel
theorem dX9_begin_104 : decode cX9_begin 104 = .ok (.invokevirtual 147, 3) := by decide +kernel
theorem dX9_begin_107 : decode cX9_begin 107 = .ok (.iconst 0, 1) := by decide +kernel
theorem dX9_begin_108 : decode cX9_begin 108 = .ok (.istore_n 1, 1) := by decide +kernel
theorem dX9_begin_109 : decode cX9_begin 109 = .ok (.iload_n 1, 1) := by decide +kernel
theorem dX9_begin_110 : decode cX9_begin 110 = .ok (.aload_n 0, 1) := by decide +kernel
theorem dX9_begin_111 : decode cX9_begin 111 = .ok (.getfield 184, 3) := by decide +kernel
theorem dX9_begin_114 : decode cX9_begin 114 = .ok (.if_icmp .ge 84, 3) := by decide +kernel
theorem dX9_begin_117 : decode cX9_begin 117 = .ok (.aload_n 0, 1) := by decide +kernel
theorem dX9_begin_118 : decode cX9_begin 118 = .ok (.getfield 51, 3) := by decide +kernel
theorem dX9_begin_121 : decode cX9_begin 121 = .ok (.bipush 6, 2) := by decide +kernel
theorem dX9_begin_123 : decode cX9_begin 123 = .ok (.iload_n 1, 1) := by decide +kernel
theorem dX9_begin_124 : decode cX9_begin 124 = .ok (.iadd, 1) := by decide +kernel
theorem dX9_begin_125 : decode cX9_begin 125 = .ok (.aload_n 0, 1) := by decide +kernel
theorem dX9_begin_126 : decode cX9_begin 126 = .ok (.getfield 51, 3) := by decide +kernel
theorem dX9_begin_129 : decode cX9_begin 129 = .ok (.iload_n 1, 1) := by decide +kernel
theorem dX9_begin_130 : decode cX9_begin 130 = .ok (.iaload, 1) := by decide +kernel
theorem dX9_begin_131 : decode cX9_begin 131 = .ok (.iastore, 1) := by decide +kernel
theorem dX9_begin_132 : decode cX9_begin 132 = .ok (.aload_n 0, 1) := by decide +kernel
theorem dX9_begin_133 : decode cX9_begin 133 = .ok (.getfield 54, 3) := by decide +kernel
theorem dX9_begin_136 : decode cX9_begin 136 = .ok (.bipush 6, 2) := by decide +kernel
theorem dX9_begin_138 : decode cX9_begin 138 = .ok (.iload_n 1, 1) := by decide +kernel
theorem dX9_begin_139 : decode cX9_begin 139 = .ok (.iadd, 1) := by decide +kernel
theorem dX9_begin_140 : decode cX9_begin 140 = .ok (.aload_n 0, 1) := by decide +kernel
theorem dX9_begin_141 : decode cX9_begin 141 = .ok (.getfield 54, 3) := by decide +kernel
theorem dX9_begin_144 : decode cX9_begin 144 = .ok (.iload_n 1, 1) := by decide +kernel
theorem dX9_begin_145 : decode cX9_begin 145 = .ok (.iaload, 1) := by decide +kernel
theorem dX9_begin_146 : decode cX9_begin 146 = .ok (.iastore, 1) := by decide +kernel
theorem dX9_begin_147 : decode cX9_begin 147 = .ok (.aload_n 0, 1) := by decide +kernel
theorem dX9_begin_148 : decode cX9_begin 148 = .ok (.getfield 57, 3) := by decide +kernel
theorem dX9_begin_151 : decode cX9_begin 151 = .ok (.bipush 6, 2) := by decide +kernel
theorem dX9_begin_153 : decode cX9_begin 153 = .ok (.iload_n 1, 1) := by decide +kernel
theorem dX9_begin_154 : decode cX9_begin 154 = .ok (.iadd, 1) := by decide +kernel
theorem dX9_begin_155 : decode cX9_begin 155 = .ok (.aload_n 0, 1) := by decide +kernel
theorem dX9_begin_156 : decode cX9_begin 156 = .ok (.getfield 57, 3) := by decide +kernel
theorem dX9_begin_159 : decode cX9_begin 159 = .ok (.iload_n 1, 1) := by decide +kernel
theorem dX9_begin_160 : decode cX9_begin 160 = .ok (.iaload, 1) := by decide +kernel
theorem dX9_begin_161 : decode cX9_begin 161 = .ok (.iastore, 1) := by decide +kernel
theorem dX9_begin_162 : decode cX9_begin 162 = .ok (.aload_n 0, 1) := by decide +kernel
theorem dX9_begin_163 : decode cX9_begin 163 = .ok (.getfield 60, 3) := by decide +kernel
theorem dX9_begin_166 : decode cX9_begin 166 = .ok (.bipush 6, 2) := by decide +kernel
theorem dX9_begin_168 : decode cX9_begin 168 = .ok (.iload_n 1, 1) := by decide +kernel
theorem dX9_begin_169 : decode cX9_begin 169 = .ok (.iadd, 1) := by decide +kernel
theorem dX9_begin_170 : decode cX9_begin 170 = .ok (.aload_n 0, 1) := by decide +kernel
theorem dX9_begin_171 : decode cX9_begin 171 = .ok (.getfield 60, 3) := by decide +kernel
theorem dX9_begin_174 : decode cX9_begin 174 = .ok (.iload_n 1, 1) := by decide +kernel
theorem dX9_begin_175 : decode cX9_begin 175 = .ok (.iaload, 1) := by decide +kernel
theorem dX9_begin_176 : decode cX9_begin 176 = .ok (.iastore, 1) := by decide +kernel
theorem dX9_begin_177 : decode cX9_begin 177 = .ok (.aload_n 0, 1) := by decide +kernel
theorem dX9_begin_178 : decode cX9_begin 178 = .ok (.getfield 63, 3) := by decide +kernel
theorem dX9_begin_181 : decode cX9_begin 181 = .ok (.bipush 6, 2) := by decide +kernel
theorem dX9_begin_183 : decode cX9_begin 183 = .ok (.iload_n 1, 1) := by decide +kernel
theorem dX9_begin_184 : decode cX9_begin 184 = .ok (.iadd, 1) := by decide +kernel
theorem dX9_begin_185 : decode cX9_begin 185 = .ok (.aload_n 0, 1) := by decide +kernel
theorem dX9_begin_186 : decode cX9_begin 186 = .ok (.getfield 63, 3) := by decide +kernel
theorem dX9_begin_189 : decode cX9_begin 189 = .ok (.iload_n 1, 1) := by decide +kernel
theorem dX9_begin_190 : decode cX9_begin 190 = .ok (.iaload, 1) := by decide +kernel
theorem dX9_begin_191 : decode cX9_begin 191 = .ok (.iastore, 1) := by decide +kernel
theorem dX9_begin_192 : decode cX9_begin 192 = .ok (.iinc 1 1, 3) := by decide +kernel
theorem dX9_begin_195 : decode cX9_begin 195 = .ok (.goto (-86), 3) := by decide +kernel
theorem dX9_begin_198 : decode cX9_begin 198 = .ok (.aload_n 0, 1) := by decide +kernel
theorem dX9_begin_199 : decode cX9_begin 199 = .ok (.aload_n 0, 1) := by decide +kernel
theorem dX9_begin_200 : decode cX9_begin 200 = .ok (.getfield 184, 3) := by decide +kernel
theorem dX9_begin_203 : decode cX9_begin 203 = .ok (.putfield 150, 3) := by decide +kernel
theorem dX9_begin_206 : decode cX9_begin 206 = .ok (.aload_n 0, 1) := by decide +kernel
theorem dX9_begin_207 : decode cX9_begin 207 = .ok (.iconst 0, 1) := by decide +kernel
theorem dX9_begin_208 : decode cX9_begin 208 = .ok (.putfield 184, 3) := by decide +kernel
theorem dX9_begin_211 : decode cX9_begin 211 = .ok (.aload_n 0, 1) := by decide +kernel
theorem dX9_begin_212 : decode cX9_begin 212 = .ok (.iconst 1, 1) := by decide +kernel
theorem dX9_begin_213 : decode cX9_begin 213 = .ok (.putfield 193, 3) := by decide +kernel
theorem dX9_begin_216 : decode cX9_begin 216 = .ok (.iconst 0, 1) := by decide +kernel
theorem dX9_begin_217 : decode cX9_begin 217 = .ok (.istore_n 1, 1) := by decide +kernel
theorem dX9_begin_218 : decode cX9_begin 218 = .ok (.iload_n 1, 1) := by decide +kernel
theorem dX9_begin_219 : decode cX9_begin 219 = .ok (.aload_n 0, 1) := by decide +kernel
theorem dX9_begin_220 : decode cX9_begin 220 = .ok (.getfield 187, 3) := by decide +kernel
theorem dX9_begin_223 : decode cX9_begin 223 = .ok (.if_icmp .ge 60, 3) := by decide +kernel
theorem dX9_begin_226 : decode cX9_begin 226 = .ok (.aload_n 0, 1) := by decide +kernel
theorem dX9_begin_227 : decode cX9_begin 227 = .ok (.aload_n 0, 1) := by decide +kernel
theorem dX9_begin_228 : decode cX9_begin 228 = .ok (.iload_n 1, 1) := by decide +kernel
theorem dX9_begin_229 : decode cX9_begin 229 = .ok (.iconst 0, 1) := by decide +kernel
theorem dX9_begin_230 : decode cX9_begin 230 = .ok (.invokevirtual 205, 3) := by decide +kernel
theorem dX9_begin_233 : decode cX9_begin 233 = .ok (.aload_n 0, 1) := by decide +kernel
theorem dX9_begin_234 : decode cX9_begin 234 = .ok (.iload_n 1, 1) := by decide +kernel
theorem dX9_begin_235 : decode cX9_begin 235 = .ok (.iconst 1, 1) := by decide +kernel
theorem dX9_begin_236 : decode cX9_begin 236 = .ok (.invokevirtual 205, 3) := by decide +kernel
theorem dX9_begin_239 : decode cX9_begin 239 = .ok (.invokevirtual 214, 3) := by decide +kernel
theorem dX9_begin_242 : decode cX9_begin 242 = .ok (.aload_n 0, 1) := by decide +kernel
theorem dX9_begin_243 : decode cX9_begin 243 = .ok (.getfield 32, 3) := by decide +kernel
theorem dX9_begin_246 : decode cX9_begin 246 = .ok (.iload_n 1, 1) := by decide +kernel
theorem dX9_begin_247 : decode cX9_begin 247 = .ok (.iconst 1, 1) := by decide +kernel
theorem dX9_begin_248 : decode cX9_begin 248 = .ok (.bastore, 1) := by decide +kernel
theorem dX9_begin_249 : decode cX9_begin 249 = .ok (.aload_n 0, 1) := by decide +kernel
theorem dX9_begin_250 : decode cX9_begin 250 = .ok (.getfield 36, 3) := by decide +kernel
theorem dX9_begin_253 : decode cX9_begin 253 = .ok (.iload_n 1, 1) := by decide +kernel
theorem dX9_begin_254 : decode cX9_begin 254 = .ok (.aload_n 0, 1) := by decide +kernel
theorem dX9_begin_255 : decode cX9_begin 255 = .ok (.getfield 29, 3) := by decide +kernel
theorem dX9_begin_258 : decode cX9_begin 258 = .ok (.iload_n 1, 1) := by decide +kernel
theorem dX9_begin_259 : decode cX9_begin 259 = .ok (.iaload, 1) := by decide +kernel
theorem dX9_begin_260 : decode cX9_begin 260 = .ok (.iconst 1, 1) := by decide +kernel
theorem dX9_begin_261 : decode cX9_begin 261 = .ok (.if_icmp .ne 7, 3) := by decide +kernel
theorem dX9_begin_264 : decode cX9_begin 264 = .ok (.iconst 1, 1) := by decide +kernel
theorem dX9_begin_265 : decode cX9_begin 265 = .ok (.goto 4, 3) := by decide +kernel
theorem dX9_begin_268 : decode cX9_begin 268 = .ok (.iconst 0, 1) := by decide +kernel
theorem dX9_begin_269 : decode cX9_begin 269 = .ok (.bastore, 1) := by decide +kernel
theorem dX9_begin_270 : decode cX9_begin 270 = .ok (.aload_n 0, 1) := by decide +kernel
theorem dX9_begin_271 : decode cX9_begin 271 = .ok (.getfield 29, 3) := by decide +kernel
theorem dX9_begin_274 : decode cX9_begin 274 = .ok (.iload_n 1, 1) := by decide +kernel
theorem dX9_begin_275 : decode cX9_begin 275 = .ok (.iconst 0, 1) := by decide +kernel
theorem dX9_begin_276 : decode cX9_begin 276 = .ok (.iastore, 1) := by decide +kernel
theorem dX9_begin_277 : decode cX9_begin 277 = .ok (.iinc 1 1, 3) := by decide +kernel
theorem dX9_begin_280 : decode cX9_begin 280 = .ok (.goto (-62), 3) := by decide +kernel
theorem dX9_begin_283 : decode cX9_begin 283 = .ok (.aload_n 0, 1) := by decide +kernel
theorem dX9_begin_284 : decode cX9_begin 284 = .ok (.getfield 48, 3) := by decide +kernel
theorem dX9_begin_287 : decode cX9_begin 287 = .ok (.iconst 1, 1) := by decide +kernel
theorem dX9_begin_288 : decode cX9_begin 288 = .ok (.iaload, 1) := by decide +kernel
theorem dX9_begin_289 : decode cX9_begin 289 = .ok (.ireturn, 1) := by decide +kernel
theorem dX9_finish_0 : decode cX9_finish 0 = .ok (.aload_n 0, 1) := by decide +kernel
theorem dX9_finish_1 : decode cX9_finish 1 = .ok (.iconst 0, 1) := by decide +kernel
theorem dX9_finish_2 : decode cX9_finish 2 = .ok (.putfield 177, 3) := by decide +kernel
theorem dX9_finish_5 : decode cX9_finish 5 = .ok (.aload_n 0, 1) := by decide +kernel
theorem dX9_finish_6 : decode cX9_finish 6 = .ok (.getfield 170, 3) := by decide +kernel
theorem dX9_finish_9 : decode cX9_finish 9 = .ok (.ifCond .eq 6, 3) := by decide +kernel
theorem dX9_finish_12 : decode cX9_finish 12 = .ok (.bipush (-8), 2) := by decide +kernel
theorem dX9_finish_14 : decode cX9_finish 14 = .ok (.ireturn, 1) := by decide +kernel
theorem dX9_finish_15 : decode cX9_finish 15 = .ok (.aload_n 0, 1) := by decide +kernel
theorem dX9_finish_16 : decode cX9_finish 16 = .ok (.getfield 193, 3) := by decide +kernel
theorem dX9_finish_19 : decode cX9_finish 19 = .ok (.ifCond .ne 6, 3) := by decide +kernel
theorem dX9_finish_22 : decode cX9_finish 22 = .ok (.bipush (-2), 2) := by decide +kernel
theorem dX9_finish_24 : decode cX9_finish 24 = .ok (.ireturn, 1) := by decide +kernel
theorem dX9_finish_25 : decode cX9_finish 25 = .ok (.aload_n 0, 1) := by decide +kernel
theorem dX9_finish_26 : decode cX9_finish 26 = .ok (.invokevirtual 180, 3) := by decide +kernel
theorem dX9_finish_29 : decode cX9_finish 29 = .ok (.ifCond .ne 6, 3) := by decide +kernel
theorem dX9_finish_32 : decode cX9_finish 32 = .ok (.bipush (-9), 2) := by decide +kernel
theorem dX9_finish_34 : decode cX9_finish 34 = .ok (.ireturn, 1) := by decide +kernel
theorem dX9_finish_35 : decode cX9_finish 35 = .ok (.aload_n 0, 1) := by decide +kernel
theorem dX9_finish_36 : decode cX9_finish 36 = .ok (.iconst 1, 1) := by decide +kernel
theorem dX9_finish_37 : decode cX9_finish 37 = .ok (.iconst 0, 1) := by decide +kernel
theorem dX9_finish_38 : decode cX9_finish 38 = .ok (.invokevirtual 147, 3) := by decide +kernel
theorem dX9_finish_41 : decode cX9_finish 41 = .ok (.iconst 0, 1) := by decide +kernel
theorem dX9_finish_42 : decode cX9_finish 42 = .ok (.istore_n 1, 1) := by decide +kernel
theorem dX9_finish_43 : decode cX9_finish 43 = .ok (.iload_n 1, 1) := by decide +kernel
theorem dX9_finish_44 : decode cX9_finish 44 = .ok (.aload_n 0, 1) := by decide +kernel
theorem dX9_finish_45 : decode cX9_finish 45 = .ok (.getfield 187, 3) := by decide +kernel
theorem dX9_finish_48 : decode cX9_finish 48 = .ok (.if_icmp .ge 45, 3) := by decide +kernel
theorem dX9_finish_51 : decode cX9_finish 51 = .ok (.aload_n 0, 1) := by decide +kernel
theorem dX9_finish_52 : decode cX9_finish 52 = .ok (.aload_n 0, 1) := by decide +kernel
theorem dX9_finish_53 : decode cX9_finish 53 = .ok (.iload_n 1, 1) := by decide +kernel
theorem dX9_finish_54 : decode cX9_finish 54 = .ok (.iconst 1, 1) := by decide +kernel
theorem dX9_finish_55 : decode cX9_finish 55 = .ok (.invokevirtual 205, 3) := by decide +kernel
theorem dX9_finish_58 : decode cX9_finish 58 = .ok (.aload_n 0, 1) := by decide +kernel
theorem dX9_finish_59 : decode cX9_finish 59 = .ok (.iload_n 1, 1) := by decide +kernel
theorem dX9_finish_60 : decode cX9_finish 60 = .ok (.iconst 0, 1) := by decide +kernel
theorem dX9_finish_61 : decode cX9_finish 61 = .ok (.invokevirtual 205, 3) := by decide +kernel
theorem dX9_finish_64 : decode cX9_finish 64 = .ok (.invokevirtual 144, 3) := by decide +kernel
theorem dX9_finish_67 : decode cX9_finish 67 = .ok (.aload_n 0, 1) := by decide +kernel
theorem dX9_finish_68 : decode cX9_finish 68 = .ok (.getfield 29, 3) := by decide +kernel
theorem dX9_finish_71 : decode cX9_finish 71 = .ok (.iload_n 1, 1) := by decide +kernel
theorem dX9_finish_72 : decode cX9_finish 72 = .ok (.aload_n 0, 1) := by decide +kernel
theorem dX9_finish_73 : decode cX9_finish 73 = .ok (.getfield 32, 3) := by decide +kernel
theorem dX9_finish_76 : decode cX9_finish 76 = .ok (.iload_n 1, 1) := by decide +kernel
theorem dX9_finish_77 : decode cX9_finish 77 = .ok (.baload, 1) := by decide +kernel
theorem dX9_finish_78 : decode cX9_finish 78 = .ok (.ifCond .eq 7, 3) := by decide +kernel
theorem dX9_finish_81 : decode cX9_finish 81 = .ok (.iconst 1, 1) := by decide +kernel
theorem dX9_finish_82 : decode cX9_finish 82 = .ok (.goto 4, 3) := by decide +kernel
theorem dX9_finish_85 : decode cX9_finish 85 = .ok (.iconst 2, 1) := by decide +kernel
theorem dX9_finish_86 : decode cX9_finish 86 = .ok (.iastore, 1) := by decide +kernel
theorem dX9_finish_87 : decode cX9_finish 87 = .ok (.iinc 1 1, 3) := by decide +kernel
theorem dX9_finish_90 : decode cX9_finish 90 = .ok (.goto (-47), 3) := by decide +kernel
theorem dX9_finish_93 : decode cX9_finish 93 = .ok (.aload_n 0, 1) := by decide +kernel
theorem dX9_finish_94 : decode cX9_finish 94 = .ok (.iconst 0, 1) := by decide +kernel
theorem dX9_finish_95 : decode cX9_finish 95 = .ok (.putfield 193, 3) := by decide +kernel
theorem dX9_finish_98 : decode cX9_finish 98 = .ok (.aload_n 0, 1) := by decide +kernel
theorem dX9_finish_99 : decode cX9_finish 99 = .ok (.dup, 1) := by decide +kernel
theorem dX9_finish_100 : decode cX9_finish 100 = .ok (.getfield 227, 3) := by decide +kernel
theorem dX9_finish_103 : decode cX9_finish 103 = .ok (.iconst 1, 1) := by decide +kernel
theorem dX9_finish_104 : decode cX9_finish 104 = .ok (.iadd, 1) := by decide +kernel
theorem dX9_finish_105 : decode cX9_finish 105 = .ok (.putfield 227, 3) := by decide +kernel
theorem dX9_finish_108 : decode cX9_finish 108 = .ok (.aload_n 0, 1) := by decide +kernel
theorem dX9_finish_109 : decode cX9_finish 109 = .ok (.getfield 227, 3) := by decide +kernel
theorem dX9_finish_112 : decode cX9_finish 112 = .ok (.ireturn, 1) := by decide +kernel
theorem dX9_rollback_0 : decode cX9_rollback 0 = .ok (.aload_n 0, 1) := by decide +kernel
theorem dX9_rollback_1 : decode cX9_rollback 1 = .ok (.iconst 0, 1) := by decide +kernel
theorem dX9_rollback_2 : decode cX9_rollback 2 = .ok (.putfield 177, 3) := by decide +kernel
theorem dX9_rollback_5 : decode cX9_rollback 5 = .ok (.aload_n 0, 1) := by decide +kernel
theorem dX9_rollback_6 : decode cX9_rollback 6 = .ok (.getfield 170, 3) := by decide +kernel
theorem dX9_rollback_9 : decode cX9_rollback 9 = .ok (.ifCond .eq 6, 3) := by decide +kernel
theorem dX9_rollback_12 : decode cX9_rollback 12 = .ok (.bipush (-8), 2) := by decide +kernel
theorem dX9_rollback_14 : decode cX9_rollback 14 = .ok (.ireturn, 1) := by decide +kernel
theorem dX9_rollback_15 : decode cX9_rollback 15 = .ok (.aload_n 0, 1) := by decide +kernel
theorem dX9_rollback_16 : decode cX9_rollback 16 = .ok (.getfield 193, 3) := by decide +kernel
theorem dX9_rollback_19 : decode cX9_rollback 19 = .ok (.ifCond .ne 6, 3) := by decide +kernel
theorem dX9_rollback_22 : decode cX9_rollback 22 = .ok (.bipush (-2), 2) := by decide +kernel
theorem dX9_rollback_24 : decode cX9_rollback 24 = .ok (.ireturn, 1) := by decide +kernel
theorem dX9_rollback_25 : decode cX9_rollback 25 = .ok (.aload_n 0, 1) := by decide +kernel
theorem dX9_rollback_26 : decode cX9_rollback 26 = .ok (.invokevirtual 180, 3) := by decide +kernel
theorem dX9_rollback_29 : decode cX9_rollback 29 = .ok (.ifCond .ne 6, 3) := by decide +kernel
theorem dX9_rollback_32 : decode cX9_rollback 32 = .ok (.bipush (-9), 2) := by decide +kernel
theorem dX9_rollback_34 : decode cX9_rollback 34 = .ok (.ireturn, 1) := by decide +kernel
theorem dX9_rollback_35 : decode cX9_rollback 35 = .ok (.iconst 0, 1) := by decide +kernel
theorem dX9_rollback_36 : decode cX9_rollback 36 = .ok (.istore_n 1, 1) := by decide +kernel
theorem dX9_rollback_37 : decode cX9_rollback 37 = .ok (.iload_n 1, 1) := by decide +kernel
theorem dX9_rollback_38 : decode cX9_rollback 38 = .ok (.aload_n 0, 1) := by decide +kernel
theorem dX9_rollback_39 : decode cX9_rollback 39 = .ok (.getfield 187, 3) := by decide +kernel
theorem dX9_rollback_42 : decode cX9_rollback 42 = .ok (.if_icmp .ge 29, 3) := by decide +kernel
theorem dX9_rollback_45 : decode cX9_rollback 45 = .ok (.aload_n 0, 1) := by decide +kernel
theorem dX9_rollback_46 : decode cX9_rollback 46 = .ok (.getfield 29, 3) := by decide +kernel
theorem dX9_rollback_49 : decode cX9_rollback 49 = .ok (.iload_n 1, 1) := by decide +kernel
theorem dX9_rollback_50 : decode cX9_rollback 50 = .ok (.aload_n 0, 1) := by decide +kernel
theorem dX9_rollback_51 : decode cX9_rollback 51 = .ok (.getfield 36, 3) := by decide +kernel
theorem dX9_rollback_54 : decode cX9_rollback 54 = .ok (.iload_n 1, 1) := by decide +kernel
theorem dX9_rollback_55 : decode cX9_rollback 55 = .ok (.baload, 1) := by decide +kernel
theorem dX9_rollback_56 : decode cX9_rollback 56 = .ok (.ifCond .eq 7, 3) := by decide +kernel
theorem dX9_rollback_59 : decode cX9_rollback 59 = .ok (.iconst 1, 1) := by decide +kernel
theorem dX9_rollback_60 : decode cX9_rollback 60 = .ok (.goto 4, 3) := by decide +kernel
theorem dX9_rollback_63 : decode cX9_rollback 63 = .ok (.iconst 0, 1) := by decide +kernel
theorem dX9_rollback_64 : decode cX9_rollback 64 = .ok (.iastore, 1) := by decide +kernel
theorem dX9_rollback_65 : decode cX9_rollback 65 = .ok (.iinc 1 1, 3) := by decide +kernel
theorem dX9_rollback_68 : decode cX9_rollback 68 = .ok (.goto (-31), 3) := by decide +kernel
theorem dX9_rollback_71 : decode cX9_rollback 71 = .ok (.aload_n 0, 1) := by decide +kernel
theorem dX9_rollback_72 : decode cX9_rollback 72 = .ok (.iconst 0, 1) := by decide +kernel
theorem dX9_rollback_73 : decode cX9_rollback 73 = .ok (.putfield 193, 3) := by decide +kernel
theorem dX9_rollback_76 : decode cX9_rollback 76 = .ok (.aload_n 0, 1) := by decide +kernel
theorem dX9_rollback_77 : decode cX9_rollback 77 = .ok (.getfield 227, 3) := by decide +kernel
theorem dX9_rollback_80 : decode cX9_rollback 80 = .ok (.ireturn, 1) := by decide +kernel
theorem dX9_backfill_0 : decode cX9_backfill 0 = .ok (.aload_n 0, 1) := by decide +kernel
theorem dX9_backfill_1 : decode cX9_backfill 1 = .ok (.iconst 0, 1) := by decide +kernel
theorem dX9_backfill_2 : decode cX9_backfill 2 = .ok (.putfield 177, 3) := by decide +kernel
theorem dX9_backfill_5 : decode cX9_backfill 5 = .ok (.aload_n 0, 1) := by decide +kernel
theorem dX9_backfill_6 : decode cX9_backfill 6 = .ok (.getfield 170, 3) := by decide +kernel
theorem dX9_backfill_9 : decode cX9_backfill 9 = .ok (.ifCond .eq 6, 3) := by decide +kernel
theorem dX9_backfill_12 : decode cX9_backfill 12 = .ok (.bipush (-8), 2) := by decide +kernel
theorem dX9_backfill_14 : decode cX9_backfill 14 = .ok (.ireturn, 1) := by decide +kernel
theorem dX9_backfill_15 : decode cX9_backfill 15 = .ok (.iconst 0, 1) := by decide +kernel
theorem dX9_backfill_16 : decode cX9_backfill 16 = .ok (.istore_n 1, 1) := by decide +kernel
theorem dX9_backfill_17 : decode cX9_backfill 17 = .ok (.iconst 0, 1) := by decide +kernel
theorem dX9_backfill_18 : decode cX9_backfill 18 = .ok (.istore_n 2, 1) := by decide +kernel
theorem dX9_backfill_19 : decode cX9_backfill 19 = .ok (.iload_n 2, 1) := by decide +kernel
theorem dX9_backfill_20 : decode cX9_backfill 20 = .ok (.aload_n 0, 1) := by decide +kernel
theorem dX9_backfill_21 : decode cX9_backfill 21 = .ok (.getfield 187, 3) := by decide +kernel
theorem dX9_backfill_24 : decode cX9_backfill 24 = .ok (.if_icmp .ge 77, 3) := by decide +kernel
theorem dX9_backfill_27 : decode cX9_backfill 27 = .ok (.iload_n 1, 1) := by decide +kernel
theorem dX9_backfill_28 : decode cX9_backfill 28 = .ok (.iconst 4, 1) := by decide +kernel
theorem dX9_backfill_29 : decode cX9_backfill 29 = .ok (.if_icmp .ge 72, 3) := by decide +kernel
theorem dX9_backfill_32 : decode cX9_backfill 32 = .ok (.aload_n 0, 1) := by decide +kernel
theorem dX9_backfill_33 : decode cX9_backfill 33 = .ok (.iload_n 2, 1) := by decide +kernel
theorem dX9_backfill_34 : decode cX9_backfill 34 = .ok (.invokevirtual 234, 3) := by decide +kernel
theorem dX9_backfill_37 : decode cX9_backfill 37 = .ok (.ifCond .ne 6, 3) := by decide +kernel
theorem dX9_backfill_40 : decode cX9_backfill 40 = .ok (.goto 55, 3) := by decide +kernel
theorem dX9_backfill_43 : decode cX9_backfill 43 = .ok (.aload_n 0, 1) := by decide +kernel
theorem dX9_backfill_44 : decode cX9_backfill 44 = .ok (.getfield 193, 3) := by decide +kernel
theorem dX9_backfill_47 : decode cX9_backfill 47 = .ok (.ifCond .ne 17, 3) := by decide +kernel
theorem dX9_backfill_50 : decode cX9_backfill 50 = .ok (.aload_n 0, 1) := by decide +kernel
theorem dX9_backfill_51 : decode cX9_backfill 51 = .ok (.getfield 29, 3) := by decide +kernel
theorem dX9_backfill_54 : decode cX9_backfill 54 = .ok (.iload_n 2, 1) := by decide +kernel
theorem dX9_backfill_55 : decode cX9_backfill 55 = .ok (.iaload, 1) := by decide +kernel
theorem dX9_backfill_56 : decode cX9_backfill 56 = .ok (.iconst 2, 1) := by decide +kernel
theorem dX9_backfill_57 : decode cX9_backfill 57 = .ok (.if_icmp .ne 7, 3) := by decide +kernel
theorem dX9_backfill_60 : decode cX9_backfill 60 = .ok (.iconst 2, 1) := by decide +kernel
theorem dX9_backfill_61 : decode cX9_backfill 61 = .ok (.goto 4, 3) := by decide +kernel
theorem dX9_backfill_64 : decode cX9_backfill 64 = .ok (.iconst 1, 1) := by decide +kernel
theorem dX9_backfill_65 : decode cX9_backfill 65 = .ok (.istore_n 3, 1) := by decide +kernel
theorem dX9_backfill_66 : decode cX9_backfill 66 = .ok (.aload_n 0, 1) := by decide +kernel
theorem dX9_backfill_67 : decode cX9_backfill 67 = .ok (.iload_n 3, 1) := by decide +kernel
theorem dX9_backfill_68 : decode cX9_backfill 68 = .ok (.invokevirtual 199, 3) := by decide +kernel
theorem dX9_backfill_71 : decode cX9_backfill 71 = .ok (.iload_n 3, 1) := by decide +kernel
theorem dX9_backfill_72 : decode cX9_backfill 72 = .ok (.if_icmp .ge 6, 3) := by decide +kernel
theorem dX9_backfill_75 : decode cX9_backfill 75 = .ok (.bipush (-9), 2) := by decide +kernel
theorem dX9_backfill_77 : decode cX9_backfill 77 = .ok (.ireturn, 1) := by decide +kernel
theorem dX9_backfill_78 : decode cX9_backfill 78 = .ok (.aload_n 0, 1) := by decide +kernel
theorem dX9_backfill_79 : decode cX9_backfill 79 = .ok (.getfield 32, 3) := by decide +kernel
theorem dX9_backfill_82 : decode cX9_backfill 82 = .ok (.iload_n 2, 1) := by decide +kernel
theorem dX9_backfill_83 : decode cX9_backfill 83 = .ok (.iconst 0, 1) := by decide +kernel
theorem dX9_backfill_84 : decode cX9_backfill 84 = .ok (.bastore, 1) := by decide +kernel
theorem dX9_backfill_85 : decode cX9_backfill 85 = .ok (.aload_n 0, 1) := by decide +kernel
theorem dX9_backfill_86 : decode cX9_backfill 86 = .ok (.getfield 29, 3) := by decide +kernel
theorem dX9_backfill_89 : decode cX9_backfill 89 = .ok (.iload_n 2, 1) := by decide +kernel
theorem dX9_backfill_90 : decode cX9_backfill 90 = .ok (.iconst 0, 1) := by decide +kernel
theorem dX9_backfill_91 : decode cX9_backfill 91 = .ok (.iastore, 1) := by decide +kernel
theorem dX9_backfill_92 : decode cX9_backfill 92 = .ok (.iinc 1 1, 3) := by decide +kernel
theorem dX9_backfill_95 : decode cX9_backfill 95 = .ok (.iinc 2 1, 3) := by decide +kernel
theorem dX9_backfill_98 : decode cX9_backfill 98 = .ok (.goto (-79), 3) := by decide +kernel
theorem dX9_backfill_101 : decode cX9_backfill 101 = .ok (.iload_n 1, 1) := by decide +kernel
theorem dX9_backfill_102 : decode cX9_backfill 102 = .ok (.ifCond .le 13, 3) := by decide +kernel
theorem dX9_backfill_105 : decode cX9_backfill 105 = .ok (.aload_n 0, 1) := by decide +kernel
theorem dX9_backfill_106 : decode cX9_backfill 106 = .ok (.invokevirtual 180, 3) := by decide +kernel
theorem dX9_backfill_109 : decode cX9_backfill 109 = .ok (.ifCond .ne 6, 3) := by decide +kernel
theorem dX9_backfill_112 : decode cX9_backfill 112 = .ok (.bipush (-9), 2) := by decide +kernel
theorem dX9_backfill_114 : decode cX9_backfill 114 = .ok (.ireturn, 1) := by decide +kernel
theorem dX9_backfill_115 : decode cX9_backfill 115 = .ok (.iload_n 1, 1) := by decide +kernel
theorem dX9_backfill_116 : decode cX9_backfill 116 = .ok (.ireturn, 1) := by decide +kernel
theorem dX9_crash_0 : decode cX9_crash 0 = .ok (.iload_n 1, 1) := by decide +kernel
theorem dX9_crash_1 : decode cX9_crash 1 = .ok (.iconst 0, 1) := by decide +kernel
theorem dX9_crash_2 : decode cX9_crash 2 = .ok (.sipush 1000, 3) := by decide +kernel
theorem dX9_crash_5 : decode cX9_crash 5 = .ok (.invokestatic 110, 3) := by decide +kernel
theorem dX9_crash_8 : decode cX9_crash 8 = .ok (.ifCond .ne 5, 3) := by decide +kernel
theorem dX9_crash_11 : decode cX9_crash 11 = .ok (.iconst (-1), 1) := by decide +kernel
theorem dX9_crash_12 : decode cX9_crash 12 = .ok (.ireturn, 1) := by decide +kernel
theorem dX9_crash_13 : decode cX9_crash 13 = .ok (.aload_n 0, 1) := by decide +kernel
theorem dX9_crash_14 : decode cX9_crash 14 = .ok (.iload_n 1, 1) := by decide +kernel
theorem dX9_crash_15 : decode cX9_crash 15 = .ok (.putfield 167, 3) := by decide +kernel
theorem dX9_crash_18 : decode cX9_crash 18 = .ok (.iconst 1, 1) := by decide +kernel
theorem dX9_crash_19 : decode cX9_crash 19 = .ok (.ireturn, 1) := by decide +kernel
theorem dX9_restart_0 : decode cX9_restart 0 = .ok (.aload_n 0, 1) := by decide +kernel
theorem dX9_restart_1 : decode cX9_restart 1 = .ok (.iconst 0, 1) := by decide +kernel
theorem dX9_restart_2 : decode cX9_restart 2 = .ok (.putfield 177, 3) := by decide +kernel
theorem dX9_restart_5 : decode cX9_restart 5 = .ok (.aload_n 0, 1) := by decide +kernel
theorem dX9_restart_6 : decode cX9_restart 6 = .ok (.getfield 170, 3) := by decide +kernel
theorem dX9_restart_9 : decode cX9_restart 9 = .ok (.ifCond .ne 6, 3) := by decide +kernel
theorem dX9_restart_12 : decode cX9_restart 12 = .ok (.bipush (-2), 2) := by decide +kernel
theorem dX9_restart_14 : decode cX9_restart 14 = .ok (.ireturn, 1) := by decide +kernel
theorem dX9_restart_15 : decode cX9_restart 15 = .ok (.aload_n 0, 1) := by decide +kernel
theorem dX9_restart_16 : decode cX9_restart 16 = .ok (.getfield 217, 3) := by decide +kernel
theorem dX9_restart_19 : decode cX9_restart 19 = .ok (.ifCond .eq 15, 3) := by decide +kernel
theorem dX9_restart_22 : decode cX9_restart 22 = .ok (.aload_n 0, 1) := by decide +kernel
theorem dX9_restart_23 : decode cX9_restart 23 = .ok (.iconst 3, 1) := by decide +kernel
theorem dX9_restart_24 : decode cX9_restart 24 = .ok (.invokevirtual 199, 3) := by decide +kernel
theorem dX9_restart_27 : decode cX9_restart 27 = .ok (.iconst 3, 1) := by decide +kernel
theorem dX9_restart_28 : decode cX9_restart 28 = .ok (.if_icmp .ge 6, 3) := by decide +kernel
theorem dX9_restart_31 : decode cX9_restart 31 = .ok (.bipush (-9), 2) := by decide +kernel
theorem dX9_restart_33 : decode cX9_restart 33 = .ok (.ireturn, 1) := by decide +kernel
theorem dX9_restart_34 : decode cX9_restart 34 = .ok (.aload_n 0, 1) := by decide +kernel
theorem dX9_restart_35 : decode cX9_restart 35 = .ok (.iconst 0, 1) := by decide +kernel
theorem dX9_restart_36 : decode cX9_restart 36 = .ok (.putfield 217, 3) := by decide +kernel
theorem dX9_restart_39 : decode cX9_restart 39 = .ok (.aload_n 0, 1) := by decide +kernel
theorem dX9_restart_40 : decode cX9_restart 40 = .ok (.iconst 0, 1) := by decide +kernel
theorem dX9_restart_41 : decode cX9_restart 41 = .ok (.putfield 170, 3) := by decide +kernel
theorem dX9_restart_44 : decode cX9_restart 44 = .ok (.iconst 1, 1) := by decide +kernel
theorem dX9_restart_45 : decode cX9_restart 45 = .ok (.ireturn, 1) := by decide +kernel
theorem dX9_isDown_0 : decode cX9_isDown 0 = .ok (.aload_n 0, 1) := by decide +kernel
theorem dX9_isDown_1 : decode cX9_isDown 1 = .ok (.getfield 170, 3) := by decide +kernel
theorem dX9_isDown_4 : decode cX9_isDown 4 = .ok (.ireturn, 1) := by decide +kernel
theorem dX9_lagging_0 : decode cX9_lagging 0 = .ok (.iconst 0, 1) := by decide +kernel
theorem dX9_lagging_1 : decode cX9_lagging 1 = .ok (.istore_n 1, 1) := by decide +kernel
theorem dX9_lagging_2 : decode cX9_lagging 2 = .ok (.iconst 0, 1) := by decide +kernel
theorem dX9_lagging_3 : decode cX9_lagging 3 = .ok (.istore_n 2, 1) := by decide +kernel
theorem dX9_lagging_4 : decode cX9_lagging 4 = .ok (.iload_n 2, 1) := by decide +kernel
theorem dX9_lagging_5 : decode cX9_lagging 5 = .ok (.aload_n 0, 1) := by decide +kernel
theorem dX9_lagging_6 : decode cX9_lagging 6 = .ok (.getfield 187, 3) := by decide +kernel
theorem dX9_lagging_9 : decode cX9_lagging 9 = .ok (.if_icmp .ge 25, 3) := by decide +kernel
theorem dX9_lagging_12 : decode cX9_lagging 12 = .ok (.iload_n 1, 1) := by decide +kernel
theorem dX9_lagging_13 : decode cX9_lagging 13 = .ok (.aload_n 0, 1) := by decide +kernel
theorem dX9_lagging_14 : decode cX9_lagging 14 = .ok (.iload_n 2, 1) := by decide +kernel
theorem dX9_lagging_15 : decode cX9_lagging 15 = .ok (.invokevirtual 234, 3) := by decide +kernel
theorem dX9_lagging_18 : decode cX9_lagging 18 = .ok (.ifCond .eq 7, 3) := by decide +kernel
theorem dX9_lagging_21 : decode cX9_lagging 21 = .ok (.iconst 1, 1) := by decide +kernel
theorem dX9_lagging_22 : decode cX9_lagging 22 = .ok (.goto 4, 3) := by decide +kernel
theorem dX9_lagging_25 : decode cX9_lagging 25 = .ok (.iconst 0, 1) := by decide +kernel
theorem dX9_lagging_26 : decode cX9_lagging 26 = .ok (.iadd, 1) := by decide +kernel
theorem dX9_lagging_27 : decode cX9_lagging 27 = .ok (.istore_n 1, 1) := by decide +kernel
theorem dX9_lagging_28 : decode cX9_lagging 28 = .ok (.iinc 2 1, 3) := by decide +kernel
theorem dX9_lagging_31 : decode cX9_lagging 31 = .ok (.goto (-27), 3) := by decide +kernel
theorem dX9_lagging_34 : decode cX9_lagging 34 = .ok (.iload_n 1, 1) := by decide +kernel
theorem dX9_lagging_35 : decode cX9_lagging 35 = .ok (.ireturn, 1) := by decide +kernel
theorem dX9_count_0 : decode cX9_count 0 = .ok (.iload_n 1, 1) := by decide +kernel
theorem dX9_count_1 : decode cX9_count 1 = .ok (.iconst 0, 1) := by decide +kernel
theorem dX9_count_2 : decode cX9_count 2 = .ok (.bipush 9, 2) := by decide +kernel
theorem dX9_count_4 : decode cX9_count 4 = .ok (.invokestatic 110, 3) := by decide +kernel
theorem dX9_count_7 : decode cX9_count 7 = .ok (.ifCond .ne 5, 3) := by decide +kernel
theorem dX9_count_10 : decode cX9_count 10 = .ok (.iconst (-1), 1) := by decide +kernel
theorem dX9_count_11 : decode cX9_count 11 = .ok (.ireturn, 1) := by decide +kernel
theorem dX9_count_12 : decode cX9_count 12 = .ok (.iload_n 1, 1) := by decide +kernel
theorem dX9_count_13 : decode cX9_count 13 = .ok (.bipush 7, 2) := by decide +kernel
theorem dX9_count_15 : decode cX9_count 15 = .ok (.if_icmp .ne 8, 3) := by decide +kernel
theorem dX9_count_18 : decode cX9_count 18 = .ok (.aload_n 0, 1) := by decide +kernel
theorem dX9_count_19 : decode cX9_count 19 = .ok (.getfield 174, 3) := by decide +kernel
theorem dX9_count_22 : decode cX9_count 22 = .ok (.ireturn, 1) := by decide +kernel
theorem dX9_count_23 : decode cX9_count 23 = .ok (.iload_n 1, 1) := by decide +kernel
theorem dX9_count_24 : decode cX9_count 24 = .ok (.bipush 8, 2) := by decide +kernel
theorem dX9_count_26 : decode cX9_count 26 = .ok (.if_icmp .ne 8, 3) := by decide +kernel
theorem dX9_count_29 : decode cX9_count 29 = .ok (.aload_n 0, 1) := by decide +kernel
theorem dX9_count_30 : decode cX9_count 30 = .ok (.getfield 184, 3) := by decide +kernel
theorem dX9_count_33 : decode cX9_count 33 = .ok (.ireturn, 1) := by decide +kernel
theorem dX9_count_34 : decode cX9_count 34 = .ok (.iload_n 1, 1) := by decide +kernel
theorem dX9_count_35 : decode cX9_count 35 = .ok (.bipush 9, 2) := by decide +kernel
theorem dX9_count_37 : decode cX9_count 37 = .ok (.if_icmp .ne 8, 3) := by decide +kernel
theorem dX9_count_40 : decode cX9_count 40 = .ok (.aload_n 0, 1) := by decide +kernel
theorem dX9_count_41 : decode cX9_count 41 = .ok (.getfield 177, 3) := by decide +kernel
theorem dX9_count_44 : decode cX9_count 44 = .ok (.ireturn, 1) := by decide +kernel
theorem dX9_count_45 : decode cX9_count 45 = .ok (.aload_n 0, 1) := by decide +kernel
theorem dX9_count_46 : decode cX9_count 46 = .ok (.getfield 170, 3) := by decide +kernel
theorem dX9_count_49 : decode cX9_count 49 = .ok (.ifCond .eq 6, 3) := by decide +kernel
theorem dX9_count_52 : decode cX9_count 52 = .ok (.bipush (-8), 2) := by decide +kernel
theorem dX9_count_54 : decode cX9_count 54 = .ok (.ireturn, 1) := by decide +kernel
theorem dX9_count_55 : decode cX9_count 55 = .ok (.iload_n 1, 1) := by decide +kernel
theorem dX9_count_56 : decode cX9_count 56 = .ok (.tableswitch 93 0 5 #[40, 45, 58, 65, 83, 88], 40) := by decide +kernel
theorem dX9_count_96 : decode cX9_count 96 = .ok (.aload_n 0, 1) := by decide +kernel
theorem dX9_count_97 : decode cX9_count 97 = .ok (.getfield 227, 3) := by decide +kernel
theorem dX9_count_100 : decode cX9_count 100 = .ok (.ireturn, 1) := by decide +kernel
theorem dX9_count_101 : decode cX9_count 101 = .ok (.aload_n 0, 1) := by decide +kernel
theorem dX9_count_102 : decode cX9_count 102 = .ok (.getfield 193, 3) := by decide +kernel
theorem dX9_count_105 : decode cX9_count 105 = .ok (.ifCond .eq 7, 3) := by decide +kernel
theorem dX9_count_108 : decode cX9_count 108 = .ok (.iconst 1, 1) := by decide +kernel
theorem dX9_count_109 : decode cX9_count 109 = .ok (.goto 4, 3) := by decide +kernel
theorem dX9_count_112 : decode cX9_count 112 = .ok (.iconst 0, 1) := by decide +kernel
theorem dX9_count_113 : decode cX9_count 113 = .ok (.ireturn, 1) := by decide +kernel
theorem dX9_count_114 : decode cX9_count 114 = .ok (.aload_n 0, 1) := by decide +kernel
theorem dX9_count_115 : decode cX9_count 115 = .ok (.getfield 48, 3) := by decide +kernel
theorem dX9_count_118 : decode cX9_count 118 = .ok (.iconst 0, 1) := by decide +kernel
theorem dX9_count_119 : decode cX9_count 119 = .ok (.iaload, 1) := by decide +kernel
theorem dX9_count_120 : decode cX9_count 120 = .ok (.ireturn, 1) := by decide +kernel
theorem dX9_count_121 : decode cX9_count 121 = .ok (.aload_n 0, 1) := by decide +kernel
theorem dX9_count_122 : decode cX9_count 122 = .ok (.getfield 193, 3) := by decide +kernel
theorem dX9_count_125 : decode cX9_count 125 = .ok (.ifCond .eq 12, 3) := by decide +kernel
theorem dX9_count_128 : decode cX9_count 128 = .ok (.aload_n 0, 1) := by decide +kernel
theorem dX9_count_129 : decode cX9_count 129 = .ok (.getfield 48, 3) := by decide +kernel
theorem dX9_count_132 : decode cX9_count 132 = .ok (.iconst 1, 1) := by decide +kernel
theorem dX9_count_133 : decode cX9_count 133 = .ok (.iaload, 1) := by decide +kernel
theorem dX9_count_134 : decode cX9_count 134 = .ok (.goto 4, 3) := by decide +kernel
theorem dX9_count_137 : decode cX9_count 137 = .ok (.iconst 0, 1) := by decide +kernel
theorem dX9_count_138 : decode cX9_count 138 = .ok (.ireturn, 1) := by decide +kernel
theorem dX9_count_139 : decode cX9_count 139 = .ok (.aload_n 0, 1) := by decide +kernel
theorem dX9_count_140 : decode cX9_count 140 = .ok (.getfield 187, 3) := by decide +kernel
theorem dX9_count_143 : decode cX9_count 143 = .ok (.ireturn, 1) := by decide +kernel
theorem dX9_count_144 : decode cX9_count 144 = .ok (.aload_n 0, 1) := by decide +kernel
theorem dX9_count_145 : decode cX9_count 145 = .ok (.invokevirtual 237, 3) := by decide +kernel
theorem dX9_count_148 : decode cX9_count 148 = .ok (.ireturn, 1) := by decide +kernel
theorem dX9_count_149 : decode cX9_count 149 = .ok (.aload_n 0, 1) := by decide +kernel
theorem dX9_count_150 : decode cX9_count 150 = .ok (.getfield 193, 3) := by decide +kernel
theorem dX9_count_153 : decode cX9_count 153 = .ok (.ifCond .eq 7, 3) := by decide +kernel
theorem dX9_count_156 : decode cX9_count 156 = .ok (.iconst 0, 1) := by decide +kernel
theorem dX9_count_157 : decode cX9_count 157 = .ok (.goto 7, 3) := by decide +kernel
theorem dX9_count_160 : decode cX9_count 160 = .ok (.aload_n 0, 1) := by decide +kernel
theorem dX9_count_161 : decode cX9_count 161 = .ok (.invokevirtual 223, 3) := by decide +kernel
theorem dX9_count_164 : decode cX9_count 164 = .ok (.ireturn, 1) := by decide +kernel
theorem dX9_column_0 : decode cX9_column 0 = .ok (.aload_n 0, 1) := by decide +kernel
theorem dX9_column_1 : decode cX9_column 1 = .ok (.getfield 170, 3) := by decide +kernel
theorem dX9_column_4 : decode cX9_column 4 = .ok (.ifCond .eq 6, 3) := by decide +kernel
theorem dX9_column_7 : decode cX9_column 7 = .ok (.bipush (-8), 2) := by decide +kernel
theorem dX9_column_9 : decode cX9_column 9 = .ok (.ireturn, 1) := by decide +kernel
theorem dX9_column_10 : decode cX9_column 10 = .ok (.iload_n 2, 1) := by decide +kernel
theorem dX9_column_11 : decode cX9_column 11 = .ok (.ifCond .eq 13, 3) := by decide +kernel
theorem dX9_column_14 : decode cX9_column 14 = .ok (.aload_n 0, 1) := by decide +kernel
theorem dX9_column_15 : decode cX9_column 15 = .ok (.getfield 193, 3) := by decide +kernel
theorem dX9_column_18 : decode cX9_column 18 = .ok (.ifCond .ne 6, 3) := by decide +kernel
theorem dX9_column_21 : decode cX9_column 21 = .ok (.bipush (-2), 2) := by decide +kernel
theorem dX9_column_23 : decode cX9_column 23 = .ok (.ireturn, 1) := by decide +kernel
theorem dX9_column_24 : decode cX9_column 24 = .ok (.iload_n 2, 1) := by decide +kernel
theorem dX9_column_25 : decode cX9_column 25 = .ok (.ifCond .eq 7, 3) := by decide +kernel
theorem dX9_column_28 : decode cX9_column 28 = .ok (.iconst 1, 1) := by decide +kernel
theorem dX9_column_29 : decode cX9_column 29 = .ok (.goto 4, 3) := by decide +kernel
theorem dX9_column_32 : decode cX9_column 32 = .ok (.iconst 0, 1) := by decide +kernel
theorem dX9_column_33 : decode cX9_column 33 = .ok (.istore_n 3, 1) := by decide +kernel
theorem dX9_column_34 : decode cX9_column 34 = .ok (.iload_n 1, 1) := by decide +kernel
theorem dX9_column_35 : decode cX9_column 35 = .ok (.iconst 0, 1) := by decide +kernel
theorem dX9_column_36 : decode cX9_column 36 = .ok (.aload_n 0, 1) := by decide +kernel
theorem dX9_column_37 : decode cX9_column 37 = .ok (.getfield 48, 3) := by decide +kernel
theorem dX9_column_40 : decode cX9_column 40 = .ok (.iload_n 3, 1) := by decide +kernel
theorem dX9_column_41 : decode cX9_column 41 = .ok (.iaload, 1) := by decide +kernel
theorem dX9_column_42 : decode cX9_column 42 = .ok (.iconst 1, 1) := by decide +kernel
theorem dX9_column_43 : decode cX9_column 43 = .ok (.isub, 1) := by decide +kernel
theorem dX9_column_44 : decode cX9_column 44 = .ok (.invokestatic 110, 3) := by decide +kernel
theorem dX9_column_47 : decode cX9_column 47 = .ok (.ifCond .ne 5, 3) := by decide +kernel
theorem dX9_column_50 : decode cX9_column 50 = .ok (.iconst (-1), 1) := by decide +kernel
theorem dX9_column_51 : decode cX9_column 51 = .ok (.ireturn, 1) := by decide +kernel
theorem dX9_column_52 : decode cX9_column 52 = .ok (.bipush 8, 2) := by decide +kernel
theorem dX9_column_54 : decode cX9_column 54 = .ok (.aload_n 0, 1) := by decide +kernel
theorem dX9_column_55 : decode cX9_column 55 = .ok (.getfield 42, 3) := by decide +kernel
theorem dX9_column_58 : decode cX9_column 58 = .ok (.bipush 8, 2) := by decide +kernel
theorem dX9_column_60 : decode cX9_column 60 = .ok (.iload_n 3, 1) := by decide +kernel
theorem dX9_column_61 : decode cX9_column 61 = .ok (.imul, 1) := by decide +kernel
theorem dX9_column_62 : decode cX9_column 62 = .ok (.iload_n 1, 1) := by decide +kernel
theorem dX9_column_63 : decode cX9_column 63 = .ok (.iadd, 1) := by decide +kernel
theorem dX9_column_64 : decode cX9_column 64 = .ok (.iaload, 1) := by decide +kernel
theorem dX9_column_65 : decode cX9_column 65 = .ok (.imul, 1) := by decide +kernel
theorem dX9_column_66 : decode cX9_column 66 = .ok (.aload_n 0, 1) := by decide +kernel
theorem dX9_column_67 : decode cX9_column 67 = .ok (.getfield 45, 3) := by decide +kernel
theorem dX9_column_70 : decode cX9_column 70 = .ok (.bipush 8, 2) := by decide +kernel
theorem dX9_column_72 : decode cX9_column 72 = .ok (.iload_n 3, 1) := by decide +kernel
theorem dX9_column_73 : decode cX9_column 73 = .ok (.imul, 1) := by decide +kernel
theorem dX9_column_74 : decode cX9_column 74 = .ok (.iload_n 1, 1) := by decide +kernel
theorem dX9_column_75 : decode cX9_column 75 = .ok (.iadd, 1) := by decide +kernel
theorem dX9_column_76 : decode cX9_column 76 = .ok (.iaload, 1) := by decide +kernel
theorem dX9_column_77 : decode cX9_column 77 = .ok (.iadd, 1) := by decide +kernel
theorem dX9_column_78 : decode cX9_column 78 = .ok (.ireturn, 1) := by decide +kernel
