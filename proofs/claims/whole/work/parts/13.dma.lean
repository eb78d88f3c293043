theorem dX6_init_0 : decode cX6_init 0 = .ok (.aload_n 0, 1) := by decide +kernel
theorem dX6_init_1 : decode cX6_init 1 = .ok (.invokespecial 1, 3) := by decide +kernel
theorem dX6_init_4 : decode cX6_init 4 = .ok (.aload_n 0, 1) := by decide +kernel
theorem dX6_init_5 : decode cX6_init 5 = .ok (.sipush 400, 3) := by decide +kernel
theorem dX6_init_8 : decode cX6_init 8 = .ok (.newarray .byte, 2) := by decide +kernel
theorem dX6_init_10 : decode cX6_init 10 = .ok (.putfield 7, 3) := by decide +kernel
theorem dX6_init_13 : decode cX6_init 13 = .ok (.aload_n 0, 1) := by decide +kernel
theorem dX6_init_14 : decode cX6_init 14 = .ok (.iconst 2, 1) := by decide +kernel
theorem dX6_init_15 : decode cX6_init 15 = .ok (.newarray .int, 2) := by decide +kernel
theorem dX6_init_17 : decode cX6_init 17 = .ok (.putfield 13, 3) := by decide +kernel
theorem dX6_init_20 : decode cX6_init 20 = .ok (.aload_n 0, 1) := by decide +kernel
theorem dX6_init_21 : decode cX6_init 21 = .ok (.sipush 144, 3) := by decide +kernel
theorem dX6_init_24 : decode cX6_init 24 = .ok (.newarray .int, 2) := by decide +kernel
theorem dX6_init_26 : decode cX6_init 26 = .ok (.putfield 17, 3) := by decide +kernel
theorem dX6_init_29 : decode cX6_init 29 = .ok (.aload_n 0, 1) := by decide +kernel
theorem dX6_init_30 : decode cX6_init 30 = .ok (.iconst 2, 1) := by decide +kernel
theorem dX6_init_31 : decode cX6_init 31 = .ok (.newarray .int, 2) := by decide +kernel
theorem dX6_init_33 : decode cX6_init 33 = .ok (.putfield 20, 3) := by decide +kernel
theorem dX6_init_36 : decode cX6_init 36 = .ok (.aload_n 0, 1) := by decide +kernel
theorem dX6_init_37 : decode cX6_init 37 = .ok (.bipush 18, 2) := by decide +kernel
theorem dX6_init_39 : decode cX6_init 39 = .ok (.newarray .int, 2) := by decide +kernel
theorem dX6_init_41 : decode cX6_init 41 = .ok (.putfield 23, 3) := by decide +kernel
theorem dX6_init_44 : decode cX6_init 44 = .ok (.aload_n 0, 1) := by decide +kernel
theorem dX6_init_45 : decode cX6_init 45 = .ok (.bipush 6, 2) := by decide +kernel
theorem dX6_init_47 : decode cX6_init 47 = .ok (.newarray .int, 2) := by decide +kernel
theorem dX6_init_49 : decode cX6_init 49 = .ok (.putfield 26, 3) := by decide +kernel
theorem dX6_init_52 : decode cX6_init 52 = .ok (.aload_n 0, 1) := by decide +kernel
theorem dX6_init_53 : decode cX6_init 53 = .ok (.iconst 3, 1) := by decide +kernel
theorem dX6_init_54 : decode cX6_init 54 = .ok (.newarray .int, 2) := by decide +kernel
theorem dX6_init_56 : decode cX6_init 56 = .ok (.putfield 29, 3) := by decide +kernel
theorem dX6_init_59 : decode cX6_init 59 = .ok (.aload_n 0, 1) := by decide +kernel
theorem dX6_init_60 : decode cX6_init 60 = .ok (.bipush 13, 2) := by decide +kernel
theorem dX6_init_62 : decode cX6_init 62 = .ok (.newarray .long, 2) := by decide +kernel
theorem dX6_init_64 : decode cX6_init 64 = .ok (.putfield 32, 3) := by decide +kernel
theorem dX6_init_67 : decode cX6_init 67 = .ok (.aload_n 0, 1) := by decide +kernel
theorem dX6_init_68 : decode cX6_init 68 = .ok (.bipush 13, 2) := by decide +kernel
theorem dX6_init_70 : decode cX6_init 70 = .ok (.newarray .int, 2) := by decide +kernel
theorem dX6_init_72 : decode cX6_init 72 = .ok (.putfield 36, 3) := by decide +kernel
theorem dX6_init_75 : decode cX6_init 75 = .ok (.aload_n 0, 1) := by decide +kernel
theorem dX6_init_76 : decode cX6_init 76 = .ok (.bipush 13, 2) := by decide +kernel
theorem dX6_init_78 : decode cX6_init 78 = .ok (.newarray .long, 2) := by decide +kernel
theorem dX6_init_80 : decode cX6_init 80 = .ok (.putfield 39, 3) := by decide +kernel
theorem dX6_init_83 : decode cX6_init 83 = .ok (.aload_n 0, 1) := by decide +kernel
theorem dX6_init_84 : decode cX6_init 84 = .ok (.bipush 13, 2) := by decide +kernel
theorem dX6_init_86 : decode cX6_init 86 = .ok (.newarray .long, 2) := by decide +kernel
theorem dX6_init_88 : decode cX6_init 88 = .ok (.putfield 42, 3) := by decide +kernel
theorem dX6_init_91 : decode cX6_init 91 = .ok (.aload_n 0, 1) := by decide +kernel
theorem dX6_init_92 : decode cX6_init 92 = .ok (.bipush 13, 2) := by decide +kernel
theorem dX6_init_94 : decode cX6_init 94 = .ok (.newarray .long, 2) := by decide +kernel
theorem dX6_init_96 : decode cX6_init 96 = .ok (.putfield 45, 3) := by decide +kernel
theorem dX6_init_99 : decode cX6_init 99 = .ok (.aload_n 0, 1) := by decide +kernel
theorem dX6_init_100 : decode cX6_init 100 = .ok (.bipush 40, 2) := by decide +kernel
theorem dX6_init_102 : decode cX6_init 102 = .ok (.newarray .int, 2) := by decide +kernel
theorem dX6_init_104 : decode cX6_init 104 = .ok (.putfield 48, 3) := by decide +kernel
theorem dX6_init_107 : decode cX6_init 107 = .ok (.aload_n 0, 1) := by decide +kernel
theorem dX6_init_108 : decode cX6_init 108 = .ok (.bipush 40, 2) := by decide +kernel
theorem dX6_init_110 : decode cX6_init 110 = .ok (.newarray .int, 2) := by decide +kernel
theorem dX6_init_112 : decode cX6_init 112 = .ok (.putfield 51, 3) := by decide +kernel
theorem dX6_init_115 : decode cX6_init 115 = .ok (.aload_n 0, 1) := by decide +kernel
theorem dX6_init_116 : decode cX6_init 116 = .ok (.bipush 40, 2) := by decide +kernel
theorem dX6_init_118 : decode cX6_init 118 = .ok (.newarray .int, 2) := by decide +kernel
theorem dX6_init_120 : decode cX6_init 120 = .ok (.putfield 54, 3) := by decide +kernel
theorem dX6_init_123 : decode cX6_init 123 = .ok (.aload_n 0, 1) := by decide +kernel
theorem dX6_init_124 : decode cX6_init 124 = .ok (.iconst 3, 1) := by decide +kernel
theorem dX6_init_125 : decode cX6_init 125 = .ok (.newarray .int, 2) := by decide +kernel
theorem dX6_init_127 : decode cX6_init 127 = .ok (.putfield 57, 3) := by decide +kernel
theorem dX6_init_130 : decode cX6_init 130 = .ok (.aload_n 0, 1) := by decide +kernel
theorem dX6_init_131 : decode cX6_init 131 = .ok (.iconst 3, 1) := by decide +kernel
theorem dX6_init_132 : decode cX6_init 132 = .ok (.newarray .int, 2) := by decide +kernel
theorem dX6_init_134 : decode cX6_init 134 = .ok (.putfield 60, 3) := by decide +kernel
theorem dX6_init_137 : decode cX6_init 137 = .ok (.aload_n 0, 1) := by decide +kernel
theorem dX6_init_138 : decode cX6_init 138 = .ok (.iconst 3, 1) := by decide +kernel
theorem dX6_init_139 : decode cX6_init 139 = .ok (.newarray .int, 2) := by decide +kernel
theorem dX6_init_141 : decode cX6_init 141 = .ok (.putfield 63, 3) := by decide +kernel
theorem dX6_init_144 : decode cX6_init 144 = .ok (.aload_n 0, 1) := by decide +kernel
theorem dX6_init_145 : decode cX6_init 145 = .ok (.iconst 3, 1) := by decide +kernel
theorem dX6_init_146 : decode cX6_init 146 = .ok (.newarray .int, 2) := by decide +kernel
theorem dX6_init_148 : decode cX6_init 148 = .ok (.putfield 66, 3) := by decide +kernel
theorem dX6_init_151 : decode cX6_init 151 = .ok (.aload_n 0, 1) := by decide +kernel
theorem dX6_init_152 : decode cX6_init 152 = .ok (.iconst 3, 1) := by decide +kernel
theorem dX6_init_153 : decode cX6_init 153 = .ok (.newarray .int, 2) := by decide +kernel
theorem dX6_init_155 : decode cX6_init 155 = .ok (.putfield 69, 3) := by decide +kernel
theorem dX6_init_158 : decode cX6_init 158 = .ok (.aload_n 0, 1) := by decide +kernel
theorem dX6_init_159 : decode cX6_init 159 = .ok (.iconst 3, 1) := by decide +kernel
theorem dX6_init_160 : decode cX6_init 160 = .ok (.newarray .int, 2) := by decide +kernel
theorem dX6_init_162 : decode cX6_init 162 = .ok (.putfield 72, 3) := by decide +kernel
theorem dX6_init_165 : decode cX6_init 165 = .ok (.aload_n 0, 1) := by decide +kernel
theorem dX6_init_166 : decode cX6_init 166 = .ok (.iconst 3, 1) := by decide +kernel
theorem dX6_init_167 : decode cX6_init 167 = .ok (.newarray .int, 2) := by decide +kernel
theorem dX6_init_169 : decode cX6_init 169 = .ok (.putfield 75, 3) := by decide +kernel
theorem dX6_init_172 : decode cX6_init 172 = .ok (.aload_n 0, 1) := by decide +kernel
theorem dX6_init_173 : decode cX6_init 173 = .ok (.iconst 2, 1) := by decide +kernel
theorem dX6_init_174 : decode cX6_init 174 = .ok (.newarray .boolean, 2) := by decide +kernel
theorem dX6_init_176 : decode cX6_init 176 = .ok (.putfield 78, 3) := by decide +kernel
theorem dX6_init_179 : decode cX6_init 179 = .ok (.aload_n 0, 1) := by decide +kernel
theorem dX6_init_180 : decode cX6_init 180 = .ok (.getfield 26, 3) := by decide +kernel
theorem dX6_init_183 : decode cX6_init 183 = .ok (.iconst 0, 1) := by decide +kernel
theorem dX6_init_184 : decode cX6_init 184 = .ok (.iconst 3, 1) := by decide +kernel
theorem dX6_init_185 : decode cX6_init 185 = .ok (.iastore, 1) := by decide +kernel
theorem dX6_init_186 : decode cX6_init 186 = .ok (.aload_n 0, 1) := by decide +kernel
theorem dX6_init_187 : decode cX6_init 187 = .ok (.getfield 26, 3) := by decide +kernel
theorem dX6_init_190 : decode cX6_init 190 = .ok (.iconst 1, 1) := by decide +kernel
theorem dX6_init_191 : decode cX6_init 191 = .ok (.iconst 2, 1) := by decide +kernel
theorem dX6_init_192 : decode cX6_init 192 = .ok (.iastore, 1) := by decide +kernel
theorem dX6_init_193 : decode cX6_init 193 = .ok (.aload_n 0, 1) := by decide +kernel
theorem dX6_init_194 : decode cX6_init 194 = .ok (.getfield 26, 3) := by decide +kernel
theorem dX6_init_197 : decode cX6_init 197 = .ok (.iconst 2, 1) := by decide +kernel
theorem dX6_init_198 : decode cX6_init 198 = .ok (.iconst 2, 1) := by decide +kernel
theorem dX6_init_199 : decode cX6_init 199 = .ok (.iastore, 1) := by decide +kernel
theorem dX6_init_200 : decode cX6_init 200 = .ok (.aload_n 0, 1) := by decide +kernel
theorem dX6_init_201 : decode cX6_init 201 = .ok (.getfield 26, 3) := by decide +kernel
theorem dX6_init_204 : decode cX6_init 204 = .ok (.iconst 3, 1) := by decide +kernel
theorem dX6_init_205 : decode cX6_init 205 = .ok (.iconst 4, 1) := by decide +kernel
theorem dX6_init_206 : decode cX6_init 206 = .ok (.iastore, 1) := by decide +kernel
theorem dX6_init_207 : decode cX6_init 207 = .ok (.aload_n 0, 1) := by decide +kernel
theorem dX6_init_208 : decode cX6_init 208 = .ok (.getfield 26, 3) := by decide +kernel
theorem dX6_init_211 : decode cX6_init 211 = .ok (.iconst 4, 1) := by decide +kernel
theorem dX6_init_212 : decode cX6_init 212 = .ok (.iconst 3, 1) := by decide +kernel
theorem dX6_init_213 : decode cX6_init 213 = .ok (.iastore, 1) := by decide +kernel
theorem dX6_init_214 : decode cX6_init 214 = .ok (.aload_n 0, 1) := by decide +kernel
theorem dX6_init_215 : decode cX6_init 215 = .ok (.getfield 75, 3) := by decide +kernel
theorem dX6_init_218 : decode cX6_init 218 = .ok (.iconst 0, 1) := by decide +kernel
theorem dX6_init_219 : decode cX6_init 219 = .ok (.iconst 1, 1) := by decide +kernel
theorem dX6_init_220 : decode cX6_init 220 = .ok (.iastore, 1) := by decide +kernel
theorem dX6_init_221 : decode cX6_init 221 = .ok (.aload_n 0, 1) := by decide +kernel
theorem dX6_init_222 : decode cX6_init 222 = .ok (.getfield 60, 3) := by decide +kernel
theorem dX6_init_225 : decode cX6_init 225 = .ok (.iconst 0, 1) := by decide +kernel
theorem dX6_init_226 : decode cX6_init 226 = .ok (.bipush 12, 2) := by decide +kernel
theorem dX6_init_228 : decode cX6_init 228 = .ok (.iastore, 1) := by decide +kernel
theorem dX6_init_229 : decode cX6_init 229 = .ok (.return_, 1) := by decide +kernel
theorem dX6_in_0 : decode cX6_in 0 = .ok (.iload_n 0, 1) := by decide +kernel
theorem dX6_in_1 : decode cX6_in 1 = .ok (.iload_n 1, 1) := by decide +kernel
theorem dX6_in_2 : decode cX6_in 2 = .ok (.if_icmp .lt 12, 3) := by decide +kernel
theorem dX6_in_5 : decode cX6_in 5 = .ok (.iload_n 0, 1) := by decide +kernel
theorem dX6_in_6 : decode cX6_in 6 = .ok (.iload_n 2, 1) := by decide +kernel
theorem dX6_in_7 : decode cX6_in 7 = .ok (.if_icmp .gt 7, 3) := by decide +kernel
theorem dX6_in_10 : decode cX6_in 10 = .ok (.iconst 1, 1) := by decide +kernel
theorem dX6_in_11 : decode cX6_in 11 = .ok (.goto 4, 3) := by decide +kernel
theorem dX6_in_14 : decode cX6_in 14 = .ok (.iconst 0, 1) := by decide +kernel
theorem dX6_in_15 : decode cX6_in 15 = .ok (.ireturn, 1) := by decide +kernel
theorem dX6_type_0 : decode cX6_type 0 = .ok (.iload_n 3, 1) := by decide +kernel
theorem dX6_type_1 : decode cX6_type 1 = .ok (.iconst 1, 1) := by decide +kernel
theorem dX6_type_2 : decode cX6_type 2 = .ok (.bipush 8, 2) := by decide +kernel
theorem dX6_type_4 : decode cX6_type 4 = .ok (.invokestatic 82, 3) := by decide +kernel
theorem dX6_type_7 : decode cX6_type 7 = .ok (.ifCond .ne 5, 3) := by decide +kernel
theorem dX6_type_10 : decode cX6_type 10 = .ok (.iconst (-1), 1) := by decide +kernel
theorem dX6_type_11 : decode cX6_type 11 = .ok (.ireturn, 1) := by decide +kernel
theorem dX6_type_12 : decode cX6_type 12 = .ok (.aload_n 0, 1) := by decide +kernel
theorem dX6_type_13 : decode cX6_type 13 = .ok (.getfield 86, 3) := by decide +kernel
theorem dX6_type_16 : decode cX6_type 16 = .ok (.iload_n 3, 1) := by decide +kernel
theorem dX6_type_17 : decode cX6_type 17 = .ok (.iadd, 1) := by decide +kernel
theorem dX6_type_18 : decode cX6_type 18 = .ok (.sipush 400, 3) := by decide +kernel
theorem dX6_type_21 : decode cX6_type 21 = .ok (.if_icmp .le 6, 3) := by decide +kernel
theorem dX6_type_24 : decode cX6_type 24 = .ok (.bipush (-3), 2) := by decide +kernel
theorem dX6_type_26 : decode cX6_type 26 = .ok (.ireturn, 1) := by decide +kernel
theorem dX6_type_27 : decode cX6_type 27 = .ok (.iload_n 3, 1) := by decide +kernel
theorem dX6_type_28 : decode cX6_type 28 = .ok (.iconst 1, 1) := by decide +kernel
theorem dX6_type_29 : decode cX6_type 29 = .ok (.isub, 1) := by decide +kernel
theorem dX6_type_30 : decode cX6_type 30 = .ok (.istore 4, 2) := by decide +kernel
theorem dX6_type_32 : decode cX6_type 32 = .ok (.iload 4, 2) := by decide +kernel
theorem dX6_type_34 : decode cX6_type 34 = .ok (.ifCond .lt 41, 3) := by decide +kernel
theorem dX6_type_37 : decode cX6_type 37 = .ok (.aload_n 0, 1) := by decide +kernel
theorem dX6_type_38 : decode cX6_type 38 = .ok (.getfield 7, 3) := by decide +kernel
theorem dX6_type_41 : decode cX6_type 41 = .ok (.aload_n 0, 1) := by decide +kernel
theorem dX6_type_42 : decode cX6_type 42 = .ok (.getfield 86, 3) := by decide +kernel
theorem dX6_type_45 : decode cX6_type 45 = .ok (.lload_n 1, 1) := by decide +kernel
theorem dX6_type_46 : decode cX6_type 46 = .ok (.bipush 8, 2) := by decide +kernel
theorem dX6_type_48 : decode cX6_type 48 = .ok (.iload 4, 2) := by decide +kernel
theorem dX6_type_50 : decode cX6_type 50 = .ok (.imul, 1) := by decide +kernel
theorem dX6_type_51 : decode cX6_type 51 = .ok (.lshr, 1) := by decide +kernel
theorem dX6_type_52 : decode cX6_type 52 = .ok (.ldc2_w 90, 3) := by decide +kernel
theorem dX6_type_55 : decode cX6_type 55 = .ok (.land, 1) := by decide +kernel
theorem dX6_type_56 : decode cX6_type 56 = .ok (.l2i, 1) := by decide +kernel
theorem dX6_type_57 : decode cX6_type 57 = .ok (.i2b, 1) := by decide +kernel
theorem dX6_type_58 : decode cX6_type 58 = .ok (.bastore, 1) := by decide +kernel
theorem dX6_type_59 : decode cX6_type 59 = .ok (.aload_n 0, 1) := by decide +kernel
theorem dX6_type_60 : decode cX6_type 60 = .ok (.dup, 1) := by decide +kernel
theorem dX6_type_61 : decode cX6_type 61 = .ok (.getfield 86, 3) := by decide +kernel
theorem dX6_type_64 : decode cX6_type 64 = .ok (.iconst 1, 1) := by decide +kernel
theorem dX6_type_65 : decode cX6_type 65 = .ok (.iadd, 1) := by decide +kernel
theorem dX6_type_66 : decode cX6_type 66 = .ok (.putfield 86, 3) := by decide +kernel
theorem dX6_type_69 : decode cX6_type 69 = .ok (.iinc 4 (-1), 3) := by decide +kernel
theorem dX6_type_72 : decode cX6_type 72 = .ok (.goto (-40), 3) := by decide +kernel
theorem dX6_type_75 : decode cX6_type 75 = .ok (.aload_n 0, 1) := by decide +kernel
theorem dX6_type_76 : decode cX6_type 76 = .ok (.getfield 86, 3) := by decide +kernel
theorem dX6_type_79 : decode cX6_type 79 = .ok (.ireturn, 1) := by decide +kernel
theorem dX6_clear_0 : decode cX6_clear 0 = .ok (.aload_n 0, 1) := by decide +kernel
theorem dX6_clear_1 : decode cX6_clear 1 = .ok (.getfield 86, 3) := by decide +kernel
theorem dX6_clear_4 : decode cX6_clear 4 = .ok (.istore_n 1, 1) := by decide +kernel
theorem dX6_clear_5 : decode cX6_clear 5 = .ok (.aload_n 0, 1) := by decide +kernel
theorem dX6_clear_6 : decode cX6_clear 6 = .ok (.iconst 0, 1) := by decide +kernel
theorem dX6_clear_7 : decode cX6_clear 7 = .ok (.putfield 86, 3) := by decide +kernel
theorem dX6_clear_10 : decode cX6_clear 10 = .ok (.iload_n 1, 1) := by decide +kernel
theorem dX6_clear_11 : decode cX6_clear 11 = .ok (.ireturn, 1) := by decide +kernel
theorem dX6_here_0 : decode cX6_here 0 = .ok (.aload_n 0, 1) := by decide +kernel
theorem dX6_here_1 : decode cX6_here 1 = .ok (.getfield 92, 3) := by decide +kernel
theorem dX6_here_4 : decode cX6_here 4 = .ok (.aload_n 0, 1) := by decide +kernel
theorem dX6_here_5 : decode cX6_here 5 = .ok (.getfield 86, 3) := by decide +kernel
theorem dX6_here_8 : decode cX6_here 8 = .ok (.if_icmp .ge 19, 3) := by decide +kernel
theorem dX6_here_11 : decode cX6_here 11 = .ok (.aload_n 0, 1) := by decide +kernel
theorem dX6_here_12 : decode cX6_here 12 = .ok (.getfield 7, 3) := by decide +kernel
theorem dX6_here_15 : decode cX6_here 15 = .ok (.aload_n 0, 1) := by decide +kernel
theorem dX6_here_16 : decode cX6_here 16 = .ok (.getfield 92, 3) := by decide +kernel
theorem dX6_here_19 : decode cX6_here 19 = .ok (.baload, 1) := by decide +kernel
theorem dX6_here_20 : decode cX6_here 20 = .ok (.sipush 255, 3) := by decide +kernel
theorem dX6_here_23 : decode cX6_here 23 = .ok (.iand, 1) := by decide +kernel
theorem dX6_here_24 : decode cX6_here 24 = .ok (.goto 4, 3) := by decide +kernel
theorem dX6_here_27 : decode cX6_here 27 = .ok (.iconst (-1), 1) := by decide +kernel
theorem dX6_here_28 : decode cX6_here 28 = .ok (.ireturn, 1) := by decide +kernel
theorem dX6_next_0 : decode cX6_next 0 = .ok (.aload_n 0, 1) := by decide +kernel
theorem dX6_next_1 : decode cX6_next 1 = .ok (.invokevirtual 95, 3) := by decide +kernel
theorem dX6_next_4 : decode cX6_next 4 = .ok (.bipush 32, 2) := by decide +kernel
theorem dX6_next_6 : decode cX6_next 6 = .ok (.if_icmp .ne 16, 3) := by decide +kernel
theorem dX6_next_9 : decode cX6_next 9 = .ok (.aload_n 0, 1) := by decide +kernel
theorem dX6_next_10 : decode cX6_next 10 = .ok (.dup, 1) := by decide +kernel
theorem dX6_next_11 : decode cX6_next 11 = .ok (.getfield 92, 3) := by decide +kernel
theorem dX6_next_14 : decode cX6_next 14 = .ok (.iconst 1, 1) := by decide +kernel
theorem dX6_next_15 : decode cX6_next 15 = .ok (.iadd, 1) := by decide +kernel
theorem dX6_next_16 : decode cX6_next 16 = .ok (.putfield 92, 3) := by decide +kernel
theorem dX6_next_19 : decode cX6_next 19 = .ok (.goto (-19), 3) := by decide +kernel
theorem dX6_next_22 : decode cX6_next 22 = .ok (.aload_n 0, 1) := by decide +kernel
theorem dX6_next_23 : decode cX6_next 23 = .ok (.aload_n 0, 1) := by decide +kernel
theorem dX6_next_24 : decode cX6_next 24 = .ok (.getfield 92, 3) := by decide +kernel
theorem dX6_next_27 : decode cX6_next 27 = .ok (.putfield 99, 3) := by decide +kernel
theorem dX6_next_30 : decode cX6_next 30 = .ok (.aload_n 0, 1) := by decide +kernel
theorem dX6_next_31 : decode cX6_next 31 = .ok (.iconst 0, 1) := by decide +kernel
theorem dX6_next_32 : decode cX6_next 32 = .ok (.putfield 102, 3) := by decide +kernel
theorem dX6_next_35 : decode cX6_next 35 = .ok (.aload_n 0, 1) := by decide +kernel
theorem dX6_next_36 : decode cX6_next 36 = .ok (.invokevirtual 95, 3) := by decide +kernel
theorem dX6_next_39 : decode cX6_next 39 = .ok (.istore_n 1, 1) := by decide +kernel
theorem dX6_next_40 : decode cX6_next 40 = .ok (.iload_n 1, 1) := by decide +kernel
theorem dX6_next_41 : decode cX6_next 41 = .ok (.ifCond .ge 11, 3) := by decide +kernel
theorem dX6_next_44 : decode cX6_next 44 = .ok (.aload_n 0, 1) := by decide +kernel
theorem dX6_next_45 : decode cX6_next 45 = .ok (.iconst 0, 1) := by decide +kernel
theorem dX6_next_46 : decode cX6_next 46 = .ok (.putfield 105, 3) := by decide +kernel
theorem dX6_next_49 : decode cX6_next 49 = .ok (.goto 285, 3) := by decide +kernel
theorem dX6_next_52 : decode cX6_next 52 = .ok (.iload_n 1, 1) := by decide +kernel
theorem dX6_next_53 : decode cX6_next 53 = .ok (.bipush 97, 2) := by decide +kernel
theorem dX6_next_55 : decode cX6_next 55 = .ok (.bipush 122, 2) := by decide +kernel
theorem dX6_next_57 : decode cX6_next 57 = .ok (.invokestatic 82, 3) := by decide +kernel
theorem dX6_next_60 : decode cX6_next 60 = .ok (.ifCond .eq 133, 3) := by decide +kernel
theorem dX6_next_63 : decode cX6_next 63 = .ok (.iconst 0, 1) := by decide +kernel
theorem dX6_next_64 : decode cX6_next 64 = .ok (.istore_n 2, 1) := by decide +kernel
theorem dX6_next_65 : decode cX6_next 65 = .ok (.aload_n 0, 1) := by decide +kernel
theorem dX6_next_66 : decode cX6_next 66 = .ok (.invokevirtual 95, 3) := by decide +kernel
theorem dX6_next_69 : decode cX6_next 69 = .ok (.bipush 97, 2) := by decide +kernel
theorem dX6_next_71 : decode cX6_next 71 = .ok (.bipush 122, 2) := by decide +kernel
theorem dX6_next_73 : decode cX6_next 73 = .ok (.invokestatic 82, 3) := by decide +kernel
theorem dX6_next_76 : decode cX6_next 76 = .ok (.ifCond .eq 47, 3) := by decide +kernel
theorem dX6_next_79 : decode cX6_next 79 = .ok (.aload_n 0, 1) := by decide +kernel
theorem dX6_next_80 : decode cX6_next 80 = .ok (.getfield 92, 3) := by decide +kernel
theorem dX6_next_83 : decode cX6_next 83 = .ok (.aload_n 0, 1) := by decide +kernel
theorem dX6_next_84 : decode cX6_next 84 = .ok (.getfield 99, 3) := by decide +kernel
theorem dX6_next_87 : decode cX6_next 87 = .ok (.isub, 1) := by decide +kernel
theorem dX6_next_88 : decode cX6_next 88 = .ok (.bipush 6, 2) := by decide +kernel
theorem dX6_next_90 : decode cX6_next 90 = .ok (.if_icmp .ge 18, 3) := by decide +kernel
theorem dX6_next_93 : decode cX6_next 93 = .ok (.bipush 27, 2) := by decide +kernel
theorem dX6_next_95 : decode cX6_next 95 = .ok (.iload_n 2, 1) := by decide +kernel
theorem dX6_next_96 : decode cX6_next 96 = .ok (.imul, 1) := by decide +kernel
theorem dX6_next_97 : decode cX6_next 97 = .ok (.aload_n 0, 1) := by decide +kernel
theorem dX6_next_98 : decode cX6_next 98 = .ok (.invokevirtual 95, 3) := by decide +kernel
theorem dX6_next_101 : decode cX6_next 101 = .ok (.iadd, 1) := by decide +kernel
theorem dX6_next_102 : decode cX6_next 102 = .ok (.bipush 96, 2) := by decide +kernel
theorem dX6_next_104 : decode cX6_next 104 = .ok (.isub, 1) := by decide +kernel
theorem dX6_next_105 : decode cX6_next 105 = .ok (.goto 4, 3) := by decide +kernel
theorem dX6_next_108 : decode cX6_next 108 = .ok (.iconst 0, 1) := by decide +kernel
theorem dX6_next_109 : decode cX6_next 109 = .ok (.istore_n 2, 1) := by decide +kernel
theorem dX6_next_110 : decode cX6_next 110 = .ok (.aload_n 0, 1) := by decide +kernel
theorem dX6_next_111 : decode cX6_next 111 = .ok (.dup, 1) := by decide +kernel
theorem dX6_next_112 : decode cX6_next 112 = .ok (.getfield 92, 3) := by decide +kernel
theorem dX6_next_115 : decode cX6_next 115 = .ok (.iconst 1, 1) := by decide +kernel
theorem dX6_next_116 : decode cX6_next 116 = .ok (.iadd, 1) := by decide +kernel
theorem dX6_next_117 : decode cX6_next 117 = .ok (.putfield 92, 3) := by decide +kernel
theorem dX6_next_120 : decode cX6_next 120 = .ok (.goto (-55), 3) := by decide +kernel
theorem dX6_next_123 : decode cX6_next 123 = .ok (.aload_n 0, 1) := by decide +kernel
theorem dX6_next_124 : decode cX6_next 124 = .ok (.getfield 92, 3) := by decide +kernel
theorem dX6_next_127 : decode cX6_next 127 = .ok (.aload_n 0, 1) := by decide +kernel
theorem dX6_next_128 : decode cX6_next 128 = .ok (.getfield 99, 3) := by decide +kernel
theorem dX6_next_131 : decode cX6_next 131 = .ok (.isub, 1) := by decide +kernel
theorem dX6_next_132 : decode cX6_next 132 = .ok (.bipush 6, 2) := by decide +kernel
theorem dX6_next_134 : decode cX6_next 134 = .ok (.if_icmp .le 7, 3) := by decide +kernel
theorem dX6_next_137 : decode cX6_next 137 = .ok (.iconst 0, 1) := by decide +kernel
theorem dX6_next_138 : decode cX6_next 138 = .ok (.goto 4, 3) := by decide +kernel
theorem dX6_next_141 : decode cX6_next 141 = .ok (.iload_n 2, 1) := by decide +kernel
theorem dX6_next_142 : decode cX6_next 142 = .ok (.istore_n 2, 1) := by decide +kernel
theorem dX6_next_143 : decode cX6_next 143 = .ok (.aload_n 0, 1) := by decide +kernel
theorem dX6_next_144 : decode cX6_next 144 = .ok (.iload_n 2, 1) := by decide +kernel
theorem dX6_next_145 : decode cX6_next 145 = .ok (.ldc 108, 2) := by decide +kernel
theorem dX6_next_147 : decode cX6_next 147 = .ok (.if_icmp .ne 7, 3) := by decide +kernel
theorem dX6_next_150 : decode cX6_next 150 = .ok (.iconst 1, 1) := by decide +kernel
theorem dX6_next_151 : decode cX6_next 151 = .ok (.goto 36, 3) := by decide +kernel
theorem dX6_next_154 : decode cX6_next 154 = .ok (.iload_n 2, 1) := by decide +kernel
theorem dX6_next_155 : decode cX6_next 155 = .ok (.sipush 16922, 3) := by decide +kernel
theorem dX6_next_158 : decode cX6_next 158 = .ok (.if_icmp .ne 7, 3) := by decide +kernel
theorem dX6_next_161 : decode cX6_next 161 = .ok (.iconst 2, 1) := by decide +kernel
theorem dX6_next_162 : decode cX6_next 162 = .ok (.goto 25, 3) := by decide +kernel
theorem dX6_next_165 : decode cX6_next 165 = .ok (.iload_n 2, 1) := by decide +kernel
theorem dX6_next_166 : decode cX6_next 166 = .ok (.ldc 109, 2) := by decide +kernel
theorem dX6_next_168 : decode cX6_next 168 = .ok (.if_icmp .ne 7, 3) := by decide +kernel
theorem dX6_next_171 : decode cX6_next 171 = .ok (.iconst 3, 1) := by decide +kernel
theorem dX6_next_172 : decode cX6_next 172 = .ok (.goto 15, 3) := by decide +kernel
theorem dX6_next_175 : decode cX6_next 175 = .ok (.iload_n 2, 1) := by decide +kernel
theorem dX6_next_176 : decode cX6_next 176 = .ok (.ldc 110, 2) := by decide +kernel
theorem dX6_next_178 : decode cX6_next 178 = .ok (.if_icmp .ne 7, 3) := by decide +kernel
theorem dX6_next_181 : decode cX6_next 181 = .ok (.iconst 4, 1) := by decide +kernel
theorem dX6_next_182 : decode cX6_next 182 = .ok (.goto 5, 3) := by decide +kernel
theorem dX6_next_185 : decode cX6_next 185 = .ok (.bipush 7, 2) := by decide +kernel
theorem dX6_next_187 : decode cX6_next 187 = .ok (.putfield 105, 3) := by decide +kernel
theorem dX6_next_190 : decode cX6_next 190 = .ok (.goto 144, 3) := by decide +kernel
theorem dX6_next_193 : decode cX6_next 193 = .ok (.iload_n 1, 1) := by decide +kernel
theorem dX6_next_194 : decode cX6_next 194 = .ok (.bipush 48, 2) := by decide +kernel
theorem dX6_next_196 : decode cX6_next 196 = .ok (.bipush 57, 2) := by decide +kernel
theorem dX6_next_198 : decode cX6_next 198 = .ok (.invokestatic 82, 3) := by decide +kernel
theorem dX6_next_201 : decode cX6_next 201 = .ok (.ifCond .eq 106, 3) := by decide +kernel
theorem dX6_next_204 : decode cX6_next 204 = .ok (.aload_n 0, 1) := by decide +kernel
theorem dX6_next_205 : decode cX6_next 205 = .ok (.invokevirtual 95, 3) := by decide +kernel
theorem dX6_next_208 : decode cX6_next 208 = .ok (.bipush 48, 2) := by decide +kernel
theorem dX6_next_210 : decode cX6_next 210 = .ok (.bipush 57, 2) := by decide +kernel
theorem dX6_next_212 : decode cX6_next 212 = .ok (.invokestatic 82, 3) := by decide +kernel
theorem dX6_next_215 : decode cX6_next 215 = .ok (.ifCond .eq 51, 3) := by decide +kernel
theorem dX6_next_218 : decode cX6_next 218 = .ok (.aload_n 0, 1) := by decide +kernel
theorem dX6_next_219 : decode cX6_next 219 = .ok (.aload_n 0, 1) := by decide +kernel
theorem dX6_next_220 : decode cX6_next 220 = .ok (.getfield 102, 3) := by decide +kernel
theorem dX6_next_223 : decode cX6_next 223 = .ok (.bipush 99, 2) := by decide +kernel
theorem dX6_next_225 : decode cX6_next 225 = .ok (.if_icmp .le 10, 3) := by decide +kernel
theorem dX6_next_228 : decode cX6_next 228 = .ok (.aload_n 0, 1) := by decide +kernel
theorem dX6_next_229 : decode cX6_next 229 = .ok (.getfield 102, 3) := by decide +kernel
theorem dX6_next_232 : decode cX6_next 232 = .ok (.goto 18, 3) := by decide +kernel
theorem dX6_next_235 : decode cX6_next 235 = .ok (.bipush 10, 2) := by decide +kernel
theorem dX6_next_237 : decode cX6_next 237 = .ok (.aload_n 0, 1) := by decide +kernel
theorem dX6_next_238 : decode cX6_next 238 = .ok (.getfield 102, 3) := by decide +kernel
theorem dX6_next_241 : decode cX6_next 241 = .ok (.imul, 1) := by decide +kernel
theorem dX6_next_242 : decode cX6_next 242 = .ok (.aload_n 0, 1) := by decide +kernel
theorem dX6_next_243 : decode cX6_next 243 = .ok (.invokevirtual 95, 3) := by decide +kernel
theorem dX6_next_246 : decode cX6_next 246 = .ok (.iadd, 1) := by decide +kernel
theorem dX6_next_247 : decode cX6_next 247 = .ok (.bipush 48, 2) := by decide +kernel
theorem dX6_next_249 : decode cX6_next 249 = .ok (.isub, 1) := by decide +kernel
theorem dX6_next_250 : decode cX6_next 250 = .ok (.putfield 102, 3) := by decide +kernel
theorem dX6_next_253 : decode cX6_next 253 = .ok (.aload_n 0, 1) := by decide +kernel
theorem dX6_next_254 : decode cX6_next 254 = .ok (.dup, 1) := by decide +kernel
theorem dX6_next_255 : decode cX6_next 255 = .ok (.getfield 92, 3) := by decide +kernel
theorem dX6_next_258 : decode cX6_next 258 = .ok (.iconst 1, 1) := by decide +kernel
theorem dX6_next_259 : decode cX6_next 259 = .ok (.iadd, 1) := by decide +kernel
theorem dX6_next_260 : decode cX6_next 260 = .ok (.putfield 92, 3) := by decide +kernel
theorem dX6_next_263 : decode cX6_next 263 = .ok (.goto (-59), 3) := by decide +kernel
theorem dX6_next_266 : decode cX6_next 266 = .ok (.aload_n 0, 1) := by decide +kernel
theorem dX6_next_267 : decode cX6_next 267 = .ok (.aload_n 0, 1) := by decide +kernel
theorem dX6_next_268 : decode cX6_next 268 = .ok (.getfield 102, 3) := by decide +kernel
theorem dX6_next_271 : decode cX6_next 271 = .ok (.bipush 99, 2) := by decide +kernel
theorem dX6_next_273 : decode cX6_next 273 = .ok (.if_icmp .gt 22, 3) := by decide +kernel
theorem dX6_next_276 : decode cX6_next 276 = .ok (.iload_n 1, 1) := by decide +kernel
theorem dX6_next_277 : decode cX6_next 277 = .ok (.bipush 48, 2) := by decide +kernel
theorem dX6_next_279 : decode cX6_next 279 = .ok (.if_icmp .ne 21, 3) := by decide +kernel
theorem dX6_next_282 : decode cX6_next 282 = .ok (.aload_n 0, 1) := by decide +kernel
theorem dX6_next_283 : decode cX6_next 283 = .ok (.getfield 92, 3) := by decide +kernel
theorem dX6_next_286 : decode cX6_next 286 = .ok (.aload_n 0, 1) := by decide +kernel
theorem dX6_next_287 : decode cX6_next 287 = .ok (.getfield 99, 3) := by decide +kernel
theorem dX6_next_290 : decode cX6_next 290 = .ok (.isub, 1) := by decide +kernel
theorem dX6_next_291 : decode cX6_next 291 = .ok (.iconst 1, 1) := by decide +kernel
theorem dX6_next_292 : decode cX6_next 292 = .ok (.if_icmp .le 8, 3) := by decide +kernel
theorem dX6_next_295 : decode cX6_next 295 = .ok (.bipush 7, 2) := by decide +kernel
theorem dX6_next_297 : decode cX6_next 297 = .ok (.goto 4, 3) := by decide +kernel
theorem dX6_next_300 : decode cX6_next 300 = .ok (.iconst 5, 1) := by decide +kernel
theorem dX6_next_301 : decode cX6_next 301 = .ok (.putfield 105, 3) := by decide +kernel
theorem dX6_next_304 : decode cX6_next 304 = .ok (.goto 30, 3) := by decide +kernel
theorem dX6_next_307 : decode cX6_next 307 = .ok (.aload_n 0, 1) := by decide +kernel
theorem dX6_next_308 : decode cX6_next 308 = .ok (.dup, 1) := by decide +kernel
theorem dX6_next_309 : decode cX6_next 309 = .ok (.getfield 92, 3) := by decide +kernel
theorem dX6_next_312 : decode cX6_next 312 = .ok (.iconst 1, 1) := by decide +kernel
theorem dX6_next_313 : decode cX6_next 313 = .ok (.iadd, 1) := by decide +kernel
theorem dX6_next_314 : decode cX6_next 314 = .ok (.putfield 92, 3) := by decide +kernel
theorem dX6_next_317 : decode cX6_next 317 = .ok (.aload_n 0, 1) := by decide +kernel
theorem dX6_next_318 : decode cX6_next 318 = .ok (.iload_n 1, 1) := by decide +kernel
theorem dX6_next_319 : decode cX6_next 319 = .ok (.bipush 59, 2) := by decide +kernel
theorem dX6_next_321 : decode cX6_next 321 = .ok (.if_icmp .ne 8, 3) := by decide +kernel
theorem dX6_next_324 : decode cX6_next 324 = .ok (.bipush 6, 2) := by decide +kernel
theorem dX6_next_326 : decode cX6_next 326 = .ok (.goto 5, 3) := by decide +kernel
theorem dX6_next_329 : decode cX6_next 329 = .ok (.bipush 7, 2) := by decide +kernel
theorem dX6_next_331 : decode cX6_next 331 = .ok (.putfield 105, 3) := by decide +kernel
theorem dX6_next_334 : decode cX6_next 334 = .ok (.return_, 1) := by decide +kernel
theorem dX6_due_0 : decode cX6_due 0 = .ok (.aload_n 0, 1) := by decide +kernel
theorem dX6_due_1 : decode cX6_due 1 = .ok (.getfield 102, 3) := by decide +kernel
theorem dX6_due_4 : decode cX6_due 4 = .ok (.istore_n 2, 1) := by decide +kernel
theorem dX6_due_5 : decode cX6_due 5 = .ok (.aload_n 0, 1) := by decide +kernel
theorem dX6_due_6 : decode cX6_due 6 = .ok (.getfield 111, 3) := by decide +kernel
theorem dX6_due_9 : decode cX6_due 9 = .ok (.bipush (-9), 2) := by decide +kernel
theorem dX6_due_11 : decode cX6_due 11 = .ok (.if_icmp .ne 22, 3) := by decide +kernel
theorem dX6_due_14 : decode cX6_due 14 = .ok (.iload_n 1, 1) := by decide +kernel
theorem dX6_due_15 : decode cX6_due 15 = .ok (.ifCond .eq 10, 3) := by decide +kernel
theorem dX6_due_18 : decode cX6_due 18 = .ok (.aload_n 0, 1) := by decide +kernel
theorem dX6_due_19 : decode cX6_due 19 = .ok (.invokevirtual 114, 3) := by decide +kernel
theorem dX6_due_22 : decode cX6_due 22 = .ok (.goto 11, 3) := by decide +kernel
theorem dX6_due_25 : decode cX6_due 25 = .ok (.aload_n 0, 1) := by decide +kernel
theorem dX6_due_26 : decode cX6_due 26 = .ok (.aload_n 0, 1) := by decide +kernel
theorem dX6_due_27 : decode cX6_due 27 = .ok (.getfield 99, 3) := by decide +kernel
theorem dX6_due_30 : decode cX6_due 30 = .ok (.putfield 111, 3) := by decide +kernel
theorem dX6_due_33 : decode cX6_due 33 = .ok (.iload_n 2, 1) := by decide +kernel
theorem dX6_due_34 : decode cX6_due 34 = .ok (.ireturn, 1) := by decide +kernel
theorem dX6_number_0 : decode cX6_number 0 = .ok (.aload_n 0, 1) := by decide +kernel
theorem dX6_number_1 : decode cX6_number 1 = .ok (.aload_n 0, 1) := by decide +kernel
theorem dX6_number_2 : decode cX6_number 2 = .ok (.getfield 105, 3) := by decide +kernel
theorem dX6_number_5 : decode cX6_number 5 = .ok (.iconst 5, 1) := by decide +kernel
theorem dX6_number_6 : decode cX6_number 6 = .ok (.if_icmp .ne 19, 3) := by decide +kernel
theorem dX6_number_9 : decode cX6_number 9 = .ok (.aload_n 0, 1) := by decide +kernel
theorem dX6_number_10 : decode cX6_number 10 = .ok (.getfield 102, 3) := by decide +kernel
theorem dX6_number_13 : decode cX6_number 13 = .ok (.iload_n 1, 1) := by decide +kernel
theorem dX6_number_14 : decode cX6_number 14 = .ok (.iload_n 2, 1) := by decide +kernel
theorem dX6_number_15 : decode cX6_number 15 = .ok (.invokestatic 82, 3) := by decide +kernel
theorem dX6_number_18 : decode cX6_number 18 = .ok (.ifCond .eq 7, 3) := by decide +kernel
theorem dX6_number_21 : decode cX6_number 21 = .ok (.iconst 1, 1) := by decide +kernel
theorem dX6_number_22 : decode cX6_number 22 = .ok (.goto 4, 3) := by decide +kernel
theorem dX6_number_25 : decode cX6_number 25 = .ok (.iconst 0, 1) := by decide +kernel
theorem dX6_number_26 : decode cX6_number 26 = .ok (.invokevirtual 117, 3) := by decide +kernel
theorem dX6_number_29 : decode cX6_number 29 = .ok (.ireturn, 1) := by decide +kernel
theorem dX6_optional_0 : decode cX6_optional 0 = .ok (.aload_n 0, 1) := by decide +kernel
theorem dX6_optional_1 : decode cX6_optional 1 = .ok (.getfield 111, 3) := by decide +kernel
theorem dX6_optional_4 : decode cX6_optional 4 = .ok (.bipush (-9), 2) := by decide +kernel
theorem dX6_optional_6 : decode cX6_optional 6 = .ok (.if_icmp .ne 15, 3) := by decide +kernel
theorem dX6_optional_9 : decode cX6_optional 9 = .ok (.aload_n 0, 1) := by decide +kernel
theorem dX6_optional_10 : decode cX6_optional 10 = .ok (.getfield 105, 3) := by decide +kernel
theorem dX6_optional_13 : decode cX6_optional 13 = .ok (.iload_n 1, 1) := by decide +kernel
theorem dX6_optional_14 : decode cX6_optional 14 = .ok (.if_icmp .ne 7, 3) := by decide +kernel
theorem dX6_optional_17 : decode cX6_optional 17 = .ok (.iconst 1, 1) := by decide +kernel
theorem dX6_optional_18 : decode cX6_optional 18 = .ok (.goto 4, 3) := by decide +kernel
theorem dX6_optional_21 : decode cX6_optional 21 = .ok (.iconst 0, 1) := by decide +kernel
theorem dX6_optional_22 : decode cX6_optional 22 = .ok (.istore_n 2, 1) := by decide +kernel
theorem dX6_optional_23 : decode cX6_optional 23 = .ok (.iload_n 2, 1) := by decide +kernel
theorem dX6_optional_24 : decode cX6_optional 24 = .ok (.ifCond .eq 9, 3) := by decide +kernel
theorem dX6_optional_27 : decode cX6_optional 27 = .ok (.aload_n 0, 1) := by decide +kernel
theorem dX6_optional_28 : decode cX6_optional 28 = .ok (.iconst 1, 1) := by decide +kernel
theorem dX6_optional_29 : decode cX6_optional 29 = .ok (.invokevirtual 117, 3) := by decide +kernel
theorem dX6_optional_32 : decode cX6_optional 32 = .ok (.pop, 1) := by decide +kernel
theorem dX6_optional_33 : decode cX6_optional 33 = .ok (.iload_n 2, 1) := by decide +kernel
theorem dX6_optional_34 : decode cX6_optional 34 = .ok (.ifCond .eq 7, 3) := by decide +kernel
theorem dX6_optional_37 : decode cX6_optional 37 = .ok (.iconst 1, 1) := by decide +kernel
theorem dX6_optional_38 : decode cX6_optional 38 = .ok (.goto 4, 3) := by decide +kernel
theorem dX6_optional_41 : decode cX6_optional 41 = .ok (.iconst 0, 1) := by decide +kernel
theorem dX6_optional_42 : decode cX6_optional 42 = .ok (.ireturn, 1) := by decide +kernel
theorem dX6_item_0 : decode cX6_item 0 = .ok (.aload_n 0, 1) := by decide +kernel
theorem dX6_item_1 : decode cX6_item 1 = .ok (.iload_n 1, 1) := by decide +kernel
theorem dX6_item_2 : decode cX6_item 2 = .ok (.iconst 1, 1) := by decide +kernel
theorem dX6_item_3 : decode cX6_item 3 = .ok (.if_icmp .ne 22, 3) := by decide +kernel
theorem dX6_item_6 : decode cX6_item 6 = .ok (.aload_n 0, 1) := by decide +kernel
theorem dX6_item_7 : decode cX6_item 7 = .ok (.getfield 13, 3) := by decide +kernel
theorem dX6_item_10 : decode cX6_item 10 = .ok (.iconst 1, 1) := by decide +kernel
theorem dX6_item_11 : decode cX6_item 11 = .ok (.iaload, 1) := by decide +kernel
theorem dX6_item_12 : decode cX6_item 12 = .ok (.bipush 12, 2) := by decide +kernel
theorem dX6_item_14 : decode cX6_item 14 = .ok (.if_icmp .ge 7, 3) := by decide +kernel
theorem dX6_item_17 : decode cX6_item 17 = .ok (.iconst 1, 1) := by decide +kernel
theorem dX6_item_18 : decode cX6_item 18 = .ok (.goto 27, 3) := by decide +kernel
theorem dX6_item_21 : decode cX6_item 21 = .ok (.iconst 0, 1) := by decide +kernel
theorem dX6_item_22 : decode cX6_item 22 = .ok (.goto 23, 3) := by decide +kernel
theorem dX6_item_25 : decode cX6_item 25 = .ok (.iload_n 1, 1) := by decide +kernel
theorem dX6_item_26 : decode cX6_item 26 = .ok (.iconst 4, 1) := by decide +kernel
theorem dX6_item_27 : decode cX6_item 27 = .ok (.if_icmp .ne 17, 3) := by decide +kernel
theorem dX6_item_30 : decode cX6_item 30 = .ok (.aload_n 0, 1) := by decide +kernel
theorem dX6_item_31 : decode cX6_item 31 = .ok (.getfield 20, 3) := by decide +kernel
theorem dX6_item_34 : decode cX6_item 34 = .ok (.iconst 1, 1) := by decide +kernel
theorem dX6_item_35 : decode cX6_item 35 = .ok (.iaload, 1) := by decide +kernel
theorem dX6_item_36 : decode cX6_item 36 = .ok (.iconst 3, 1) := by decide +kernel
theorem dX6_item_37 : decode cX6_item 37 = .ok (.if_icmp .ge 7, 3) := by decide +kernel
theorem dX6_item_40 : decode cX6_item 40 = .ok (.iconst 1, 1) := by decide +kernel
theorem dX6_item_41 : decode cX6_item 41 = .ok (.goto 4, 3) := by decide +kernel
theorem dX6_item_44 : decode cX6_item 44 = .ok (.iconst 0, 1) := by decide +kernel
theorem dX6_item_45 : decode cX6_item 45 = .ok (.invokevirtual 117, 3) := by decide +kernel
theorem dX6_item_48 : decode cX6_item 48 = .ok (.pop, 1) := by decide +kernel
theorem dX6_item_49 : decode cX6_item 49 = .ok (.aload_n 0, 1) := by decide +kernel
theorem dX6_item_50 : decode cX6_item 50 = .ok (.getfield 111, 3) := by decide +kernel
theorem dX6_item_53 : decode cX6_item 53 = .ok (.bipush (-9), 2) := by decide +kernel
theorem dX6_item_55 : decode cX6_item 55 = .ok (.if_icmp .eq 4, 3) := by decide +kernel
theorem dX6_item_58 : decode cX6_item 58 = .ok (.return_, 1) := by decide +kernel
theorem dX6_item_59 : decode cX6_item 59 = .ok (.iload_n 1, 1) := by decide +kernel
theorem dX6_item_60 : decode cX6_item 60 = .ok (.iconst 1, 1) := by decide +kernel
theorem dX6_item_61 : decode cX6_item 61 = .ok (.if_icmp .ne 113, 3) := by decide +kernel
theorem dX6_item_64 : decode cX6_item 64 = .ok (.bipush 72, 2) := by decide +kernel
theorem dX6_item_66 : decode cX6_item 66 = .ok (.bipush 6, 2) := by decide +kernel
theorem dX6_item_68 : decode cX6_item 68 = .ok (.aload_n 0, 1) := by decide +kernel
theorem dX6_item_69 : decode cX6_item 69 = .ok (.getfield 13, 3) := by decide +kernel
theorem dX6_item_72 : decode cX6_item 72 = .ok (.iconst 1, 1) := by decide +kernel
theorem dX6_item_73 : decode cX6_item 73 = .ok (.iaload, 1) := by decide +kernel
theorem dX6_item_74 : decode cX6_item 74 = .ok (.imul, 1) := by decide +kernel
theorem dX6_item_75 : decode cX6_item 75 = .ok (.iadd, 1) := by decide +kernel
theorem dX6_item_76 : decode cX6_item 76 = .ok (.istore_n 2, 1) := by decide +kernel
theorem dX6_item_77 : decode cX6_item 77 = .ok (.aload_n 0, 1) := by decide +kernel
theorem dX6_item_78 : decode cX6_item 78 = .ok (.getfield 17, 3) := by decide +kernel
theorem dX6_item_81 : decode cX6_item 81 = .ok (.iload_n 2, 1) := by decide +kernel
theorem dX6_item_82 : decode cX6_item 82 = .ok (.aload_n 0, 1) := by decide +kernel
theorem dX6_item_83 : decode cX6_item 83 = .ok (.iconst 1, 1) := by decide +kernel
theorem dX6_item_84 : decode cX6_item 84 = .ok (.bipush 99, 2) := by decide +kernel
theorem dX6_item_86 : decode cX6_item 86 = .ok (.invokevirtual 121, 3) := by decide +kernel
theorem dX6_item_89 : decode cX6_item 89 = .ok (.iastore, 1) := by decide +kernel
theorem dX6_item_90 : decode cX6_item 90 = .ok (.aload_n 0, 1) := by decide +kernel
theorem dX6_item_91 : decode cX6_item 91 = .ok (.getfield 17, 3) := by decide +kernel
theorem dX6_item_94 : decode cX6_item 94 = .ok (.iload_n 2, 1) := by decide +kernel
theorem dX6_item_95 : decode cX6_item 95 = .ok (.iconst 1, 1) := by decide +kernel
theorem dX6_item_96 : decode cX6_item 96 = .ok (.iadd, 1) := by decide +kernel
theorem dX6_item_97 : decode cX6_item 97 = .ok (.aload_n 0, 1) := by decide +kernel
theorem dX6_item_98 : decode cX6_item 98 = .ok (.iconst 0, 1) := by decide +kernel
theorem dX6_item_99 : decode cX6_item 99 = .ok (.bipush 7, 2) := by decide +kernel
theorem dX6_item_101 : decode cX6_item 101 = .ok (.invokevirtual 121, 3) := by decide +kernel
theorem dX6_item_104 : decode cX6_item 104 = .ok (.iastore, 1) := by decide +kernel
theorem dX6_item_105 : decode cX6_item 105 = .ok (.aload_n 0, 1) := by decide +kernel
theorem dX6_item_106 : decode cX6_item 106 = .ok (.getfield 17, 3) := by decide +kernel
theorem dX6_item_109 : decode cX6_item 109 = .ok (.iload_n 2, 1) := by decide +kernel
theorem dX6_item_110 : decode cX6_item 110 = .ok (.iconst 2, 1) := by decide +kernel
theorem dX6_item_111 : decode cX6_item 111 = .ok (.iadd, 1) := by decide +kernel
theorem dX6_item_112 : decode cX6_item 112 = .ok (.aload_n 0, 1) := by decide +kernel
theorem dX6_item_113 : decode cX6_item 113 = .ok (.iconst 1, 1) := by decide +kernel
theorem dX6_item_114 : decode cX6_item 114 = .ok (.bipush 30, 2) := by decide +kernel
theorem dX6_item_116 : decode cX6_item 116 = .ok (.invokevirtual 121, 3) := by decide +kernel
theorem dX6_item_119 : decode cX6_item 119 = .ok (.iastore, 1) := by decide +kernel
theorem dX6_item_120 : decode cX6_item 120 = .ok (.aload_n 0, 1) := by decide +kernel
theorem dX6_item_121 : decode cX6_item 121 = .ok (.getfield 17, 3) := by decide +kernel
theorem dX6_item_124 : decode cX6_item 124 = .ok (.iload_n 2, 1) := by decide +kernel
theorem dX6_item_125 : decode cX6_item 125 = .ok (.iconst 3, 1) := by decide +kernel
theorem dX6_item_126 : decode cX6_item 126 = .ok (.iadd, 1) := by decide +kernel
theorem dX6_item_127 : decode cX6_item 127 = .ok (.aload_n 0, 1) := by decide +kernel
theorem dX6_item_128 : decode cX6_item 128 = .ok (.iconst 0, 1) := by decide +kernel
theorem dX6_item_129 : decode cX6_item 129 = .ok (.bipush 10, 2) := by decide +kernel
theorem dX6_item_131 : decode cX6_item 131 = .ok (.invokevirtual 121, 3) := by decide +kernel
theorem dX6_item_134 : decode cX6_item 134 = .ok (.iastore, 1) := by decide +kernel
theorem dX6_item_135 : decode cX6_item 135 = .ok (.aload_n 0, 1) := by decide +kernel
theorem dX6_item_136 : decode cX6_item 136 = .ok (.getfield 17, 3) := by decide +kernel
theorem dX6_item_139 : decode cX6_item 139 = .ok (.iload_n 2, 1) := by decide +kernel
theorem dX6_item_140 : decode cX6_item 140 = .ok (.iconst 4, 1) := by decide +kernel
theorem dX6_item_141 : decode cX6_item 141 = .ok (.iadd, 1) := by decide +kernel
theorem dX6_item_142 : decode cX6_item 142 = .ok (.aload_n 0, 1) := by decide +kernel
theorem dX6_item_143 : decode cX6_item 143 = .ok (.iconst 2, 1) := by decide +kernel
theorem dX6_item_144 : decode cX6_item 144 = .ok (.invokevirtual 125, 3) := by decide +kernel
theorem dX6_item_147 : decode cX6_item 147 = .ok (.iastore, 1) := by decide +kernel
theorem dX6_item_148 : decode cX6_item 148 = .ok (.aload_n 0, 1) := by decide +kernel
theorem dX6_item_149 : decode cX6_item 149 = .ok (.getfield 17, 3) := by decide +kernel
theorem dX6_item_152 : decode cX6_item 152 = .ok (.iload_n 2, 1) := by decide +kernel
theorem dX6_item_153 : decode cX6_item 153 = .ok (.iconst 5, 1) := by decide +kernel
theorem dX6_item_154 : decode cX6_item 154 = .ok (.iadd, 1) := by decide +kernel
theorem dX6_item_155 : decode cX6_item 155 = .ok (.aload_n 0, 1) := by decide +kernel
theorem dX6_item_156 : decode cX6_item 156 = .ok (.iconst 3, 1) := by decide +kernel
theorem dX6_item_157 : decode cX6_item 157 = .ok (.invokevirtual 125, 3) := by decide +kernel
theorem dX6_item_160 : decode cX6_item 160 = .ok (.iastore, 1) := by decide +kernel
theorem dX6_item_161 : decode cX6_item 161 = .ok (.aload_n 0, 1) := by decide +kernel
theorem dX6_item_162 : decode cX6_item 162 = .ok (.getfield 13, 3) := by decide +kernel
theorem dX6_item_165 : decode cX6_item 165 = .ok (.iconst 1, 1) := by decide +kernel
theorem dX6_item_166 : decode cX6_item 166 = .ok (.dup2, 1) := by decide +kernel
theorem dX6_item_167 : decode cX6_item 167 = .ok (.iaload, 1) := by decide +kernel
theorem dX6_item_168 : decode cX6_item 168 = .ok (.iconst 1, 1) := by decide +kernel
theorem dX6_item_169 : decode cX6_item 169 = .ok (.iadd, 1) := by decide +kernel
theorem dX6_item_170 : decode cX6_item 170 = .ok (.iastore, 1) := by decide +kernel
theorem dX6_item_171 : decode cX6_item 171 = .ok (.goto 68, 3) := by decide +kernel
theorem dX6_item_174 : decode cX6_item 174 = .ok (.bipush 9, 2) := by decide +kernel
theorem dX6_item_176 : decode cX6_item 176 = .ok (.iconst 3, 1) := by decide +kernel
theorem dX6_item_177 : decode cX6_item 177 = .ok (.aload_n 0, 1) := by decide +kernel
theorem dX6_item_178 : decode cX6_item 178 = .ok (.getfield 20, 3) := by decide +kernel
theorem dX6_item_181 : decode cX6_item 181 = .ok (.iconst 1, 1) := by decide +kernel
theorem dX6_item_182 : decode cX6_item 182 = .ok (.iaload, 1) := by decide +kernel
theorem dX6_item_183 : decode cX6_item 183 = .ok (.imul, 1) := by decide +kernel
theorem dX6_item_184 : decode cX6_item 184 = .ok (.iadd, 1) := by decide +kernel
theorem dX6_item_185 : decode cX6_item 185 = .ok (.istore_n 2, 1) := by decide +kernel
theorem dX6_item_186 : decode cX6_item 186 = .ok (.aload_n 0, 1) := by decide +kernel
theorem dX6_item_187 : decode cX6_item 187 = .ok (.getfield 23, 3) := by decide +kernel
theorem dX6_item_190 : decode cX6_item 190 = .ok (.iload_n 2, 1) := by decide +kernel
theorem dX6_item_191 : decode cX6_item 191 = .ok (.aload_n 0, 1) := by decide +kernel
theorem dX6_item_192 : decode cX6_item 192 = .ok (.iconst 1, 1) := by decide +kernel
theorem dX6_item_193 : decode cX6_item 193 = .ok (.bipush 30, 2) := by decide +kernel
theorem dX6_item_195 : decode cX6_item 195 = .ok (.invokevirtual 121, 3) := by decide +kernel
theorem dX6_item_198 : decode cX6_item 198 = .ok (.iastore, 1) := by decide +kernel
theorem dX6_item_199 : decode cX6_item 199 = .ok (.aload_n 0, 1) := by decide +kernel
theorem dX6_item_200 : decode cX6_item 200 = .ok (.getfield 23, 3) := by decide +kernel
theorem dX6_item_203 : decode cX6_item 203 = .ok (.iload_n 2, 1) := by decide +kernel
theorem dX6_item_204 : decode cX6_item 204 = .ok (.iconst 1, 1) := by decide +kernel
theorem dX6_item_205 : decode cX6_item 205 = .ok (.iadd, 1) := by decide +kernel
theorem dX6_item_206 : decode cX6_item 206 = .ok (.aload_n 0, 1) := by decide +kernel
theorem dX6_item_207 : decode cX6_item 207 = .ok (.iconst 1, 1) := by decide +kernel
theorem dX6_item_208 : decode cX6_item 208 = .ok (.bipush 99, 2) := by decide +kernel
theorem dX6_item_210 : decode cX6_item 210 = .ok (.invokevirtual 121, 3) := by decide +kernel
theorem dX6_item_213 : decode cX6_item 213 = .ok (.iastore, 1) := by decide +kernel
theorem dX6_item_214 : decode cX6_item 214 = .ok (.aload_n 0, 1) := by decide +kernel
theorem dX6_item_215 : decode cX6_item 215 = .ok (.getfield 23, 3) := by decide +kernel
theorem dX6_item_218 : decode cX6_item 218 = .ok (.iload_n 2, 1) := by decide +kernel
theorem dX6_item_219 : decode cX6_item 219 = .ok (.iconst 2, 1) := by decide +kernel
theorem dX6_item_220 : decode cX6_item 220 = .ok (.iadd, 1) := by decide +kernel
theorem dX6_item_221 : decode cX6_item 221 = .ok (.aload_n 0, 1) := by decide +kernel
theorem dX6_item_222 : decode cX6_item 222 = .ok (.iconst 0, 1) := by decide +kernel
theorem dX6_item_223 : decode cX6_item 223 = .ok (.bipush 9, 2) := by decide +kernel
theorem dX6_item_225 : decode cX6_item 225 = .ok (.invokevirtual 121, 3) := by decide +kernel
theorem dX6_item_228 : decode cX6_item 228 = .ok (.iastore, 1) := by decide +kernel
theorem dX6_item_229 : decode cX6_item 229 = .ok (.aload_n 0, 1) := by decide +kernel
theorem dX6_item_230 : decode cX6_item 230 = .ok (.getfield 20, 3) := by decide +kernel
theorem dX6_item_233 : decode cX6_item 233 = .ok (.iconst 1, 1) := by decide +kernel
theorem dX6_item_234 : decode cX6_item 234 = .ok (.dup2, 1) := by decide +kernel
theorem dX6_item_235 : decode cX6_item 235 = .ok (.iaload, 1) := by decide +kernel
theorem dX6_item_236 : decode cX6_item 236 = .ok (.iconst 1, 1) := by decide +kernel
theorem dX6_item_237 : decode cX6_item 237 = .ok (.iadd, 1) := by decide +kernel
theorem dX6_item_238 : decode cX6_item 238 = .ok (.iastore, 1) := by decide +kernel
theorem dX6_item_239 : decode cX6_item 239 = .ok (.aload_n 0, 1) := by decide +kernel
theorem dX6_item_240 : decode cX6_item 240 = .ok (.aload_n 0, 1) := by decide +kernel
theorem dX6_item_241 : decode cX6_item 241 = .ok (.getfield 105, 3) := by decide +kernel
theorem dX6_item_244 : decode cX6_item 244 = .ok (.bipush 6, 2) := by decide +kernel
theorem dX6_item_246 : decode cX6_item 246 = .ok (.if_icmp .ne 7, 3) := by decide +kernel
theorem dX6_item_249 : decode cX6_item 249 = .ok (.iconst 1, 1) := by decide +kernel
theorem dX6_item_250 : decode cX6_item 250 = .ok (.goto 4, 3) := by decide +kernel
theorem dX6_item_253 : decode cX6_item 253 = .ok (.iconst 0, 1) := by decide +kernel
theorem dX6_item_254 : decode cX6_item 254 = .ok (.invokevirtual 117, 3) := by decide +kernel
theorem dX6_item_257 : decode cX6_item 257 = .ok (.pop, 1) := by decide +kernel
theorem dX6_item_258 : decode cX6_item 258 = .ok (.return_, 1) := by decide +kernel
theorem dX6_tree_0 : decode cX6_tree 0 = .ok (.aload_n 0, 1) := by decide +kernel
theorem dX6_tree_1 : decode cX6_tree 1 = .ok (.iconst 0, 1) := by decide +kernel
theorem dX6_tree_2 : decode cX6_tree 2 = .ok (.putfield 92, 3) := by decide +kernel
theorem dX6_tree_5 : decode cX6_tree 5 = .ok (.aload_n 0, 1) := by decide +kernel
theorem dX6_tree_6 : decode cX6_tree 6 = .ok (.bipush (-9), 2) := by decide +kernel
theorem dX6_tree_8 : decode cX6_tree 8 = .ok (.putfield 111, 3) := by decide +kernel
theorem dX6_tree_11 : decode cX6_tree 11 = .ok (.aload_n 0, 1) := by decide +kernel
theorem dX6_tree_12 : decode cX6_tree 12 = .ok (.getfield 13, 3) := by decide +kernel
theorem dX6_tree_15 : decode cX6_tree 15 = .ok (.iconst 1, 1) := by decide +kernel
theorem dX6_tree_16 : decode cX6_tree 16 = .ok (.iconst 0, 1) := by decide +kernel
theorem dX6_tree_17 : decode cX6_tree 17 = .ok (.iastore, 1) := by decide +kernel
theorem dX6_tree_18 : decode cX6_tree 18 = .ok (.aload_n 0, 1) := by decide +kernel
theorem dX6_tree_19 : decode cX6_tree 19 = .ok (.getfield 20, 3) := by decide +kernel
theorem dX6_tree_22 : decode cX6_tree 22 = .ok (.iconst 1, 1) := by decide +kernel
theorem dX6_tree_23 : decode cX6_tree 23 = .ok (.iconst 0, 1) := by decide +kernel
theorem dX6_tree_24 : decode cX6_tree 24 = .ok (.iastore, 1) := by decide +kernel
theorem dX6_tree_25 : decode cX6_tree 25 = .ok (.iconst 0, 1) := by decide +kernel
theorem dX6_tree_26 : decode cX6_tree 26 = .ok (.istore_n 1, 1) := by decide +kernel
theorem dX6_tree_27 : decode cX6_tree 27 = .ok (.aload_n 0, 1) := by decide +kernel
theorem dX6_tree_28 : decode cX6_tree 28 = .ok (.invokevirtual 114, 3) := by decide +kernel
theorem dX6_tree_31 : decode cX6_tree 31 = .ok (.aload_n 0, 1) := by decide +kernel
theorem dX6_tree_32 : decode cX6_tree 32 = .ok (.getfield 111, 3) := by decide +kernel
theorem dX6_tree_35 : decode cX6_tree 35 = .ok (.bipush (-9), 2) := by decide +kernel
theorem dX6_tree_37 : decode cX6_tree 37 = .ok (.if_icmp .ne 24, 3) := by decide +kernel
theorem dX6_tree_40 : decode cX6_tree 40 = .ok (.aload_n 0, 1) := by decide +kernel
theorem dX6_tree_41 : decode cX6_tree 41 = .ok (.getfield 105, 3) := by decide +kernel
theorem dX6_tree_44 : decode cX6_tree 44 = .ok (.ifCond .eq 17, 3) := by decide +kernel
theorem dX6_tree_47 : decode cX6_tree 47 = .ok (.aload_n 0, 1) := by decide +kernel
theorem dX6_tree_48 : decode cX6_tree 48 = .ok (.aload_n 0, 1) := by decide +kernel
theorem dX6_tree_49 : decode cX6_tree 49 = .ok (.getfield 105, 3) := by decide +kernel
theorem dX6_tree_52 : decode cX6_tree 52 = .ok (.invokevirtual 129, 3) := by decide +kernel
theorem dX6_tree_55 : decode cX6_tree 55 = .ok (.iinc 1 1, 3) := by decide +kernel
theorem dX6_tree_58 : decode cX6_tree 58 = .ok (.goto (-27), 3) := by decide +kernel
theorem dX6_tree_61 : decode cX6_tree 61 = .ok (.aload_n 0, 1) := by decide +kernel
theorem dX6_tree_62 : decode cX6_tree 62 = .ok (.getfield 111, 3) := by decide +kernel
theorem dX6_tree_65 : decode cX6_tree 65 = .ok (.bipush (-9), 2) := by decide +kernel
theorem dX6_tree_67 : decode cX6_tree 67 = .ok (.if_icmp .eq 11, 3) := by decide +kernel
theorem dX6_tree_70 : decode cX6_tree 70 = .ok (.bipush (-10), 2) := by decide +kernel
theorem dX6_tree_72 : decode cX6_tree 72 = .ok (.aload_n 0, 1) := by decide +kernel
theorem dX6_tree_73 : decode cX6_tree 73 = .ok (.getfield 111, 3) := by decide +kernel
theorem dX6_tree_76 : decode cX6_tree 76 = .ok (.isub, 1) := by decide +kernel
theorem dX6_tree_77 : decode cX6_tree 77 = .ok (.ireturn, 1) := by decide +kernel
theorem dX6_tree_78 : decode cX6_tree 78 = .ok (.aload_n 0, 1) := by decide +kernel
theorem dX6_tree_79 : decode cX6_tree 79 = .ok (.getfield 13, 3) := by decide +kernel
theorem dX6_tree_82 : decode cX6_tree 82 = .ok (.iconst 0, 1) := by decide +kernel
theorem dX6_tree_83 : decode cX6_tree 83 = .ok (.aload_n 0, 1) := by decide +kernel
theorem dX6_tree_84 : decode cX6_tree 84 = .ok (.getfield 13, 3) := by decide +kernel
theorem dX6_tree_87 : decode cX6_tree 87 = .ok (.iconst 1, 1) := by decide +kernel
theorem dX6_tree_88 : decode cX6_tree 88 = .ok (.iaload, 1) := by decide +kernel
theorem dX6_tree_89 : decode cX6_tree 89 = .ok (.iastore, 1) := by decide +kernel
theorem dX6_tree_90 : decode cX6_tree 90 = .ok (.aload_n 0, 1) := by decide +kernel
theorem dX6_tree_91 : decode cX6_tree 91 = .ok (.getfield 20, 3) := by decide +kernel
theorem dX6_tree_94 : decode cX6_tree 94 = .ok (.iconst 0, 1) := by decide +kernel
theorem dX6_tree_95 : decode cX6_tree 95 = .ok (.aload_n 0, 1) := by decide +kernel
theorem dX6_tree_96 : decode cX6_tree 96 = .ok (.getfield 20, 3) := by decide +kernel
theorem dX6_tree_99 : decode cX6_tree 99 = .ok (.iconst 1, 1) := by decide +kernel
theorem dX6_tree_100 : decode cX6_tree 100 = .ok (.iaload, 1) := by decide +kernel
theorem dX6_tree_101 : decode cX6_tree 101 = .ok (.iastore, 1) := by decide +kernel
theorem dX6_tree_102 : decode cX6_tree 102 = .ok (.iconst 0, 1) := by decide +kernel
theorem dX6_tree_103 : decode cX6_tree 103 = .ok (.istore_n 2, 1) := by decide +kernel
theorem dX6_tree_104 : decode cX6_tree 104 = .ok (.iload_n 2, 1) := by decide +kernel
theorem dX6_tree_105 : decode cX6_tree 105 = .ok (.bipush 72, 2) := by decide +kernel
theorem dX6_tree_107 : decode cX6_tree 107 = .ok (.if_icmp .ge 24, 3) := by decide +kernel
theorem dX6_tree_110 : decode cX6_tree 110 = .ok (.aload_n 0, 1) := by decide +kernel
theorem dX6_tree_111 : decode cX6_tree 111 = .ok (.getfield 17, 3) := by decide +kernel
theorem dX6_tree_114 : decode cX6_tree 114 = .ok (.iload_n 2, 1) := by decide +kernel
theorem dX6_tree_115 : decode cX6_tree 115 = .ok (.aload_n 0, 1) := by decide +kernel
theorem dX6_tree_116 : decode cX6_tree 116 = .ok (.getfield 17, 3) := by decide +kernel
theorem dX6_tree_119 : decode cX6_tree 119 = .ok (.bipush 72, 2) := by decide +kernel
theorem dX6_tree_121 : decode cX6_tree 121 = .ok (.iload_n 2, 1) := by decide +kernel
theorem dX6_tree_122 : decode cX6_tree 122 = .ok (.iadd, 1) := by decide +kernel
theorem dX6_tree_123 : decode cX6_tree 123 = .ok (.iaload, 1) := by decide +kernel
theorem dX6_tree_124 : decode cX6_tree 124 = .ok (.iastore, 1) := by decide +kernel
theorem dX6_tree_125 : decode cX6_tree 125 = .ok (.iinc 2 1, 3) := by decide +kernel
theorem dX6_tree_128 : decode cX6_tree 128 = .ok (.goto (-24), 3) := by decide +kernel
theorem dX6_tree_131 : decode cX6_tree 131 = .ok (.iconst 0, 1) := by decide +kernel
theorem dX6_tree_132 : decode cX6_tree 132 = .ok (.istore_n 2, 1) := by decide +kernel
theorem dX6_tree_133 : decode cX6_tree 133 = .ok (.iload_n 2, 1) := by decide +kernel
theorem dX6_tree_134 : decode cX6_tree 134 = .ok (.bipush 9, 2) := by decide +kernel
theorem dX6_tree_136 : decode cX6_tree 136 = .ok (.if_icmp .ge 24, 3) := by decide +kernel
theorem dX6_tree_139 : decode cX6_tree 139 = .ok (.aload_n 0, 1) := by decide +kernel
theorem dX6_tree_140 : decode cX6_tree 140 = .ok (.getfield 23, 3) := by decide +kernel
theorem dX6_tree_143 : decode cX6_tree 143 = .ok (.iload_n 2, 1) := by decide +kernel
theorem dX6_tree_144 : decode cX6_tree 144 = .ok (.aload_n 0, 1) := by decide +kernel
theorem dX6_tree_145 : decode cX6_tree 145 = .ok (.getfield 23, 3) := by decide +kernel
theorem dX6_tree_148 : decode cX6_tree 148 = .ok (.bipush 9, 2) := by decide +kernel
theorem dX6_tree_150 : decode cX6_tree 150 = .ok (.iload_n 2, 1) := by decide +kernel
theorem dX6_tree_151 : decode cX6_tree 151 = .ok (.iadd, 1) := by decide +kernel
theorem dX6_tree_152 : decode cX6_tree 152 = .ok (.iaload, 1) := by decide +kernel
theorem dX6_tree_153 : decode cX6_tree 153 = .ok (.iastore, 1) := by decide +kernel
theorem dX6_tree_154 : decode cX6_tree 154 = .ok (.iinc 2 1, 3) := by decide +kernel
theorem dX6_tree_157 : decode cX6_tree 157 = .ok (.goto (-24), 3) := by decide +kernel
theorem dX6_tree_160 : decode cX6_tree 160 = .ok (.aload_n 0, 1) := by decide +kernel
theorem dX6_tree_161 : decode cX6_tree 161 = .ok (.iconst 0, 1) := by decide +kernel
theorem dX6_tree_162 : decode cX6_tree 162 = .ok (.invokevirtual 133, 3) := by decide +kernel
theorem dX6_tree_165 : decode cX6_tree 165 = .ok (.aload_n 0, 1) := by decide +kernel
theorem dX6_tree_166 : decode cX6_tree 166 = .ok (.getfield 29, 3) := by decide +kernel
theorem dX6_tree_169 : decode cX6_tree 169 = .ok (.iconst 0, 1) := by decide +kernel
theorem dX6_tree_170 : decode cX6_tree 170 = .ok (.iconst 0, 1) := by decide +kernel
theorem dX6_tree_171 : decode cX6_tree 171 = .ok (.iastore, 1) := by decide +kernel
theorem dX6_tree_172 : decode cX6_tree 172 = .ok (.aload_n 0, 1) := by decide +kernel
theorem dX6_tree_173 : decode cX6_tree 173 = .ok (.iconst 0, 1) := by decide +kernel
theorem dX6_tree_174 : decode cX6_tree 174 = .ok (.putfield 136, 3) := by decide +kernel
theorem dX6_tree_177 : decode cX6_tree 177 = .ok (.aload_n 0, 1) := by decide +kernel
theorem dX6_tree_178 : decode cX6_tree 178 = .ok (.getfield 78, 3) := by decide +kernel
theorem dX6_tree_181 : decode cX6_tree 181 = .ok (.iconst 0, 1) := by decide +kernel
theorem dX6_tree_182 : decode cX6_tree 182 = .ok (.iconst 0, 1) := by decide +kernel
theorem dX6_tree_183 : decode cX6_tree 183 = .ok (.bastore, 1) := by decide +kernel
theorem dX6_tree_184 : decode cX6_tree 184 = .ok (.aload_n 0, 1) := by decide +kernel
theorem dX6_tree_185 : decode cX6_tree 185 = .ok (.getfield 78, 3) := by decide +kernel
theorem dX6_tree_188 : decode cX6_tree 188 = .ok (.iconst 1, 1) := by decide +kernel
theorem dX6_tree_189 : decode cX6_tree 189 = .ok (.iconst 0, 1) := by decide +kernel
theorem dX6_tree_190 : decode cX6_tree 190 = .ok (.bastore, 1) := by decide +kernel
theorem dX6_tree_191 : decode cX6_tree 191 = .ok (.aload_n 0, 1) := by decide +kernel
theorem dX6_tree_192 : decode cX6_tree 192 = .ok (.iconst 0, 1) := by decide +kernel
theorem dX6_tree_193 : decode cX6_tree 193 = .ok (.putfield 86, 3) := by decide +kernel
theorem dX6_tree_196 : decode cX6_tree 196 = .ok (.iload_n 1, 1) := by decide +kernel
theorem dX6_tree_197 : decode cX6_tree 197 = .ok (.ireturn, 1) := by decide +kernel
theorem dX6_isBranch_0 : decode cX6_isBranch 0 = .ok (.iload_n 1, 1) := by decide +kernel
theorem dX6_isBranch_1 : decode cX6_isBranch 1 = .ok (.iconst 0, 1) := by decide +kernel
theorem dX6_isBranch_2 : decode cX6_isBranch 2 = .ok (.aload_n 0, 1) := by decide +kernel
theorem dX6_isBranch_3 : decode cX6_isBranch 3 = .ok (.getfield 13, 3) := by decide +kernel
theorem dX6_isBranch_6 : decode cX6_isBranch 6 = .ok (.iconst 0, 1) := by decide +kernel
theorem dX6_isBranch_7 : decode cX6_isBranch 7 = .ok (.iaload, 1) := by decide +kernel
theorem dX6_isBranch_8 : decode cX6_isBranch 8 = .ok (.iconst 1, 1) := by decide +kernel
theorem dX6_isBranch_9 : decode cX6_isBranch 9 = .ok (.isub, 1) := by decide +kernel
theorem dX6_isBranch_10 : decode cX6_isBranch 10 = .ok (.invokestatic 82, 3) := by decide +kernel
theorem dX6_isBranch_13 : decode cX6_isBranch 13 = .ok (.ireturn, 1) := by decide +kernel
theorem dX6_isBody_0 : decode cX6_isBody 0 = .ok (.iload_n 1, 1) := by decide +kernel
theorem dX6_isBody_1 : decode cX6_isBody 1 = .ok (.iconst 0, 1) := by decide +kernel
theorem dX6_isBody_2 : decode cX6_isBody 2 = .ok (.aload_n 0, 1) := by decide +kernel
theorem dX6_isBody_3 : decode cX6_isBody 3 = .ok (.getfield 20, 3) := by decide +kernel
theorem dX6_isBody_6 : decode cX6_isBody 6 = .ok (.iconst 0, 1) := by decide +kernel
theorem dX6_isBody_7 : decode cX6_isBody 7 = .ok (.iaload, 1) := by decide +kernel
theorem dX6_isBody_8 : decode cX6_isBody 8 = .ok (.iconst 1, 1) := by decide +kernel
theorem dX6_isBody_9 : decode cX6_isBody 9 = .ok (.isub, 1) := by decide +kernel
theorem dX6_isBody_10 : decode cX6_isBody 10 = .ok (.invokestatic 82, 3) := by decide +kernel
theorem dX6_isBody_13 : decode cX6_isBody 13 = .ok (.ireturn, 1) := by decide +kernel
theorem dX6_isPlace_0 : decode cX6_isPlace 0 = .ok (.iload_n 1, 1) := by decide +kernel
theorem dX6_isPlace_1 : decode cX6_isPlace 1 = .ok (.iconst (-1), 1) := by decide +kernel
theorem dX6_isPlace_2 : decode cX6_isPlace 2 = .ok (.if_icmp .eq 11, 3) := by decide +kernel
theorem dX6_isPlace_5 : decode cX6_isPlace 5 = .ok (.aload_n 0, 1) := by decide +kernel
theorem dX6_isPlace_6 : decode cX6_isPlace 6 = .ok (.iload_n 1, 1) := by decide +kernel
theorem dX6_isPlace_7 : decode cX6_isPlace 7 = .ok (.invokevirtual 139, 3) := by decide +kernel
theorem dX6_isPlace_10 : decode cX6_isPlace 10 = .ok (.ifCond .eq 7, 3) := by decide +kernel
theorem dX6_isPlace_13 : decode cX6_isPlace 13 = .ok (.iconst 1, 1) := by decide +kernel
theorem dX6_isPlace_14 : decode cX6_isPlace 14 = .ok (.goto 4, 3) := by decide +kernel
theorem dX6_isPlace_17 : decode cX6_isPlace 17 = .ok (.iconst 0, 1) := by decide +kernel
theorem dX6_isPlace_18 : decode cX6_isPlace 18 = .ok (.ireturn, 1) := by decide +kernel
theorem dX6_of_0 : decode cX6_of 0 = .ok (.aload_n 0, 1) := by decide +kernel
theorem dX6_of_1 : decode cX6_of 1 = .ok (.getfield 17, 3) := by decide +kernel
theorem dX6_of_4 : decode cX6_of 4 = .ok (.bipush 6, 2) := by decide +kernel
theorem dX6_of_6 : decode cX6_of 6 = .ok (.iload_n 1, 1) := by decide +kernel
theorem dX6_of_7 : decode cX6_of 7 = .ok (.imul, 1) := by decide +kernel
theorem dX6_of_8 : decode cX6_of 8 = .ok (.iload_n 2, 1) := by decide +kernel
theorem dX6_of_9 : decode cX6_of 9 = .ok (.iadd, 1) := by decide +kernel
theorem dX6_of_10 : decode cX6_of 10 = .ok (.iaload, 1) := by decide +kernel
theorem dX6_of_11 : decode cX6_of 11 = .ok (.ireturn, 1) := by decide +kernel
theorem dX6_bodyOf_0 : decode cX6_bodyOf 0 = .ok (.aload_n 0, 1) := by decide +kernel
theorem dX6_bodyOf_1 : decode cX6_bodyOf 1 = .ok (.getfield 23, 3) := by decide +kernel
theorem dX6_bodyOf_4 : decode cX6_bodyOf 4 = .ok (.iconst 3, 1) := by decide +kernel
theorem dX6_bodyOf_5 : decode cX6_bodyOf 5 = .ok (.iload_n 1, 1) := by decide +kernel
theorem dX6_bodyOf_6 : decode cX6_bodyOf 6 = .ok (.imul, 1) := by decide +kernel
theorem dX6_bodyOf_7 : decode cX6_bodyOf 7 = .ok (.iload_n 2, 1) := by decide +kernel
theorem dX6_bodyOf_8 : decode cX6_bodyOf 8 = .ok (.iadd, 1) := by decide +kernel
theorem dX6_bodyOf_9 : decode cX6_bodyOf 9 = .ok (.iaload, 1) := by decide +kernel
theorem dX6_bodyOf_10 : decode cX6_bodyOf 10 = .ok (.ireturn, 1) := by decide +kernel
theorem dX6_isSawn_0 : decode cX6_isSawn 0 = .ok (.iload_n 1, 1) := by decide +kernel
theorem dX6_isSawn_1 : decode cX6_isSawn 1 = .ok (.bipush 12, 2) := by decide +kernel
theorem dX6_isSawn_3 : decode cX6_isSawn 3 = .ok (.if_icmp .ge 21, 3) := by decide +kernel
theorem dX6_isSawn_6 : decode cX6_isSawn 6 = .ok (.aload_n 0, 1) := by decide +kernel
theorem dX6_isSawn_7 : decode cX6_isSawn 7 = .ok (.getfield 29, 3) := by decide +kernel
theorem dX6_isSawn_10 : decode cX6_isSawn 10 = .ok (.iconst 0, 1) := by decide +kernel
theorem dX6_isSawn_11 : decode cX6_isSawn 11 = .ok (.iaload, 1) := by decide +kernel
theorem dX6_isSawn_12 : decode cX6_isSawn 12 = .ok (.iload_n 1, 1) := by decide +kernel
theorem dX6_isSawn_13 : decode cX6_isSawn 13 = .ok (.ishr, 1) := by decide +kernel
theorem dX6_isSawn_14 : decode cX6_isSawn 14 = .ok (.iconst 1, 1) := by decide +kernel
theorem dX6_isSawn_15 : decode cX6_isSawn 15 = .ok (.iand, 1) := by decide +kernel
theorem dX6_isSawn_16 : decode cX6_isSawn 16 = .ok (.iconst 1, 1) := by decide +kernel
theorem dX6_isSawn_17 : decode cX6_isSawn 17 = .ok (.if_icmp .ne 7, 3) := by decide +kernel
theorem dX6_isSawn_20 : decode cX6_isSawn 20 = .ok (.iconst 1, 1) := by decide +kernel
theorem dX6_isSawn_21 : decode cX6_isSawn 21 = .ok (.goto 4, 3) := by decide +kernel
theorem dX6_isSawn_24 : decode cX6_isSawn 24 = .ok (.iconst 0, 1) := by decide +kernel
theorem dX6_isSawn_25 : decode cX6_isSawn 25 = .ok (.ireturn, 1) := by decide +kernel
theorem dX6_branch_0 : decode cX6_branch 0 = .ok (.aload_n 0, 1) := by decide +kernel
theorem dX6_branch_1 : decode cX6_branch 1 = .ok (.iload_n 1, 1) := by decide +kernel
theorem dX6_branch_2 : decode cX6_branch 2 = .ok (.invokevirtual 139, 3) := by decide +kernel
theorem dX6_branch_5 : decode cX6_branch 5 = .ok (.ifCond .eq 44, 3) := by decide +kernel
theorem dX6_branch_8 : decode cX6_branch 8 = .ok (.iload_n 2, 1) := by decide +kernel
theorem dX6_branch_9 : decode cX6_branch 9 = .ok (.iconst 0, 1) := by decide +kernel
theorem dX6_branch_10 : decode cX6_branch 10 = .ok (.bipush 6, 2) := by decide +kernel
theorem dX6_branch_12 : decode cX6_branch 12 = .ok (.invokestatic 82, 3) := by decide +kernel
theorem dX6_branch_15 : decode cX6_branch 15 = .ok (.ifCond .eq 34, 3) := by decide +kernel
theorem dX6_branch_18 : decode cX6_branch 18 = .ok (.iload_n 2, 1) := by decide +kernel
theorem dX6_branch_19 : decode cX6_branch 19 = .ok (.bipush 6, 2) := by decide +kernel
theorem dX6_branch_21 : decode cX6_branch 21 = .ok (.if_icmp .ne 19, 3) := by decide +kernel
theorem dX6_branch_24 : decode cX6_branch 24 = .ok (.aload_n 0, 1) := by decide +kernel
theorem dX6_branch_25 : decode cX6_branch 25 = .ok (.iload_n 1, 1) := by decide +kernel
theorem dX6_branch_26 : decode cX6_branch 26 = .ok (.invokevirtual 143, 3) := by decide +kernel
theorem dX6_branch_29 : decode cX6_branch 29 = .ok (.ifCond .eq 7, 3) := by decide +kernel
theorem dX6_branch_32 : decode cX6_branch 32 = .ok (.iconst 1, 1) := by decide +kernel
theorem dX6_branch_33 : decode cX6_branch 33 = .ok (.goto 17, 3) := by decide +kernel
theorem dX6_branch_36 : decode cX6_branch 36 = .ok (.iconst 0, 1) := by decide +kernel
theorem dX6_branch_37 : decode cX6_branch 37 = .ok (.goto 13, 3) := by decide +kernel
theorem dX6_branch_40 : decode cX6_branch 40 = .ok (.aload_n 0, 1) := by decide +kernel
theorem dX6_branch_41 : decode cX6_branch 41 = .ok (.iload_n 1, 1) := by decide +kernel
theorem dX6_branch_42 : decode cX6_branch 42 = .ok (.iload_n 2, 1) := by decide +kernel
theorem dX6_branch_43 : decode cX6_branch 43 = .ok (.invokevirtual 146, 3) := by decide +kernel
theorem dX6_branch_46 : decode cX6_branch 46 = .ok (.goto 4, 3) := by decide +kernel
theorem dX6_branch_49 : decode cX6_branch 49 = .ok (.iconst (-1), 1) := by decide +kernel
theorem dX6_branch_50 : decode cX6_branch 50 = .ok (.ireturn, 1) := by decide +kernel
theorem dX6_body_0 : decode cX6_body 0 = .ok (.aload_n 0, 1) := by decide +kernel
theorem dX6_body_1 : decode cX6_body 1 = .ok (.iload_n 1, 1) := by decide +kernel
theorem dX6_body_2 : decode cX6_body 2 = .ok (.invokevirtual 149, 3) := by decide +kernel
theorem dX6_body_5 : decode cX6_body 5 = .ok (.ifCond .eq 21, 3) := by decide +kernel
theorem dX6_body_8 : decode cX6_body 8 = .ok (.iload_n 2, 1) := by decide +kernel
theorem dX6_body_9 : decode cX6_body 9 = .ok (.iconst 0, 1) := by decide +kernel
theorem dX6_body_10 : decode cX6_body 10 = .ok (.iconst 2, 1) := by decide +kernel
theorem dX6_body_11 : decode cX6_body 11 = .ok (.invokestatic 82, 3) := by decide +kernel
theorem dX6_body_14 : decode cX6_body 14 = .ok (.ifCond .eq 12, 3) := by decide +kernel
theorem dX6_body_17 : decode cX6_body 17 = .ok (.aload_n 0, 1) := by decide +kernel
theorem dX6_body_18 : decode cX6_body 18 = .ok (.iload_n 1, 1) := by decide +kernel
theorem dX6_body_19 : decode cX6_body 19 = .ok (.iload_n 2, 1) := by decide +kernel
theorem dX6_body_20 : decode cX6_body 20 = .ok (.invokevirtual 152, 3) := by decide +kernel
theorem dX6_body_23 : decode cX6_body 23 = .ok (.goto 4, 3) := by decide +kernel
theorem dX6_body_26 : decode cX6_body 26 = .ok (.iconst (-1), 1) := by decide +kernel
theorem dX6_body_27 : decode cX6_body 27 = .ok (.ireturn, 1) := by decide +kernel
theorem dX6_highOf_0 : decode cX6_highOf 0 = .ok (.iload_n 0, 1) := by decide +kernel
theorem dX6_highOf_1 : decode cX6_highOf 1 = .ok (.ifCond .eq 13, 3) := by decide +kernel
theorem dX6_highOf_4 : decode cX6_highOf 4 = .ok (.iload_n 0, 1) := by decide +kernel
theorem dX6_highOf_5 : decode cX6_highOf 5 = .ok (.iconst 2, 1) := by decide +kernel
theorem dX6_highOf_6 : decode cX6_highOf 6 = .ok (.if_icmp .eq 8, 3) := by decide +kernel
theorem dX6_highOf_9 : decode cX6_highOf 9 = .ok (.iload_n 0, 1) := by decide +kernel
theorem dX6_highOf_10 : decode cX6_highOf 10 = .ok (.iconst 4, 1) := by decide +kernel
theorem dX6_highOf_11 : decode cX6_highOf 11 = .ok (.if_icmp .ne 8, 3) := by decide +kernel
theorem dX6_highOf_14 : decode cX6_highOf 14 = .ok (.bipush 9, 2) := by decide +kernel
theorem dX6_highOf_16 : decode cX6_highOf 16 = .ok (.goto 24, 3) := by decide +kernel
theorem dX6_highOf_19 : decode cX6_highOf 19 = .ok (.iload_n 0, 1) := by decide +kernel
theorem dX6_highOf_20 : decode cX6_highOf 20 = .ok (.iconst 1, 1) := by decide +kernel
theorem dX6_highOf_21 : decode cX6_highOf 21 = .ok (.if_icmp .ne 7, 3) := by decide +kernel
theorem dX6_highOf_24 : decode cX6_highOf 24 = .ok (.iconst 4, 1) := by decide +kernel
theorem dX6_highOf_25 : decode cX6_highOf 25 = .ok (.goto 15, 3) := by decide +kernel
theorem dX6_highOf_28 : decode cX6_highOf 28 = .ok (.iload_n 0, 1) := by decide +kernel
theorem dX6_highOf_29 : decode cX6_highOf 29 = .ok (.iconst 3, 1) := by decide +kernel
theorem dX6_highOf_30 : decode cX6_highOf 30 = .ok (.if_icmp .ne 8, 3) := by decide +kernel
theorem dX6_highOf_33 : decode cX6_highOf 33 = .ok (.bipush 10, 2) := by decide +kernel
theorem dX6_highOf_35 : decode cX6_highOf 35 = .ok (.goto 5, 3) := by decide +kernel
theorem dX6_highOf_38 : decode cX6_highOf 38 = .ok (.bipush 20, 2) := by decide +kernel
theorem dX6_highOf_40 : decode cX6_highOf 40 = .ok (.ireturn, 1) := by decide +kernel
theorem dX6_tune_0 : decode cX6_tune 0 = .ok (.iload_n 1, 1) := by decide +kernel
theorem dX6_tune_1 : decode cX6_tune 1 = .ok (.iconst 0, 1) := by decide +kernel
theorem dX6_tune_2 : decode cX6_tune 2 = .ok (.iconst 5, 1) := by decide +kernel
theorem dX6_tune_3 : decode cX6_tune 3 = .ok (.invokestatic 82, 3) := by decide +kernel
theorem dX6_tune_6 : decode cX6_tune 6 = .ok (.ifCond .eq 28, 3) := by decide +kernel
theorem dX6_tune_9 : decode cX6_tune 9 = .ok (.iload_n 2, 1) := by decide +kernel
theorem dX6_tune_10 : decode cX6_tune 10 = .ok (.iload_n 1, 1) := by decide +kernel
theorem dX6_tune_11 : decode cX6_tune 11 = .ok (.ifCond .eq 8, 3) := by decide +kernel
theorem dX6_tune_14 : decode cX6_tune 14 = .ok (.iload_n 1, 1) := by decide +kernel
theorem dX6_tune_15 : decode cX6_tune 15 = .ok (.iconst 4, 1) := by decide +kernel
theorem dX6_tune_16 : decode cX6_tune 16 = .ok (.if_icmp .ne 7, 3) := by decide +kernel
theorem dX6_tune_19 : decode cX6_tune 19 = .ok (.iconst 1, 1) := by decide +kernel
theorem dX6_tune_20 : decode cX6_tune 20 = .ok (.goto 4, 3) := by decide +kernel
theorem dX6_tune_23 : decode cX6_tune 23 = .ok (.iconst 0, 1) := by decide +kernel
theorem dX6_tune_24 : decode cX6_tune 24 = .ok (.iload_n 1, 1) := by decide +kernel
theorem dX6_tune_25 : decode cX6_tune 25 = .ok (.invokestatic 155, 3) := by decide +kernel
theorem dX6_tune_28 : decode cX6_tune 28 = .ok (.invokestatic 82, 3) := by decide +kernel
theorem dX6_tune_31 : decode cX6_tune 31 = .ok (.ifCond .ne 5, 3) := by decide +kernel
theorem dX6_tune_34 : decode cX6_tune 34 = .ok (.iconst (-1), 1) := by decide +kernel
theorem dX6_tune_35 : decode cX6_tune 35 = .ok (.ireturn, 1) := by decide +kernel
theorem dX6_tune_36 : decode cX6_tune 36 = .ok (.aload_n 0, 1) := by decide +kernel
theorem dX6_tune_37 : decode cX6_tune 37 = .ok (.getfield 26, 3) := by decide +kernel
theorem dX6_tune_40 : decode cX6_tune 40 = .ok (.iload_n 1, 1) := by decide +kernel
theorem dX6_tune_41 : decode cX6_tune 41 = .ok (.iaload, 1) := by decide +kernel
theorem dX6_tune_42 : decode cX6_tune 42 = .ok (.istore_n 3, 1) := by decide +kernel
theorem dX6_tune_43 : decode cX6_tune 43 = .ok (.aload_n 0, 1) := by decide +kernel
theorem dX6_tune_44 : decode cX6_tune 44 = .ok (.getfield 26, 3) := by decide +kernel
theorem dX6_tune_47 : decode cX6_tune 47 = .ok (.iload_n 1, 1) := by decide +kernel
theorem dX6_tune_48 : decode cX6_tune 48 = .ok (.iload_n 2, 1) := by decide +kernel
theorem dX6_tune_49 : decode cX6_tune 49 = .ok (.iastore, 1) := by decide +kernel
theorem dX6_tune_50 : decode cX6_tune 50 = .ok (.iload_n 3, 1) := by decide +kernel
theorem dX6_tune_51 : decode cX6_tune 51 = .ok (.ireturn, 1) := by decide +kernel
theorem dX6_sawn_0 : decode cX6_sawn 0 = .ok (.aload_n 0, 1) := by decide +kernel
theorem dX6_sawn_1 : decode cX6_sawn 1 = .ok (.getfield 29, 3) := by decide +kernel
theorem dX6_sawn_4 : decode cX6_sawn 4 = .ok (.iconst 0, 1) := by decide +kernel
theorem dX6_sawn_5 : decode cX6_sawn 5 = .ok (.iaload, 1) := by decide +kernel
theorem dX6_sawn_6 : decode cX6_sawn 6 = .ok (.istore_n 2, 1) := by decide +kernel
theorem dX6_sawn_7 : decode cX6_sawn 7 = .ok (.aload_n 0, 1) := by decide +kernel
theorem dX6_sawn_8 : decode cX6_sawn 8 = .ok (.getfield 29, 3) := by decide +kernel
theorem dX6_sawn_11 : decode cX6_sawn 11 = .ok (.iconst 0, 1) := by decide +kernel
theorem dX6_sawn_12 : decode cX6_sawn 12 = .ok (.iload_n 1, 1) := by decide +kernel
theorem dX6_sawn_13 : decode cX6_sawn 13 = .ok (.iconst 1, 1) := by decide +kernel
theorem dX6_sawn_14 : decode cX6_sawn 14 = .ok (.aload_n 0, 1) := by decide +kernel
theorem dX6_sawn_15 : decode cX6_sawn 15 = .ok (.getfield 13, 3) := by decide +kernel
theorem dX6_sawn_18 : decode cX6_sawn 18 = .ok (.iconst 0, 1) := by decide +kernel
theorem dX6_sawn_19 : decode cX6_sawn 19 = .ok (.iaload, 1) := by decide +kernel
theorem dX6_sawn_20 : decode cX6_sawn 20 = .ok (.ishl, 1) := by decide +kernel
theorem dX6_sawn_21 : decode cX6_sawn 21 = .ok (.iconst 1, 1) := by decide +kernel
theorem dX6_sawn_22 : decode cX6_sawn 22 = .ok (.isub, 1) := by decide +kernel
theorem dX6_sawn_23 : decode cX6_sawn 23 = .ok (.iand, 1) := by decide +kernel
theorem dX6_sawn_24 : decode cX6_sawn 24 = .ok (.iastore, 1) := by decide +kernel
theorem dX6_sawn_25 : decode cX6_sawn 25 = .ok (.iload_n 2, 1) := by decide +kernel
theorem dX6_sawn_26 : decode cX6_sawn 26 = .ok (.ireturn, 1) := by decide +kernel
theorem dX6_heightOf_0 : decode cX6_heightOf 0 = .ok (.iload_n 1, 1) := by decide +kernel
theorem dX6_heightOf_1 : decode cX6_heightOf 1 = .ok (.bipush 12, 2) := by decide +kernel
theorem dX6_heightOf_3 : decode cX6_heightOf 3 = .ok (.if_icmp .ne 7, 3) := by decide +kernel
theorem dX6_heightOf_6 : decode cX6_heightOf 6 = .ok (.iconst 0, 1) := by decide +kernel
theorem dX6_heightOf_7 : decode cX6_heightOf 7 = .ok (.goto 9, 3) := by decide +kernel
theorem dX6_heightOf_10 : decode cX6_heightOf 10 = .ok (.aload_n 0, 1) := by decide +kernel
theorem dX6_heightOf_11 : decode cX6_heightOf 11 = .ok (.iload_n 1, 1) := by decide +kernel
theorem dX6_heightOf_12 : decode cX6_heightOf 12 = .ok (.iconst 0, 1) := by decide +kernel
theorem dX6_heightOf_13 : decode cX6_heightOf 13 = .ok (.invokevirtual 146, 3) := by decide +kernel
theorem dX6_heightOf_16 : decode cX6_heightOf 16 = .ok (.ireturn, 1) := by decide +kernel
theorem dX6_apart_0 : decode cX6_apart 0 = .ok (.iload_n 1, 1) := by decide +kernel
theorem dX6_apart_1 : decode cX6_apart 1 = .ok (.bipush 12, 2) := by decide +kernel
theorem dX6_apart_3 : decode cX6_apart 3 = .ok (.if_icmp .eq 9, 3) := by decide +kernel
theorem dX6_apart_6 : decode cX6_apart 6 = .ok (.iload_n 2, 1) := by decide +kernel
theorem dX6_apart_7 : decode cX6_apart 7 = .ok (.bipush 12, 2) := by decide +kernel
theorem dX6_apart_9 : decode cX6_apart 9 = .ok (.if_icmp .ne 5, 3) := by decide +kernel
theorem dX6_apart_12 : decode cX6_apart 12 = .ok (.iconst 0, 1) := by decide +kernel
theorem dX6_apart_13 : decode cX6_apart 13 = .ok (.ireturn, 1) := by decide +kernel
theorem dX6_apart_14 : decode cX6_apart 14 = .ok (.aload_n 0, 1) := by decide +kernel
theorem dX6_apart_15 : decode cX6_apart 15 = .ok (.iload_n 1, 1) := by decide +kernel
theorem dX6_apart_16 : decode cX6_apart 16 = .ok (.iconst 1, 1) := by decide +kernel
theorem dX6_apart_17 : decode cX6_apart 17 = .ok (.invokevirtual 146, 3) := by decide +kernel
theorem dX6_apart_20 : decode cX6_apart 20 = .ok (.aload_n 0, 1) := by decide +kernel
theorem dX6_apart_21 : decode cX6_apart 21 = .ok (.iload_n 2, 1) := by decide +kernel
theorem dX6_apart_22 : decode cX6_apart 22 = .ok (.iconst 1, 1) := by decide +kernel
theorem dX6_apart_23 : decode cX6_apart 23 = .ok (.invokevirtual 146, 3) := by decide +kernel
theorem dX6_apart_26 : decode cX6_apart 26 = .ok (.isub, 1) := by decide +kernel
theorem dX6_apart_27 : decode cX6_apart 27 = .ok (.istore_n 3, 1) := by decide +kernel
theorem dX6_apart_28 : decode cX6_apart 28 = .ok (.iload_n 3, 1) := by decide +kernel
theorem dX6_apart_29 : decode cX6_apart 29 = .ok (.ifCond .ge 8, 3) := by decide +kernel
theorem dX6_apart_32 : decode cX6_apart 32 = .ok (.iload_n 3, 1) := by decide +kernel
theorem dX6_apart_33 : decode cX6_apart 33 = .ok (.ineg, 1) := by decide +kernel
theorem dX6_apart_34 : decode cX6_apart 34 = .ok (.goto 4, 3) := by decide +kernel
theorem dX6_apart_37 : decode cX6_apart 37 = .ok (.iload_n 3, 1) := by decide +kernel
theorem dX6_apart_38 : decode cX6_apart 38 = .ok (.istore_n 3, 1) := by decide +kernel
theorem dX6_apart_39 : decode cX6_apart 39 = .ok (.iload_n 3, 1) := by decide +kernel
theorem dX6_apart_40 : decode cX6_apart 40 = .ok (.iconst 4, 1) := by decide +kernel
theorem dX6_apart_41 : decode cX6_apart 41 = .ok (.if_icmp .le 10, 3) := by decide +kernel
theorem dX6_apart_44 : decode cX6_apart 44 = .ok (.bipush 8, 2) := by decide +kernel
theorem dX6_apart_46 : decode cX6_apart 46 = .ok (.iload_n 3, 1) := by decide +kernel
theorem dX6_apart_47 : decode cX6_apart 47 = .ok (.isub, 1) := by decide +kernel
theorem dX6_apart_48 : decode cX6_apart 48 = .ok (.goto 4, 3) := by decide +kernel
theorem dX6_apart_51 : decode cX6_apart 51 = .ok (.iload_n 3, 1) := by decide +kernel
theorem dX6_apart_52 : decode cX6_apart 52 = .ok (.ireturn, 1) := by decide +kernel
theorem dX6_look_0 : decode cX6_look 0 = .ok (.aload_n 0, 1) := by decide +kernel
theorem dX6_look_1 : decode cX6_look 1 = .ok (.aload_n 0, 1) := by decide +kernel
theorem dX6_look_2 : decode cX6_look 2 = .ok (.iload_n 1, 1) := by decide +kernel
theorem dX6_look_3 : decode cX6_look 3 = .ok (.iconst 0, 1) := by decide +kernel
theorem dX6_look_4 : decode cX6_look 4 = .ok (.invokevirtual 152, 3) := by decide +kernel
theorem dX6_look_7 : decode cX6_look 7 = .ok (.putfield 158, 3) := by decide +kernel
theorem dX6_look_10 : decode cX6_look 10 = .ok (.aload_n 0, 1) := by decide +kernel
theorem dX6_look_11 : decode cX6_look 11 = .ok (.aload_n 0, 1) := by decide +kernel
theorem dX6_look_12 : decode cX6_look 12 = .ok (.iload_n 1, 1) := by decide +kernel
theorem dX6_look_13 : decode cX6_look 13 = .ok (.iconst 1, 1) := by decide +kernel
theorem dX6_look_14 : decode cX6_look 14 = .ok (.invokevirtual 152, 3) := by decide +kernel
theorem dX6_look_17 : decode cX6_look 17 = .ok (.putfield 161, 3) := by decide +kernel
theorem dX6_look_20 : decode cX6_look 20 = .ok (.aload_n 0, 1) := by decide +kernel
theorem dX6_look_21 : decode cX6_look 21 = .ok (.aload_n 0, 1) := by decide +kernel
theorem dX6_look_22 : decode cX6_look 22 = .ok (.iload_n 1, 1) := by decide +kernel
theorem dX6_look_23 : decode cX6_look 23 = .ok (.iconst 2, 1) := by decide +kernel
theorem dX6_look_24 : decode cX6_look 24 = .ok (.invokevirtual 152, 3) := by decide +kernel
theorem dX6_look_27 : decode cX6_look 27 = .ok (.putfield 164, 3) := by decide +kernel
theorem dX6_look_30 : decode cX6_look 30 = .ok (.aload_n 0, 1) := by decide +kernel
theorem dX6_look_31 : decode cX6_look 31 = .ok (.aload_n 0, 1) := by decide +kernel
theorem dX6_look_32 : decode cX6_look 32 = .ok (.getfield 26, 3) := by decide +kernel
theorem dX6_look_35 : decode cX6_look 35 = .ok (.iconst 5, 1) := by decide +kernel
theorem dX6_look_36 : decode cX6_look 36 = .ok (.iaload, 1) := by decide +kernel
theorem dX6_look_37 : decode cX6_look 37 = .ok (.putfield 167, 3) := by decide +kernel
theorem dX6_look_40 : decode cX6_look 40 = .ok (.return_, 1) := by decide +kernel
theorem dX6_mayStep_0 : decode cX6_mayStep 0 = .ok (.iload_n 1, 1) := by decide +kernel
theorem dX6_mayStep_1 : decode cX6_mayStep 1 = .ok (.iload_n 2, 1) := by decide +kernel
theorem dX6_mayStep_2 : decode cX6_mayStep 2 = .ok (.if_icmp .eq 34, 3) := by decide +kernel
theorem dX6_mayStep_5 : decode cX6_mayStep 5 = .ok (.aload_n 0, 1) := by decide +kernel
theorem dX6_mayStep_6 : decode cX6_mayStep 6 = .ok (.iload_n 1, 1) := by decide +kernel
theorem dX6_mayStep_7 : decode cX6_mayStep 7 = .ok (.invokevirtual 143, 3) := by decide +kernel
theorem dX6_mayStep_10 : decode cX6_mayStep 10 = .ok (.ifCond .ne 26, 3) := by decide +kernel
theorem dX6_mayStep_13 : decode cX6_mayStep 13 = .ok (.aload_n 0, 1) := by decide +kernel
theorem dX6_mayStep_14 : decode cX6_mayStep 14 = .ok (.iload_n 2, 1) := by decide +kernel
theorem dX6_mayStep_15 : decode cX6_mayStep 15 = .ok (.invokevirtual 143, 3) := by decide +kernel
theorem dX6_mayStep_18 : decode cX6_mayStep 18 = .ok (.ifCond .ne 18, 3) := by decide +kernel
theorem dX6_mayStep_21 : decode cX6_mayStep 21 = .ok (.aload_n 0, 1) := by decide +kernel
theorem dX6_mayStep_22 : decode cX6_mayStep 22 = .ok (.iload_n 1, 1) := by decide +kernel
theorem dX6_mayStep_23 : decode cX6_mayStep 23 = .ok (.iload_n 2, 1) := by decide +kernel
theorem dX6_mayStep_24 : decode cX6_mayStep 24 = .ok (.invokevirtual 170, 3) := by decide +kernel
theorem dX6_mayStep_27 : decode cX6_mayStep 27 = .ok (.aload_n 0, 1) := by decide +kernel
theorem dX6_mayStep_28 : decode cX6_mayStep 28 = .ok (.getfield 26, 3) := by decide +kernel
theorem dX6_mayStep_31 : decode cX6_mayStep 31 = .ok (.iconst 1, 1) := by decide +kernel
theorem dX6_mayStep_32 : decode cX6_mayStep 32 = .ok (.iaload, 1) := by decide +kernel
theorem dX6_mayStep_33 : decode cX6_mayStep 33 = .ok (.if_icmp .le 5, 3) := by decide +kernel
theorem dX6_mayStep_36 : decode cX6_mayStep 36 = .ok (.iconst 0, 1) := by decide +kernel
theorem dX6_mayStep_37 : decode cX6_mayStep 37 = .ok (.ireturn, 1) := by decide +kernel
theorem dX6_mayStep_38 : decode cX6_mayStep 38 = .ok (.iload_n 2, 1) := by decide +kernel
theorem dX6_mayStep_39 : decode cX6_mayStep 39 = .ok (.bipush 12, 2) := by decide +kernel
theorem dX6_mayStep_41 : decode cX6_mayStep 41 = .ok (.if_icmp .eq 25, 3) := by decide +kernel
theorem dX6_mayStep_44 : decode cX6_mayStep 44 = .ok (.aload_n 0, 1) := by decide +kernel
theorem dX6_mayStep_45 : decode cX6_mayStep 45 = .ok (.getfield 161, 3) := by decide +kernel
theorem dX6_mayStep_48 : decode cX6_mayStep 48 = .ok (.aload_n 0, 1) := by decide +kernel
theorem dX6_mayStep_49 : decode cX6_mayStep 49 = .ok (.iload_n 2, 1) := by decide +kernel
theorem dX6_mayStep_50 : decode cX6_mayStep 50 = .ok (.iconst 2, 1) := by decide +kernel
theorem dX6_mayStep_51 : decode cX6_mayStep 51 = .ok (.invokevirtual 146, 3) := by decide +kernel
theorem dX6_mayStep_54 : decode cX6_mayStep 54 = .ok (.aload_n 0, 1) := by decide +kernel
theorem dX6_mayStep_55 : decode cX6_mayStep 55 = .ok (.getfield 26, 3) := by decide +kernel
theorem dX6_mayStep_58 : decode cX6_mayStep 58 = .ok (.iconst 0, 1) := by decide +kernel
theorem dX6_mayStep_59 : decode cX6_mayStep 59 = .ok (.iaload, 1) := by decide +kernel
theorem dX6_mayStep_60 : decode cX6_mayStep 60 = .ok (.imul, 1) := by decide +kernel
theorem dX6_mayStep_61 : decode cX6_mayStep 61 = .ok (.if_icmp .le 5, 3) := by decide +kernel
theorem dX6_mayStep_64 : decode cX6_mayStep 64 = .ok (.iconst 0, 1) := by decide +kernel
theorem dX6_mayStep_65 : decode cX6_mayStep 65 = .ok (.ireturn, 1) := by decide +kernel
theorem dX6_mayStep_66 : decode cX6_mayStep 66 = .ok (.aload_n 0, 1) := by decide +kernel
theorem dX6_mayStep_67 : decode cX6_mayStep 67 = .ok (.iload_n 2, 1) := by decide +kernel
theorem dX6_mayStep_68 : decode cX6_mayStep 68 = .ok (.invokevirtual 173, 3) := by decide +kernel
theorem dX6_mayStep_71 : decode cX6_mayStep 71 = .ok (.aload_n 0, 1) := by decide +kernel
theorem dX6_mayStep_72 : decode cX6_mayStep 72 = .ok (.iload_n 1, 1) := by decide +kernel
theorem dX6_mayStep_73 : decode cX6_mayStep 73 = .ok (.invokevirtual 173, 3) := by decide +kernel
theorem dX6_mayStep_76 : decode cX6_mayStep 76 = .ok (.isub, 1) := by decide +kernel
theorem dX6_mayStep_77 : decode cX6_mayStep 77 = .ok (.istore_n 3, 1) := by decide +kernel
theorem dX6_mayStep_78 : decode cX6_mayStep 78 = .ok (.iload_n 3, 1) := by decide +kernel
theorem dX6_mayStep_79 : decode cX6_mayStep 79 = .ok (.ifCond .eq 49, 3) := by decide +kernel
theorem dX6_mayStep_82 : decode cX6_mayStep 82 = .ok (.iload_n 3, 1) := by decide +kernel
theorem dX6_mayStep_83 : decode cX6_mayStep 83 = .ok (.ifCond .le 29, 3) := by decide +kernel
theorem dX6_mayStep_86 : decode cX6_mayStep 86 = .ok (.iload_n 3, 1) := by decide +kernel
theorem dX6_mayStep_87 : decode cX6_mayStep 87 = .ok (.aload_n 0, 1) := by decide +kernel
theorem dX6_mayStep_88 : decode cX6_mayStep 88 = .ok (.getfield 158, 3) := by decide +kernel
theorem dX6_mayStep_91 : decode cX6_mayStep 91 = .ok (.iload_n 1, 1) := by decide +kernel
theorem dX6_mayStep_92 : decode cX6_mayStep 92 = .ok (.bipush 12, 2) := by decide +kernel
theorem dX6_mayStep_94 : decode cX6_mayStep 94 = .ok (.if_icmp .ne 10, 3) := by decide +kernel
theorem dX6_mayStep_97 : decode cX6_mayStep 97 = .ok (.aload_n 0, 1) := by decide +kernel
theorem dX6_mayStep_98 : decode cX6_mayStep 98 = .ok (.getfield 167, 3) := by decide +kernel
theorem dX6_mayStep_101 : decode cX6_mayStep 101 = .ok (.goto 4, 3) := by decide +kernel
theorem dX6_mayStep_104 : decode cX6_mayStep 104 = .ok (.iconst 0, 1) := by decide +kernel
theorem dX6_mayStep_105 : decode cX6_mayStep 105 = .ok (.iadd, 1) := by decide +kernel
theorem dX6_mayStep_106 : decode cX6_mayStep 106 = .ok (.if_icmp .gt 26, 3) := by decide +kernel
theorem dX6_mayStep_109 : decode cX6_mayStep 109 = .ok (.goto 19, 3) := by decide +kernel
theorem dX6_mayStep_112 : decode cX6_mayStep 112 = .ok (.iload_n 3, 1) := by decide +kernel
theorem dX6_mayStep_113 : decode cX6_mayStep 113 = .ok (.ineg, 1) := by decide +kernel
theorem dX6_mayStep_114 : decode cX6_mayStep 114 = .ok (.aload_n 0, 1) := by decide +kernel
theorem dX6_mayStep_115 : decode cX6_mayStep 115 = .ok (.getfield 158, 3) := by decide +kernel
theorem dX6_mayStep_118 : decode cX6_mayStep 118 = .ok (.aload_n 0, 1) := by decide +kernel
theorem dX6_mayStep_119 : decode cX6_mayStep 119 = .ok (.getfield 26, 3) := by decide +kernel
theorem dX6_mayStep_122 : decode cX6_mayStep 122 = .ok (.iconst 2, 1) := by decide +kernel
theorem dX6_mayStep_123 : decode cX6_mayStep 123 = .ok (.iaload, 1) := by decide +kernel
theorem dX6_mayStep_124 : decode cX6_mayStep 124 = .ok (.isub, 1) := by decide +kernel
theorem dX6_mayStep_125 : decode cX6_mayStep 125 = .ok (.if_icmp .gt 7, 3) := by decide +kernel
theorem dX6_mayStep_128 : decode cX6_mayStep 128 = .ok (.iconst 1, 1) := by decide +kernel
theorem dX6_mayStep_129 : decode cX6_mayStep 129 = .ok (.goto 4, 3) := by decide +kernel
theorem dX6_mayStep_132 : decode cX6_mayStep 132 = .ok (.iconst 0, 1) := by decide +kernel
theorem dX6_mayStep_133 : decode cX6_mayStep 133 = .ok (.ireturn, 1) := by decide +kernel
theorem dX6_holdsOn_0 : decode cX6_holdsOn 0 = .ok (.iload_n 1, 1) := by decide +kernel
theorem dX6_holdsOn_1 : decode cX6_holdsOn 1 = .ok (.bipush 12, 2) := by decide +kernel
theorem dX6_holdsOn_3 : decode cX6_holdsOn 3 = .ok (.if_icmp .ne 6, 3) := by decide +kernel
theorem dX6_holdsOn_6 : decode cX6_holdsOn 6 = .ok (.bipush 10, 2) := by decide +kernel
theorem dX6_holdsOn_8 : decode cX6_holdsOn 8 = .ok (.ireturn, 1) := by decide +kernel
theorem dX6_holdsOn_9 : decode cX6_holdsOn 9 = .ok (.bipush 10, 2) := by decide +kernel
theorem dX6_holdsOn_11 : decode cX6_holdsOn 11 = .ok (.aload_n 0, 1) := by decide +kernel
theorem dX6_holdsOn_12 : decode cX6_holdsOn 12 = .ok (.getfield 161, 3) := by decide +kernel
theorem dX6_holdsOn_15 : decode cX6_holdsOn 15 = .ok (.aload_n 0, 1) := by decide +kernel
theorem dX6_holdsOn_16 : decode cX6_holdsOn 16 = .ok (.iload_n 1, 1) := by decide +kernel
theorem dX6_holdsOn_17 : decode cX6_holdsOn 17 = .ok (.iconst 2, 1) := by decide +kernel
theorem dX6_holdsOn_18 : decode cX6_holdsOn 18 = .ok (.invokevirtual 146, 3) := by decide +kernel
theorem dX6_holdsOn_21 : decode cX6_holdsOn 21 = .ok (.if_icmp .le 15, 3) := by decide +kernel
theorem dX6_holdsOn_24 : decode cX6_holdsOn 24 = .ok (.bipush 10, 2) := by decide +kernel
theorem dX6_holdsOn_26 : decode cX6_holdsOn 26 = .ok (.aload_n 0, 1) := by decide +kernel
theorem dX6_holdsOn_27 : decode cX6_holdsOn 27 = .ok (.iload_n 1, 1) := by decide +kernel
theorem dX6_holdsOn_28 : decode cX6_holdsOn 28 = .ok (.iconst 3, 1) := by decide +kernel
theorem dX6_holdsOn_29 : decode cX6_holdsOn 29 = .ok (.invokevirtual 146, 3) := by decide +kernel
theorem dX6_holdsOn_32 : decode cX6_holdsOn 32 = .ok (.isub, 1) := by decide +kernel
theorem dX6_holdsOn_33 : decode cX6_holdsOn 33 = .ok (.goto 4, 3) := by decide +kernel
theorem dX6_holdsOn_36 : decode cX6_holdsOn 36 = .ok (.iconst 0, 1) := by decide +kernel
theorem dX6_holdsOn_37 : decode cX6_holdsOn 37 = .ok (.isub, 1) := by decide +kernel
theorem dX6_holdsOn_38 : decode cX6_holdsOn 38 = .ok (.istore_n 2, 1) := by decide +kernel
theorem dX6_holdsOn_39 : decode cX6_holdsOn 39 = .ok (.aload_n 0, 1) := by decide +kernel
theorem dX6_holdsOn_40 : decode cX6_holdsOn 40 = .ok (.getfield 26, 3) := by decide +kernel
theorem dX6_holdsOn_43 : decode cX6_holdsOn 43 = .ok (.iconst 3, 1) := by decide +kernel
theorem dX6_holdsOn_44 : decode cX6_holdsOn 44 = .ok (.iaload, 1) := by decide +kernel
theorem dX6_holdsOn_45 : decode cX6_holdsOn 45 = .ok (.aload_n 0, 1) := by decide +kernel
theorem dX6_holdsOn_46 : decode cX6_holdsOn 46 = .ok (.getfield 164, 3) := by decide +kernel
theorem dX6_holdsOn_49 : decode cX6_holdsOn 49 = .ok (.isub, 1) := by decide +kernel
theorem dX6_holdsOn_50 : decode cX6_holdsOn 50 = .ok (.istore_n 3, 1) := by decide +kernel
theorem dX6_holdsOn_51 : decode cX6_holdsOn 51 = .ok (.iload_n 2, 1) := by decide +kernel
theorem dX6_holdsOn_52 : decode cX6_holdsOn 52 = .ok (.aload_n 0, 1) := by decide +kernel
theorem dX6_holdsOn_53 : decode cX6_holdsOn 53 = .ok (.iload_n 1, 1) := by decide +kernel
theorem dX6_holdsOn_54 : decode cX6_holdsOn 54 = .ok (.iconst 4, 1) := by decide +kernel
theorem dX6_holdsOn_55 : decode cX6_holdsOn 55 = .ok (.invokevirtual 146, 3) := by decide +kernel
theorem dX6_holdsOn_58 : decode cX6_holdsOn 58 = .ok (.iconst 1, 1) := by decide +kernel
theorem dX6_holdsOn_59 : decode cX6_holdsOn 59 = .ok (.if_icmp .ne 11, 3) := by decide +kernel
theorem dX6_holdsOn_62 : decode cX6_holdsOn 62 = .ok (.iload_n 3, 1) := by decide +kernel
theorem dX6_holdsOn_63 : decode cX6_holdsOn 63 = .ok (.ifCond .le 7, 3) := by decide +kernel
theorem dX6_holdsOn_66 : decode cX6_holdsOn 66 = .ok (.iload_n 3, 1) := by decide +kernel
theorem dX6_holdsOn_67 : decode cX6_holdsOn 67 = .ok (.goto 4, 3) := by decide +kernel
theorem dX6_holdsOn_70 : decode cX6_holdsOn 70 = .ok (.iconst 0, 1) := by decide +kernel
theorem dX6_holdsOn_71 : decode cX6_holdsOn 71 = .ok (.isub, 1) := by decide +kernel
theorem dX6_holdsOn_72 : decode cX6_holdsOn 72 = .ok (.istore_n 2, 1) := by decide +kernel
theorem dX6_holdsOn_73 : decode cX6_holdsOn 73 = .ok (.iload_n 2, 1) := by decide +kernel
theorem dX6_holdsOn_74 : decode cX6_holdsOn 74 = .ok (.ifCond .ge 7, 3) := by decide +kernel
theorem dX6_holdsOn_77 : decode cX6_holdsOn 77 = .ok (.iconst 0, 1) := by decide +kernel
theorem dX6_holdsOn_78 : decode cX6_holdsOn 78 = .ok (.goto 4, 3) := by decide +kernel
theorem dX6_holdsOn_81 : decode cX6_holdsOn 81 = .ok (.iload_n 2, 1) := by decide +kernel
theorem dX6_holdsOn_82 : decode cX6_holdsOn 82 = .ok (.ireturn, 1) := by decide +kernel
theorem dX6_step_0 : decode cX6_step 0 = .ok (.aload_n 0, 1) := by decide +kernel
theorem dX6_step_1 : decode cX6_step 1 = .ok (.iload_n 1, 1) := by decide +kernel
theorem dX6_step_2 : decode cX6_step 2 = .ok (.invokevirtual 149, 3) := by decide +kernel
theorem dX6_step_5 : decode cX6_step 5 = .ok (.ifCond .eq 24, 3) := by decide +kernel
theorem dX6_step_8 : decode cX6_step 8 = .ok (.aload_n 0, 1) := by decide +kernel
theorem dX6_step_9 : decode cX6_step 9 = .ok (.iload_n 2, 1) := by decide +kernel
theorem dX6_step_10 : decode cX6_step 10 = .ok (.invokevirtual 176, 3) := by decide +kernel
theorem dX6_step_13 : decode cX6_step 13 = .ok (.ifCond .eq 16, 3) := by decide +kernel
theorem dX6_step_16 : decode cX6_step 16 = .ok (.aload_n 0, 1) := by decide +kernel
theorem dX6_step_17 : decode cX6_step 17 = .ok (.iload_n 3, 1) := by decide +kernel
theorem dX6_step_18 : decode cX6_step 18 = .ok (.invokevirtual 176, 3) := by decide +kernel
theorem dX6_step_21 : decode cX6_step 21 = .ok (.ifCond .eq 8, 3) := by decide +kernel
theorem dX6_step_24 : decode cX6_step 24 = .ok (.iload_n 2, 1) := by decide +kernel
theorem dX6_step_25 : decode cX6_step 25 = .ok (.iload_n 3, 1) := by decide +kernel
theorem dX6_step_26 : decode cX6_step 26 = .ok (.if_icmp .ne 5, 3) := by decide +kernel
theorem dX6_step_29 : decode cX6_step 29 = .ok (.iconst (-1), 1) := by decide +kernel
theorem dX6_step_30 : decode cX6_step 30 = .ok (.ireturn, 1) := by decide +kernel
theorem dX6_step_31 : decode cX6_step 31 = .ok (.aload_n 0, 1) := by decide +kernel
theorem dX6_step_32 : decode cX6_step 32 = .ok (.iload_n 1, 1) := by decide +kernel
theorem dX6_step_33 : decode cX6_step 33 = .ok (.invokevirtual 179, 3) := by decide +kernel
theorem dX6_step_36 : decode cX6_step 36 = .ok (.aload_n 0, 1) := by decide +kernel
theorem dX6_step_37 : decode cX6_step 37 = .ok (.iload_n 2, 1) := by decide +kernel
theorem dX6_step_38 : decode cX6_step 38 = .ok (.iconst (-1), 1) := by decide +kernel
theorem dX6_step_39 : decode cX6_step 39 = .ok (.if_icmp .ne 8, 3) := by decide +kernel
theorem dX6_step_42 : decode cX6_step 42 = .ok (.bipush 12, 2) := by decide +kernel
theorem dX6_step_44 : decode cX6_step 44 = .ok (.goto 4, 3) := by decide +kernel
theorem dX6_step_47 : decode cX6_step 47 = .ok (.iload_n 2, 1) := by decide +kernel
theorem dX6_step_48 : decode cX6_step 48 = .ok (.iload_n 3, 1) := by decide +kernel
theorem dX6_step_49 : decode cX6_step 49 = .ok (.iconst (-1), 1) := by decide +kernel
theorem dX6_step_50 : decode cX6_step 50 = .ok (.if_icmp .ne 8, 3) := by decide +kernel
theorem dX6_step_53 : decode cX6_step 53 = .ok (.bipush 12, 2) := by decide +kernel
theorem dX6_step_55 : decode cX6_step 55 = .ok (.goto 4, 3) := by decide +kernel
theorem dX6_step_58 : decode cX6_step 58 = .ok (.iload_n 3, 1) := by decide +kernel
theorem dX6_step_59 : decode cX6_step 59 = .ok (.invokevirtual 182, 3) := by decide +kernel
theorem dX6_step_62 : decode cX6_step 62 = .ok (.ifCond .eq 7, 3) := by decide +kernel
theorem dX6_step_65 : decode cX6_step 65 = .ok (.iconst 1, 1) := by decide +kernel
theorem dX6_step_66 : decode cX6_step 66 = .ok (.goto 4, 3) := by decide +kernel
theorem dX6_step_69 : decode cX6_step 69 = .ok (.iconst 0, 1) := by decide +kernel
theorem dX6_step_70 : decode cX6_step 70 = .ok (.ireturn, 1) := by decide +kernel
theorem dX6_holds_0 : decode cX6_holds 0 = .ok (.aload_n 0, 1) := by decide +kernel
theorem dX6_holds_1 : decode cX6_holds 1 = .ok (.iload_n 1, 1) := by decide +kernel
theorem dX6_holds_2 : decode cX6_holds 2 = .ok (.invokevirtual 149, 3) := by decide +kernel
theorem dX6_holds_5 : decode cX6_holds 5 = .ok (.ifCond .eq 11, 3) := by decide +kernel
theorem dX6_holds_8 : decode cX6_holds 8 = .ok (.aload_n 0, 1) := by decide +kernel
theorem dX6_holds_9 : decode cX6_holds 9 = .ok (.iload_n 2, 1) := by decide +kernel
theorem dX6_holds_10 : decode cX6_holds 10 = .ok (.invokevirtual 139, 3) := by decide +kernel
theorem dX6_holds_13 : decode cX6_holds 13 = .ok (.ifCond .ne 5, 3) := by decide +kernel
theorem dX6_holds_16 : decode cX6_holds 16 = .ok (.iconst (-1), 1) := by decide +kernel
theorem dX6_holds_17 : decode cX6_holds 17 = .ok (.ireturn, 1) := by decide +kernel
theorem dX6_holds_18 : decode cX6_holds 18 = .ok (.aload_n 0, 1) := by decide +kernel
theorem dX6_holds_19 : decode cX6_holds 19 = .ok (.iload_n 1, 1) := by decide +kernel
theorem dX6_holds_20 : decode cX6_holds 20 = .ok (.invokevirtual 179, 3) := by decide +kernel
theorem dX6_holds_23 : decode cX6_holds 23 = .ok (.aload_n 0, 1) := by decide +kernel
theorem dX6_holds_24 : decode cX6_holds 24 = .ok (.iload_n 2, 1) := by decide +kernel
theorem dX6_holds_25 : decode cX6_holds 25 = .ok (.invokevirtual 186, 3) := by decide +kernel
theorem dX6_holds_28 : decode cX6_holds 28 = .ok (.ireturn, 1) := by decide +kernel
theorem dX6_isThere_0 : decode cX6_isThere 0 = .ok (.iload_n 1, 1) := by decide +kernel
theorem dX6_isThere_1 : decode cX6_isThere 1 = .ok (.bipush 12, 2) := by decide +kernel
theorem dX6_isThere_3 : decode cX6_isThere 3 = .ok (.if_icmp .eq 13, 3) := by decide +kernel
theorem dX6_isThere_6 : decode cX6_isThere 6 = .ok (.iload_n 1, 1) := by decide +kernel
theorem dX6_isThere_7 : decode cX6_isThere 7 = .ok (.aload_n 0, 1) := by decide +kernel
theorem dX6_isThere_8 : decode cX6_isThere 8 = .ok (.getfield 13, 3) := by decide +kernel
theorem dX6_isThere_11 : decode cX6_isThere 11 = .ok (.iconst 0, 1) := by decide +kernel
theorem dX6_isThere_12 : decode cX6_isThere 12 = .ok (.iaload, 1) := by decide +kernel
theorem dX6_isThere_13 : decode cX6_isThere 13 = .ok (.if_icmp .ge 7, 3) := by decide +kernel
theorem dX6_isThere_16 : decode cX6_isThere 16 = .ok (.iconst 1, 1) := by decide +kernel
theorem dX6_isThere_17 : decode cX6_isThere 17 = .ok (.goto 4, 3) := by decide +kernel
theorem dX6_isThere_20 : decode cX6_isThere 20 = .ok (.iconst 0, 1) := by decide +kernel
theorem dX6_isThere_21 : decode cX6_isThere 21 = .ok (.ireturn, 1) := by decide +kernel
theorem dX6_goFrom_0 : decode cX6_goFrom 0 = .ok (.iconst 0, 1) := by decide +kernel
theorem dX6_goFrom_1 : decode cX6_goFrom 1 = .ok (.istore_n 2, 1) := by decide +kernel
theorem dX6_goFrom_2 : decode cX6_goFrom 2 = .ok (.iload_n 2, 1) := by decide +kernel
theorem dX6_goFrom_3 : decode cX6_goFrom 3 = .ok (.bipush 13, 2) := by decide +kernel
theorem dX6_goFrom_5 : decode cX6_goFrom 5 = .ok (.if_icmp .ge 46, 3) := by decide +kernel
theorem dX6_goFrom_8 : decode cX6_goFrom 8 = .ok (.aload_n 0, 1) := by decide +kernel
theorem dX6_goFrom_9 : decode cX6_goFrom 9 = .ok (.getfield 39, 3) := by decide +kernel
theorem dX6_goFrom_12 : decode cX6_goFrom 12 = .ok (.iload_n 2, 1) := by decide +kernel
theorem dX6_goFrom_13 : decode cX6_goFrom 13 = .ok (.iload_n 2, 1) := by decide +kernel
theorem dX6_goFrom_14 : decode cX6_goFrom 14 = .ok (.iload_n 1, 1) := by decide +kernel
theorem dX6_goFrom_15 : decode cX6_goFrom 15 = .ok (.if_icmp .ne 9, 3) := by decide +kernel
theorem dX6_goFrom_18 : decode cX6_goFrom 18 = .ok (.ldc2_w 189, 3) := by decide +kernel
theorem dX6_goFrom_21 : decode cX6_goFrom 21 = .ok (.goto 4, 3) := by decide +kernel
theorem dX6_goFrom_24 : decode cX6_goFrom 24 = .ok (.lconst 0, 1) := by decide +kernel
theorem dX6_goFrom_25 : decode cX6_goFrom 25 = .ok (.lastore, 1) := by decide +kernel
theorem dX6_goFrom_26 : decode cX6_goFrom 26 = .ok (.aload_n 0, 1) := by decide +kernel
theorem dX6_goFrom_27 : decode cX6_goFrom 27 = .ok (.getfield 32, 3) := by decide +kernel
theorem dX6_goFrom_30 : decode cX6_goFrom 30 = .ok (.iload_n 2, 1) := by decide +kernel
theorem dX6_goFrom_31 : decode cX6_goFrom 31 = .ok (.aload_n 0, 1) := by decide +kernel
theorem dX6_goFrom_32 : decode cX6_goFrom 32 = .ok (.getfield 39, 3) := by decide +kernel
theorem dX6_goFrom_35 : decode cX6_goFrom 35 = .ok (.iload_n 2, 1) := by decide +kernel
theorem dX6_goFrom_36 : decode cX6_goFrom 36 = .ok (.laload, 1) := by decide +kernel
theorem dX6_goFrom_37 : decode cX6_goFrom 37 = .ok (.lastore, 1) := by decide +kernel
theorem dX6_goFrom_38 : decode cX6_goFrom 38 = .ok (.aload_n 0, 1) := by decide +kernel
theorem dX6_goFrom_39 : decode cX6_goFrom 39 = .ok (.getfield 36, 3) := by decide +kernel
theorem dX6_goFrom_42 : decode cX6_goFrom 42 = .ok (.iload_n 2, 1) := by decide +kernel
theorem dX6_goFrom_43 : decode cX6_goFrom 43 = .ok (.iconst 0, 1) := by decide +kernel
theorem dX6_goFrom_44 : decode cX6_goFrom 44 = .ok (.iastore, 1) := by decide +kernel
theorem dX6_goFrom_45 : decode cX6_goFrom 45 = .ok (.iinc 2 1, 3) := by decide +kernel
theorem dX6_goFrom_48 : decode cX6_goFrom 48 = .ok (.goto (-46), 3) := by decide +kernel
theorem dX6_goFrom_51 : decode cX6_goFrom 51 = .ok (.iconst 1, 1) := by decide +kernel
theorem dX6_goFrom_52 : decode cX6_goFrom 52 = .ok (.istore_n 2, 1) := by decide +kernel
theorem dX6_goFrom_53 : decode cX6_goFrom 53 = .ok (.iload_n 2, 1) := by decide +kernel
theorem dX6_goFrom_54 : decode cX6_goFrom 54 = .ok (.bipush 12, 2) := by decide +kernel
theorem dX6_goFrom_56 : decode cX6_goFrom 56 = .ok (.if_icmp .gt 220, 3) := by decide +kernel
theorem dX6_goFrom_59 : decode cX6_goFrom 59 = .ok (.iconst 0, 1) := by decide +kernel
theorem dX6_goFrom_60 : decode cX6_goFrom 60 = .ok (.istore_n 3, 1) := by decide +kernel
theorem dX6_goFrom_61 : decode cX6_goFrom 61 = .ok (.iload_n 3, 1) := by decide +kernel
theorem dX6_goFrom_62 : decode cX6_goFrom 62 = .ok (.bipush 13, 2) := by decide +kernel
theorem dX6_goFrom_64 : decode cX6_goFrom 64 = .ok (.if_icmp .ge 111, 3) := by decide +kernel
theorem dX6_goFrom_67 : decode cX6_goFrom 67 = .ok (.aload_n 0, 1) := by decide +kernel
theorem dX6_goFrom_68 : decode cX6_goFrom 68 = .ok (.getfield 42, 3) := by decide +kernel
theorem dX6_goFrom_71 : decode cX6_goFrom 71 = .ok (.iload_n 3, 1) := by decide +kernel
theorem dX6_goFrom_72 : decode cX6_goFrom 72 = .ok (.lconst 0, 1) := by decide +kernel
theorem dX6_goFrom_73 : decode cX6_goFrom 73 = .ok (.lastore, 1) := by decide +kernel
theorem dX6_goFrom_74 : decode cX6_goFrom 74 = .ok (.iconst 0, 1) := by decide +kernel
theorem dX6_goFrom_75 : decode cX6_goFrom 75 = .ok (.istore 4, 2) := by decide +kernel
theorem dX6_goFrom_77 : decode cX6_goFrom 77 = .ok (.iload 4, 2) := by decide +kernel
theorem dX6_goFrom_79 : decode cX6_goFrom 79 = .ok (.bipush 13, 2) := by decide +kernel
theorem dX6_goFrom_81 : decode cX6_goFrom 81 = .ok (.if_icmp .ge 88, 3) := by decide +kernel
theorem dX6_goFrom_84 : decode cX6_goFrom 84 = .ok (.aload_n 0, 1) := by decide +kernel
theorem dX6_goFrom_85 : decode cX6_goFrom 85 = .ok (.iload_n 3, 1) := by decide +kernel
theorem dX6_goFrom_86 : decode cX6_goFrom 86 = .ok (.invokevirtual 191, 3) := by decide +kernel
theorem dX6_goFrom_89 : decode cX6_goFrom 89 = .ok (.ifCond .eq 80, 3) := by decide +kernel
theorem dX6_goFrom_92 : decode cX6_goFrom 92 = .ok (.aload_n 0, 1) := by decide +kernel
theorem dX6_goFrom_93 : decode cX6_goFrom 93 = .ok (.getfield 39, 3) := by decide +kernel
theorem dX6_goFrom_96 : decode cX6_goFrom 96 = .ok (.iload 4, 2) := by decide +kernel
theorem dX6_goFrom_98 : decode cX6_goFrom 98 = .ok (.laload, 1) := by decide +kernel
theorem dX6_goFrom_99 : decode cX6_goFrom 99 = .ok (.lconst 0, 1) := by decide +kernel
theorem dX6_goFrom_100 : decode cX6_goFrom 100 = .ok (.lcmp, 1) := by decide +kernel
theorem dX6_goFrom_101 : decode cX6_goFrom 101 = .ok (.ifCond .le 62, 3) := by decide +kernel
theorem dX6_goFrom_104 : decode cX6_goFrom 104 = .ok (.aload_n 0, 1) := by decide +kernel
theorem dX6_goFrom_105 : decode cX6_goFrom 105 = .ok (.iload 4, 2) := by decide +kernel
theorem dX6_goFrom_107 : decode cX6_goFrom 107 = .ok (.iload_n 3, 1) := by decide +kernel
theorem dX6_goFrom_108 : decode cX6_goFrom 108 = .ok (.invokevirtual 182, 3) := by decide +kernel
theorem dX6_goFrom_111 : decode cX6_goFrom 111 = .ok (.ifCond .eq 52, 3) := by decide +kernel
theorem dX6_goFrom_114 : decode cX6_goFrom 114 = .ok (.aload_n 0, 1) := by decide +kernel
theorem dX6_goFrom_115 : decode cX6_goFrom 115 = .ok (.getfield 39, 3) := by decide +kernel
theorem dX6_goFrom_118 : decode cX6_goFrom 118 = .ok (.iload 4, 2) := by decide +kernel
theorem dX6_goFrom_120 : decode cX6_goFrom 120 = .ok (.laload, 1) := by decide +kernel
theorem dX6_goFrom_121 : decode cX6_goFrom 121 = .ok (.ldc2_w 194, 3) := by decide +kernel
theorem dX6_goFrom_124 : decode cX6_goFrom 124 = .ok (.ldiv, 1) := by decide +kernel
theorem dX6_goFrom_125 : decode cX6_goFrom 125 = .ok (.aload_n 0, 1) := by decide +kernel
theorem dX6_goFrom_126 : decode cX6_goFrom 126 = .ok (.iload_n 3, 1) := by decide +kernel
theorem dX6_goFrom_127 : decode cX6_goFrom 127 = .ok (.invokevirtual 186, 3) := by decide +kernel
theorem dX6_goFrom_130 : decode cX6_goFrom 130 = .ok (.i2l, 1) := by decide +kernel
theorem dX6_goFrom_131 : decode cX6_goFrom 131 = .ok (.lmul, 1) := by decide +kernel
theorem dX6_goFrom_132 : decode cX6_goFrom 132 = .ok (.lstore 5, 2) := by decide +kernel
theorem dX6_goFrom_134 : decode cX6_goFrom 134 = .ok (.aload_n 0, 1) := by decide +kernel
theorem dX6_goFrom_135 : decode cX6_goFrom 135 = .ok (.getfield 42, 3) := by decide +kernel
theorem dX6_goFrom_138 : decode cX6_goFrom 138 = .ok (.iload_n 3, 1) := by decide +kernel
theorem dX6_goFrom_139 : decode cX6_goFrom 139 = .ok (.lload 5, 2) := by decide +kernel
theorem dX6_goFrom_141 : decode cX6_goFrom 141 = .ok (.aload_n 0, 1) := by decide +kernel
theorem dX6_goFrom_142 : decode cX6_goFrom 142 = .ok (.getfield 42, 3) := by decide +kernel
theorem dX6_goFrom_145 : decode cX6_goFrom 145 = .ok (.iload_n 3, 1) := by decide +kernel
theorem dX6_goFrom_146 : decode cX6_goFrom 146 = .ok (.laload, 1) := by decide +kernel
theorem dX6_goFrom_147 : decode cX6_goFrom 147 = .ok (.lcmp, 1) := by decide +kernel
theorem dX6_goFrom_148 : decode cX6_goFrom 148 = .ok (.ifCond .le 8, 3) := by decide +kernel
theorem dX6_goFrom_151 : decode cX6_goFrom 151 = .ok (.lload 5, 2) := by decide +kernel
theorem dX6_goFrom_153 : decode cX6_goFrom 153 = .ok (.goto 9, 3) := by decide +kernel
theorem dX6_goFrom_156 : decode cX6_goFrom 156 = .ok (.aload_n 0, 1) := by decide +kernel
theorem dX6_goFrom_157 : decode cX6_goFrom 157 = .ok (.getfield 42, 3) := by decide +kernel
theorem dX6_goFrom_160 : decode cX6_goFrom 160 = .ok (.iload_n 3, 1) := by decide +kernel
theorem dX6_goFrom_161 : decode cX6_goFrom 161 = .ok (.laload, 1) := by decide +kernel
theorem dX6_goFrom_162 : decode cX6_goFrom 162 = .ok (.lastore, 1) := by decide +kernel
theorem dX6_goFrom_163 : decode cX6_goFrom 163 = .ok (.iinc 4 1, 3) := by decide +kernel
theorem dX6_goFrom_166 : decode cX6_goFrom 166 = .ok (.goto (-89), 3) := by decide +kernel
theorem dX6_goFrom_169 : decode cX6_goFrom 169 = .ok (.iinc 3 1, 3) := by decide +kernel
theorem dX6_goFrom_172 : decode cX6_goFrom 172 = .ok (.goto (-111), 3) := by decide +kernel
theorem dX6_goFrom_175 : decode cX6_goFrom 175 = .ok (.iconst 0, 1) := by decide +kernel
theorem dX6_goFrom_176 : decode cX6_goFrom 176 = .ok (.istore_n 3, 1) := by decide +kernel
theorem dX6_goFrom_177 : decode cX6_goFrom 177 = .ok (.iload_n 3, 1) := by decide +kernel
theorem dX6_goFrom_178 : decode cX6_goFrom 178 = .ok (.bipush 13, 2) := by decide +kernel
theorem dX6_goFrom_180 : decode cX6_goFrom 180 = .ok (.if_icmp .ge 90, 3) := by decide +kernel
theorem dX6_goFrom_183 : decode cX6_goFrom 183 = .ok (.aload_n 0, 1) := by decide +kernel
theorem dX6_goFrom_184 : decode cX6_goFrom 184 = .ok (.getfield 39, 3) := by decide +kernel
theorem dX6_goFrom_187 : decode cX6_goFrom 187 = .ok (.iload_n 3, 1) := by decide +kernel
theorem dX6_goFrom_188 : decode cX6_goFrom 188 = .ok (.aload_n 0, 1) := by decide +kernel
theorem dX6_goFrom_189 : decode cX6_goFrom 189 = .ok (.getfield 42, 3) := by decide +kernel
theorem dX6_goFrom_192 : decode cX6_goFrom 192 = .ok (.iload_n 3, 1) := by decide +kernel
theorem dX6_goFrom_193 : decode cX6_goFrom 193 = .ok (.laload, 1) := by decide +kernel
theorem dX6_goFrom_194 : decode cX6_goFrom 194 = .ok (.lastore, 1) := by decide +kernel
theorem dX6_goFrom_195 : decode cX6_goFrom 195 = .ok (.aload_n 0, 1) := by decide +kernel
theorem dX6_goFrom_196 : decode cX6_goFrom 196 = .ok (.getfield 36, 3) := by decide +kernel
theorem dX6_goFrom_199 : decode cX6_goFrom 199 = .ok (.iload_n 3, 1) := by decide +kernel
theorem dX6_goFrom_200 : decode cX6_goFrom 200 = .ok (.aload_n 0, 1) := by decide +kernel
theorem dX6_goFrom_201 : decode cX6_goFrom 201 = .ok (.getfield 39, 3) := by decide +kernel
theorem dX6_goFrom_204 : decode cX6_goFrom 204 = .ok (.iload_n 3, 1) := by decide +kernel
theorem dX6_goFrom_205 : decode cX6_goFrom 205 = .ok (.laload, 1) := by decide +kernel
theorem dX6_goFrom_206 : decode cX6_goFrom 206 = .ok (.aload_n 0, 1) := by decide +kernel
theorem dX6_goFrom_207 : decode cX6_goFrom 207 = .ok (.getfield 32, 3) := by decide +kernel
theorem dX6_goFrom_210 : decode cX6_goFrom 210 = .ok (.iload_n 3, 1) := by decide +kernel
theorem dX6_goFrom_211 : decode cX6_goFrom 211 = .ok (.laload, 1) := by decide +kernel
theorem dX6_goFrom_212 : decode cX6_goFrom 212 = .ok (.lcmp, 1) := by decide +kernel
theorem dX6_goFrom_213 : decode cX6_goFrom 213 = .ok (.ifCond .le 7, 3) := by decide +kernel
theorem dX6_goFrom_216 : decode cX6_goFrom 216 = .ok (.iload_n 2, 1) := by decide +kernel
theorem dX6_goFrom_217 : decode cX6_goFrom 217 = .ok (.goto 9, 3) := by decide +kernel
theorem dX6_goFrom_220 : decode cX6_goFrom 220 = .ok (.aload_n 0, 1) := by decide +kernel
theorem dX6_goFrom_221 : decode cX6_goFrom 221 = .ok (.getfield 36, 3) := by decide +kernel
theorem dX6_goFrom_224 : decode cX6_goFrom 224 = .ok (.iload_n 3, 1) := by decide +kernel
theorem dX6_goFrom_225 : decode cX6_goFrom 225 = .ok (.iaload, 1) := by decide +kernel
theorem dX6_goFrom_226 : decode cX6_goFrom 226 = .ok (.iastore, 1) := by decide +kernel
theorem dX6_goFrom_227 : decode cX6_goFrom 227 = .ok (.aload_n 0, 1) := by decide +kernel
theorem dX6_goFrom_228 : decode cX6_goFrom 228 = .ok (.getfield 32, 3) := by decide +kernel
theorem dX6_goFrom_231 : decode cX6_goFrom 231 = .ok (.iload_n 3, 1) := by decide +kernel
theorem dX6_goFrom_232 : decode cX6_goFrom 232 = .ok (.aload_n 0, 1) := by decide +kernel
theorem dX6_goFrom_233 : decode cX6_goFrom 233 = .ok (.getfield 39, 3) := by decide +kernel
theorem dX6_goFrom_236 : decode cX6_goFrom 236 = .ok (.iload_n 3, 1) := by decide +kernel
theorem dX6_goFrom_237 : decode cX6_goFrom 237 = .ok (.laload, 1) := by decide +kernel
theorem dX6_goFrom_238 : decode cX6_goFrom 238 = .ok (.aload_n 0, 1) := by decide +kernel
theorem dX6_goFrom_239 : decode cX6_goFrom 239 = .ok (.getfield 32, 3) := by decide +kernel
theorem dX6_goFrom_242 : decode cX6_goFrom 242 = .ok (.iload_n 3, 1) := by decide +kernel
theorem dX6_goFrom_243 : decode cX6_goFrom 243 = .ok (.laload, 1) := by decide +kernel
theorem dX6_goFrom_244 : decode cX6_goFrom 244 = .ok (.lcmp, 1) := by decide +kernel
theorem dX6_goFrom_245 : decode cX6_goFrom 245 = .ok (.ifCond .le 12, 3) := by decide +kernel
theorem dX6_goFrom_248 : decode cX6_goFrom 248 = .ok (.aload_n 0, 1) := by decide +kernel
theorem dX6_goFrom_249 : decode cX6_goFrom 249 = .ok (.getfield 39, 3) := by decide +kernel
theorem dX6_goFrom_252 : decode cX6_goFrom 252 = .ok (.iload_n 3, 1) := by decide +kernel
theorem dX6_goFrom_253 : decode cX6_goFrom 253 = .ok (.laload, 1) := by decide +kernel
theorem dX6_goFrom_254 : decode cX6_goFrom 254 = .ok (.goto 9, 3) := by decide +kernel
theorem dX6_goFrom_257 : decode cX6_goFrom 257 = .ok (.aload_n 0, 1) := by decide +kernel
theorem dX6_goFrom_258 : decode cX6_goFrom 258 = .ok (.getfield 32, 3) := by decide +kernel
theorem dX6_goFrom_261 : decode cX6_goFrom 261 = .ok (.iload_n 3, 1) := by decide +kernel
theorem dX6_goFrom_262 : decode cX6_goFrom 262 = .ok (.laload, 1) := by decide +kernel
theorem dX6_goFrom_263 : decode cX6_goFrom 263 = .ok (.lastore, 1) := by decide +kernel
theorem dX6_goFrom_264 : decode cX6_goFrom 264 = .ok (.iinc 3 1, 3) := by decide +kernel
theorem dX6_goFrom_267 : decode cX6_goFrom 267 = .ok (.goto (-90), 3) := by decide +kernel
theorem dX6_goFrom_270 : decode cX6_goFrom 270 = .ok (.iinc 2 1, 3) := by decide +kernel
theorem dX6_goFrom_273 : decode cX6_goFrom 273 = .ok (.goto (-220), 3) := by decide +kernel
theorem dX6_goFrom_276 : decode cX6_goFrom 276 = .ok (.return_, 1) := by decide +kernel
theorem dX6_common_0 : decode cX6_common 0 = .ok (.lload_n 0, 1) := by decide +kernel
theorem dX6_common_1 : decode cX6_common 1 = .ok (.lstore 4, 2) := by decide +kernel
theorem dX6_common_3 : decode cX6_common 3 = .ok (.lload_n 2, 1) := by decide +kernel
theorem dX6_common_4 : decode cX6_common 4 = .ok (.lstore 6, 2) := by decide +kernel
theorem dX6_common_6 : decode cX6_common 6 = .ok (.lload 6, 2) := by decide +kernel
theorem dX6_common_8 : decode cX6_common 8 = .ok (.lconst 0, 1) := by decide +kernel
theorem dX6_common_9 : decode cX6_common 9 = .ok (.lcmp, 1) := by decide +kernel
theorem dX6_common_10 : decode cX6_common 10 = .ok (.ifCond .eq 21, 3) := by decide +kernel
theorem dX6_common_13 : decode cX6_common 13 = .ok (.lload 4, 2) := by decide +kernel
theorem dX6_common_15 : decode cX6_common 15 = .ok (.lload 6, 2) := by decide +kernel
theorem dX6_common_17 : decode cX6_common 17 = .ok (.lrem, 1) := by decide +kernel
theorem dX6_common_18 : decode cX6_common 18 = .ok (.lstore 8, 2) := by decide +kernel
theorem dX6_common_20 : decode cX6_common 20 = .ok (.lload 6, 2) := by decide +kernel
theorem dX6_common_22 : decode cX6_common 22 = .ok (.lstore 4, 2) := by decide +kernel
theorem dX6_common_24 : decode cX6_common 24 = .ok (.lload 8, 2) := by decide +kernel
theorem dX6_common_26 : decode cX6_common 26 = .ok (.lstore 6, 2) := by decide +kernel
theorem dX6_common_28 : decode cX6_common 28 = .ok (.goto (-22), 3) := by decide +kernel
theorem dX6_common_31 : decode cX6_common 31 = .ok (.lload 4, 2) := by decide +kernel
theorem dX6_common_33 : decode cX6_common 33 = .ok (.lreturn, 1) := by decide +kernel
theorem dX6_inLeast_0 : decode cX6_inLeast 0 = .ok (.lload_n 2, 1) := by decide +kernel
theorem dX6_inLeast_1 : decode cX6_inLeast 1 = .ok (.lconst 0, 1) := by decide +kernel
theorem dX6_inLeast_2 : decode cX6_inLeast 2 = .ok (.lcmp, 1) := by decide +kernel
theorem dX6_inLeast_3 : decode cX6_inLeast 3 = .ok (.ifCond .ne 7, 3) := by decide +kernel
theorem dX6_inLeast_6 : decode cX6_inLeast 6 = .ok (.iload 4, 2) := by decide +kernel
theorem dX6_inLeast_8 : decode cX6_inLeast 8 = .ok (.i2l, 1) := by decide +kernel
theorem dX6_inLeast_9 : decode cX6_inLeast 9 = .ok (.lreturn, 1) := by decide +kernel
theorem dX6_inLeast_10 : decode cX6_inLeast 10 = .ok (.lload_n 0, 1) := by decide +kernel
theorem dX6_inLeast_11 : decode cX6_inLeast 11 = .ok (.lload_n 2, 1) := by decide +kernel
theorem dX6_inLeast_12 : decode cX6_inLeast 12 = .ok (.invokestatic 196, 3) := by decide +kernel
theorem dX6_inLeast_15 : decode cX6_inLeast 15 = .ok (.lstore 5, 2) := by decide +kernel
theorem dX6_inLeast_17 : decode cX6_inLeast 17 = .ok (.iload 4, 2) := by decide +kernel
theorem dX6_inLeast_19 : decode cX6_inLeast 19 = .ok (.ifCond .ne 10, 3) := by decide +kernel
theorem dX6_inLeast_22 : decode cX6_inLeast 22 = .ok (.lload_n 0, 1) := by decide +kernel
theorem dX6_inLeast_23 : decode cX6_inLeast 23 = .ok (.lload 5, 2) := by decide +kernel
theorem dX6_inLeast_25 : decode cX6_inLeast 25 = .ok (.ldiv, 1) := by decide +kernel
theorem dX6_inLeast_26 : decode cX6_inLeast 26 = .ok (.goto 7, 3) := by decide +kernel
theorem dX6_inLeast_29 : decode cX6_inLeast 29 = .ok (.lload_n 2, 1) := by decide +kernel
theorem dX6_inLeast_30 : decode cX6_inLeast 30 = .ok (.lload 5, 2) := by decide +kernel
theorem dX6_inLeast_32 : decode cX6_inLeast 32 = .ok (.ldiv, 1) := by decide +kernel
theorem dX6_inLeast_33 : decode cX6_inLeast 33 = .ok (.lreturn, 1) := by decide +kernel
theorem dX6_best_0 : decode cX6_best 0 = .ok (.aload_n 0, 1) := by decide +kernel
theorem dX6_best_1 : decode cX6_best 1 = .ok (.iload_n 1, 1) := by decide +kernel
theorem dX6_best_2 : decode cX6_best 2 = .ok (.invokevirtual 149, 3) := by decide +kernel
theorem dX6_best_5 : decode cX6_best 5 = .ok (.ifCond .eq 29, 3) := by decide +kernel
theorem dX6_best_8 : decode cX6_best 8 = .ok (.aload_n 0, 1) := by decide +kernel
theorem dX6_best_9 : decode cX6_best 9 = .ok (.iload_n 2, 1) := by decide +kernel
theorem dX6_best_10 : decode cX6_best 10 = .ok (.invokevirtual 176, 3) := by decide +kernel
theorem dX6_best_13 : decode cX6_best 13 = .ok (.ifCond .eq 21, 3) := by decide +kernel
theorem dX6_best_16 : decode cX6_best 16 = .ok (.aload_n 0, 1) := by decide +kernel
theorem dX6_best_17 : decode cX6_best 17 = .ok (.iload_n 3, 1) := by decide +kernel
theorem dX6_best_18 : decode cX6_best 18 = .ok (.invokevirtual 176, 3) := by decide +kernel
theorem dX6_best_21 : decode cX6_best 21 = .ok (.ifCond .eq 13, 3) := by decide +kernel
theorem dX6_best_24 : decode cX6_best 24 = .ok (.iload 4, 2) := by decide +kernel
theorem dX6_best_26 : decode cX6_best 26 = .ok (.iconst 0, 1) := by decide +kernel
theorem dX6_best_27 : decode cX6_best 27 = .ok (.iconst 2, 1) := by decide +kernel
theorem dX6_best_28 : decode cX6_best 28 = .ok (.invokestatic 82, 3) := by decide +kernel
theorem dX6_best_31 : decode cX6_best 31 = .ok (.ifCond .ne 7, 3) := by decide +kernel
theorem dX6_best_34 : decode cX6_best 34 = .ok (.ldc2_w 200, 3) := by decide +kernel
theorem dX6_best_37 : decode cX6_best 37 = .ok (.lreturn, 1) := by decide +kernel
theorem dX6_best_38 : decode cX6_best 38 = .ok (.aload_n 0, 1) := by decide +kernel
theorem dX6_best_39 : decode cX6_best 39 = .ok (.iload_n 1, 1) := by decide +kernel
theorem dX6_best_40 : decode cX6_best 40 = .ok (.invokevirtual 179, 3) := by decide +kernel
theorem dX6_best_43 : decode cX6_best 43 = .ok (.aload_n 0, 1) := by decide +kernel
theorem dX6_best_44 : decode cX6_best 44 = .ok (.iload_n 2, 1) := by decide +kernel
theorem dX6_best_45 : decode cX6_best 45 = .ok (.iconst (-1), 1) := by decide +kernel
theorem dX6_best_46 : decode cX6_best 46 = .ok (.if_icmp .ne 8, 3) := by decide +kernel
theorem dX6_best_49 : decode cX6_best 49 = .ok (.bipush 12, 2) := by decide +kernel
theorem dX6_best_51 : decode cX6_best 51 = .ok (.goto 4, 3) := by decide +kernel
theorem dX6_best_54 : decode cX6_best 54 = .ok (.iload_n 2, 1) := by decide +kernel
theorem dX6_best_55 : decode cX6_best 55 = .ok (.invokevirtual 202, 3) := by decide +kernel
theorem dX6_best_58 : decode cX6_best 58 = .ok (.iload_n 3, 1) := by decide +kernel
theorem dX6_best_59 : decode cX6_best 59 = .ok (.iconst (-1), 1) := by decide +kernel
theorem dX6_best_60 : decode cX6_best 60 = .ok (.if_icmp .ne 8, 3) := by decide +kernel
theorem dX6_best_63 : decode cX6_best 63 = .ok (.bipush 12, 2) := by decide +kernel
theorem dX6_best_65 : decode cX6_best 65 = .ok (.goto 4, 3) := by decide +kernel
theorem dX6_best_68 : decode cX6_best 68 = .ok (.iload_n 3, 1) := by decide +kernel
theorem dX6_best_69 : decode cX6_best 69 = .ok (.istore 5, 2) := by decide +kernel
theorem dX6_best_71 : decode cX6_best 71 = .ok (.aload_n 0, 1) := by decide +kernel
theorem dX6_best_72 : decode cX6_best 72 = .ok (.getfield 32, 3) := by decide +kernel
theorem dX6_best_75 : decode cX6_best 75 = .ok (.iload 5, 2) := by decide +kernel
theorem dX6_best_77 : decode cX6_best 77 = .ok (.laload, 1) := by decide +kernel
theorem dX6_best_78 : decode cX6_best 78 = .ok (.lconst 0, 1) := by decide +kernel
theorem dX6_best_79 : decode cX6_best 79 = .ok (.lcmp, 1) := by decide +kernel
theorem dX6_best_80 : decode cX6_best 80 = .ok (.ifCond .ne 7, 3) := by decide +kernel
theorem dX6_best_83 : decode cX6_best 83 = .ok (.ldc2_w 205, 3) := by decide +kernel
theorem dX6_best_86 : decode cX6_best 86 = .ok (.lreturn, 1) := by decide +kernel
theorem dX6_best_87 : decode cX6_best 87 = .ok (.iload 4, 2) := by decide +kernel
theorem dX6_best_89 : decode cX6_best 89 = .ok (.iconst 2, 1) := by decide +kernel
theorem dX6_best_90 : decode cX6_best 90 = .ok (.if_icmp .ne 14, 3) := by decide +kernel
theorem dX6_best_93 : decode cX6_best 93 = .ok (.aload_n 0, 1) := by decide +kernel
theorem dX6_best_94 : decode cX6_best 94 = .ok (.getfield 36, 3) := by decide +kernel
theorem dX6_best_97 : decode cX6_best 97 = .ok (.iload 5, 2) := by decide +kernel
theorem dX6_best_99 : decode cX6_best 99 = .ok (.iaload, 1) := by decide +kernel
theorem dX6_best_100 : decode cX6_best 100 = .ok (.i2l, 1) := by decide +kernel
theorem dX6_best_101 : decode cX6_best 101 = .ok (.goto 18, 3) := by decide +kernel
theorem dX6_best_104 : decode cX6_best 104 = .ok (.aload_n 0, 1) := by decide +kernel
theorem dX6_best_105 : decode cX6_best 105 = .ok (.getfield 32, 3) := by decide +kernel
theorem dX6_best_108 : decode cX6_best 108 = .ok (.iload 5, 2) := by decide +kernel
theorem dX6_best_110 : decode cX6_best 110 = .ok (.laload, 1) := by decide +kernel
theorem dX6_best_111 : decode cX6_best 111 = .ok (.ldc2_w 189, 3) := by decide +kernel
theorem dX6_best_114 : decode cX6_best 114 = .ok (.iload 4, 2) := by decide +kernel
theorem dX6_best_116 : decode cX6_best 116 = .ok (.invokestatic 207, 3) := by decide +kernel
theorem dX6_best_119 : decode cX6_best 119 = .ok (.lreturn, 1) := by decide +kernel
theorem dX6_highBy_0 : decode cX6_highBy 0 = .ok (.aload_n 0, 1) := by decide +kernel
theorem dX6_highBy_1 : decode cX6_highBy 1 = .ok (.bipush 12, 2) := by decide +kernel
theorem dX6_highBy_3 : decode cX6_highBy 3 = .ok (.invokevirtual 202, 3) := by decide +kernel
theorem dX6_highBy_6 : decode cX6_highBy 6 = .ok (.iconst 0, 1) := by decide +kernel
theorem dX6_highBy_7 : decode cX6_highBy 7 = .ok (.istore_n 2, 1) := by decide +kernel
theorem dX6_highBy_8 : decode cX6_highBy 8 = .ok (.iconst 0, 1) := by decide +kernel
theorem dX6_highBy_9 : decode cX6_highBy 9 = .ok (.istore_n 3, 1) := by decide +kernel
theorem dX6_highBy_10 : decode cX6_highBy 10 = .ok (.iload_n 3, 1) := by decide +kernel
theorem dX6_highBy_11 : decode cX6_highBy 11 = .ok (.aload_n 0, 1) := by decide +kernel
theorem dX6_highBy_12 : decode cX6_highBy 12 = .ok (.getfield 13, 3) := by decide +kernel
theorem dX6_highBy_15 : decode cX6_highBy 15 = .ok (.iconst 0, 1) := by decide +kernel
theorem dX6_highBy_16 : decode cX6_highBy 16 = .ok (.iaload, 1) := by decide +kernel
theorem dX6_highBy_17 : decode cX6_highBy 17 = .ok (.if_icmp .ge 73, 3) := by decide +kernel
theorem dX6_highBy_20 : decode cX6_highBy 20 = .ok (.aload_n 0, 1) := by decide +kernel
theorem dX6_highBy_21 : decode cX6_highBy 21 = .ok (.getfield 32, 3) := by decide +kernel
theorem dX6_highBy_24 : decode cX6_highBy 24 = .ok (.iload_n 3, 1) := by decide +kernel
theorem dX6_highBy_25 : decode cX6_highBy 25 = .ok (.laload, 1) := by decide +kernel
theorem dX6_highBy_26 : decode cX6_highBy 26 = .ok (.lconst 0, 1) := by decide +kernel
theorem dX6_highBy_27 : decode cX6_highBy 27 = .ok (.lcmp, 1) := by decide +kernel
theorem dX6_highBy_28 : decode cX6_highBy 28 = .ok (.ifCond .le 27, 3) := by decide +kernel
theorem dX6_highBy_31 : decode cX6_highBy 31 = .ok (.aload_n 0, 1) := by decide +kernel
theorem dX6_highBy_32 : decode cX6_highBy 32 = .ok (.getfield 32, 3) := by decide +kernel
theorem dX6_highBy_35 : decode cX6_highBy 35 = .ok (.iload_n 3, 1) := by decide +kernel
theorem dX6_highBy_36 : decode cX6_highBy 36 = .ok (.laload, 1) := by decide +kernel
theorem dX6_highBy_37 : decode cX6_highBy 37 = .ok (.ldc2_w 211, 3) := by decide +kernel
theorem dX6_highBy_40 : decode cX6_highBy 40 = .ok (.lmul, 1) := by decide +kernel
theorem dX6_highBy_41 : decode cX6_highBy 41 = .ok (.iload_n 1, 1) := by decide +kernel
theorem dX6_highBy_42 : decode cX6_highBy 42 = .ok (.i2l, 1) := by decide +kernel
theorem dX6_highBy_43 : decode cX6_highBy 43 = .ok (.ldc2_w 189, 3) := by decide +kernel
theorem dX6_highBy_46 : decode cX6_highBy 46 = .ok (.lmul, 1) := by decide +kernel
theorem dX6_highBy_47 : decode cX6_highBy 47 = .ok (.lcmp, 1) := by decide +kernel
theorem dX6_highBy_48 : decode cX6_highBy 48 = .ok (.ifCond .lt 7, 3) := by decide +kernel
theorem dX6_highBy_51 : decode cX6_highBy 51 = .ok (.iconst 1, 1) := by decide +kernel
theorem dX6_highBy_52 : decode cX6_highBy 52 = .ok (.goto 4, 3) := by decide +kernel
theorem dX6_highBy_55 : decode cX6_highBy 55 = .ok (.iconst 0, 1) := by decide +kernel
theorem dX6_highBy_56 : decode cX6_highBy 56 = .ok (.istore 4, 2) := by decide +kernel
theorem dX6_highBy_58 : decode cX6_highBy 58 = .ok (.iload 4, 2) := by decide +kernel
theorem dX6_highBy_60 : decode cX6_highBy 60 = .ok (.ifCond .eq 22, 3) := by decide +kernel
theorem dX6_highBy_63 : decode cX6_highBy 63 = .ok (.aload_n 0, 1) := by decide +kernel
theorem dX6_highBy_64 : decode cX6_highBy 64 = .ok (.iload_n 3, 1) := by decide +kernel
theorem dX6_highBy_65 : decode cX6_highBy 65 = .ok (.iconst 0, 1) := by decide +kernel
theorem dX6_highBy_66 : decode cX6_highBy 66 = .ok (.invokevirtual 146, 3) := by decide +kernel
theorem dX6_highBy_69 : decode cX6_highBy 69 = .ok (.iload_n 2, 1) := by decide +kernel
theorem dX6_highBy_70 : decode cX6_highBy 70 = .ok (.if_icmp .le 12, 3) := by decide +kernel
theorem dX6_highBy_73 : decode cX6_highBy 73 = .ok (.aload_n 0, 1) := by decide +kernel
theorem dX6_highBy_74 : decode cX6_highBy 74 = .ok (.iload_n 3, 1) := by decide +kernel
theorem dX6_highBy_75 : decode cX6_highBy 75 = .ok (.iconst 0, 1) := by decide +kernel
theorem dX6_highBy_76 : decode cX6_highBy 76 = .ok (.invokevirtual 146, 3) := by decide +kernel
theorem dX6_highBy_79 : decode cX6_highBy 79 = .ok (.goto 4, 3) := by decide +kernel
theorem dX6_highBy_82 : decode cX6_highBy 82 = .ok (.iload_n 2, 1) := by decide +kernel
theorem dX6_highBy_83 : decode cX6_highBy 83 = .ok (.istore_n 2, 1) := by decide +kernel
theorem dX6_highBy_84 : decode cX6_highBy 84 = .ok (.iinc 3 1, 3) := by decide +kernel
theorem dX6_highBy_87 : decode cX6_highBy 87 = .ok (.goto (-77), 3) := by decide +kernel
theorem dX6_highBy_90 : decode cX6_highBy 90 = .ok (.iload_n 2, 1) := by decide +kernel
theorem dX6_highBy_91 : decode cX6_highBy 91 = .ok (.ireturn, 1) := by decide +kernel
theorem dX6_comesDown_0 : decode cX6_comesDown 0 = .ok (.aload_n 0, 1) := by decide +kernel
theorem dX6_comesDown_1 : decode cX6_comesDown 1 = .ok (.iload_n 1, 1) := by decide +kernel
theorem dX6_comesDown_2 : decode cX6_comesDown 2 = .ok (.invokevirtual 202, 3) := by decide +kernel
theorem dX6_comesDown_5 : decode cX6_comesDown 5 = .ok (.aload_n 0, 1) := by decide +kernel
theorem dX6_comesDown_6 : decode cX6_comesDown 6 = .ok (.getfield 32, 3) := by decide +kernel
theorem dX6_comesDown_9 : decode cX6_comesDown 9 = .ok (.bipush 12, 2) := by decide +kernel
theorem dX6_comesDown_11 : decode cX6_comesDown 11 = .ok (.laload, 1) := by decide +kernel
theorem dX6_comesDown_12 : decode cX6_comesDown 12 = .ok (.lconst 0, 1) := by decide +kernel
theorem dX6_comesDown_13 : decode cX6_comesDown 13 = .ok (.lcmp, 1) := by decide +kernel
theorem dX6_comesDown_14 : decode cX6_comesDown 14 = .ok (.ifCond .le 7, 3) := by decide +kernel
theorem dX6_comesDown_17 : decode cX6_comesDown 17 = .ok (.iconst 1, 1) := by decide +kernel
theorem dX6_comesDown_18 : decode cX6_comesDown 18 = .ok (.goto 4, 3) := by decide +kernel
theorem dX6_comesDown_21 : decode cX6_comesDown 21 = .ok (.iconst 0, 1) := by decide +kernel
theorem dX6_comesDown_22 : decode cX6_comesDown 22 = .ok (.ireturn, 1) := by decide +kernel
theorem dX6_reached_0 : decode cX6_reached 0 = .ok (.aload_n 0, 1) := by decide +kernel
theorem dX6_reached_1 : decode cX6_reached 1 = .ok (.bipush 12, 2) := by decide +kernel
theorem dX6_reached_3 : decode cX6_reached 3 = .ok (.invokevirtual 202, 3) := by decide +kernel
theorem dX6_reached_6 : decode cX6_reached 6 = .ok (.iconst 0, 1) := by decide +kernel
theorem dX6_reached_7 : decode cX6_reached 7 = .ok (.istore_n 1, 1) := by decide +kernel
theorem dX6_reached_8 : decode cX6_reached 8 = .ok (.iconst 0, 1) := by decide +kernel
theorem dX6_reached_9 : decode cX6_reached 9 = .ok (.istore_n 2, 1) := by decide +kernel
theorem dX6_reached_10 : decode cX6_reached 10 = .ok (.iload_n 2, 1) := by decide +kernel
theorem dX6_reached_11 : decode cX6_reached 11 = .ok (.aload_n 0, 1) := by decide +kernel
theorem dX6_reached_12 : decode cX6_reached 12 = .ok (.getfield 13, 3) := by decide +kernel
theorem dX6_reached_15 : decode cX6_reached 15 = .ok (.iconst 0, 1) := by decide +kernel
theorem dX6_reached_16 : decode cX6_reached 16 = .ok (.iaload, 1) := by decide +kernel
theorem dX6_reached_17 : decode cX6_reached 17 = .ok (.if_icmp .ge 30, 3) := by decide +kernel
theorem dX6_reached_20 : decode cX6_reached 20 = .ok (.iload_n 1, 1) := by decide +kernel
theorem dX6_reached_21 : decode cX6_reached 21 = .ok (.aload_n 0, 1) := by decide +kernel
theorem dX6_reached_22 : decode cX6_reached 22 = .ok (.getfield 32, 3) := by decide +kernel
theorem dX6_reached_25 : decode cX6_reached 25 = .ok (.iload_n 2, 1) := by decide +kernel
theorem dX6_reached_26 : decode cX6_reached 26 = .ok (.laload, 1) := by decide +kernel
theorem dX6_reached_27 : decode cX6_reached 27 = .ok (.lconst 0, 1) := by decide +kernel
theorem dX6_reached_28 : decode cX6_reached 28 = .ok (.lcmp, 1) := by decide +kernel
theorem dX6_reached_29 : decode cX6_reached 29 = .ok (.ifCond .le 9, 3) := by decide +kernel
theorem dX6_reached_32 : decode cX6_reached 32 = .ok (.iconst 1, 1) := by decide +kernel
theorem dX6_reached_33 : decode cX6_reached 33 = .ok (.iload_n 2, 1) := by decide +kernel
theorem dX6_reached_34 : decode cX6_reached 34 = .ok (.ishl, 1) := by decide +kernel
theorem dX6_reached_35 : decode cX6_reached 35 = .ok (.goto 4, 3) := by decide +kernel
theorem dX6_reached_38 : decode cX6_reached 38 = .ok (.iconst 0, 1) := by decide +kernel
theorem dX6_reached_39 : decode cX6_reached 39 = .ok (.ior, 1) := by decide +kernel
theorem dX6_reached_40 : decode cX6_reached 40 = .ok (.istore_n 1, 1) := by decide +kernel
theorem dX6_reached_41 : decode cX6_reached 41 = .ok (.iinc 2 1, 3) := by decide +kernel
theorem dX6_reached_44 : decode cX6_reached 44 = .ok (.goto (-34), 3) := by decide +kernel
theorem dX6_reached_47 : decode cX6_reached 47 = .ok (.iload_n 1, 1) := by decide +kernel
theorem dX6_reached_48 : decode cX6_reached 48 = .ok (.ireturn, 1) := by decide +kernel
theorem dX6_high_0 : decode cX6_high 0 = .ok (.aload_n 0, 1) := by decide +kernel
theorem dX6_high_1 : decode cX6_high 1 = .ok (.iload_n 1, 1) := by decide +kernel
theorem dX6_high_2 : decode cX6_high 2 = .ok (.invokevirtual 149, 3) := by decide +kernel
theorem dX6_high_5 : decode cX6_high 5 = .ok (.ifCond .eq 12, 3) := by decide +kernel
theorem dX6_high_8 : decode cX6_high 8 = .ok (.iload_n 2, 1) := by decide +kernel
theorem dX6_high_9 : decode cX6_high 9 = .ok (.iconst 0, 1) := by decide +kernel
theorem dX6_high_10 : decode cX6_high 10 = .ok (.iconst 1, 1) := by decide +kernel
theorem dX6_high_11 : decode cX6_high 11 = .ok (.invokestatic 82, 3) := by decide +kernel
theorem dX6_high_14 : decode cX6_high 14 = .ok (.ifCond .ne 5, 3) := by decide +kernel
theorem dX6_high_17 : decode cX6_high 17 = .ok (.iconst (-1), 1) := by decide +kernel
theorem dX6_high_18 : decode cX6_high 18 = .ok (.ireturn, 1) := by decide +kernel
theorem dX6_high_19 : decode cX6_high 19 = .ok (.aload_n 0, 1) := by decide +kernel
theorem dX6_high_20 : decode cX6_high 20 = .ok (.iload_n 1, 1) := by decide +kernel
theorem dX6_high_21 : decode cX6_high 21 = .ok (.invokevirtual 179, 3) := by decide +kernel
theorem dX6_high_24 : decode cX6_high 24 = .ok (.iload_n 2, 1) := by decide +kernel
theorem dX6_high_25 : decode cX6_high 25 = .ok (.ifCond .ne 9, 3) := by decide +kernel
theorem dX6_high_28 : decode cX6_high 28 = .ok (.aload_n 0, 1) := by decide +kernel
theorem dX6_high_29 : decode cX6_high 29 = .ok (.iconst 0, 1) := by decide +kernel
theorem dX6_high_30 : decode cX6_high 30 = .ok (.invokevirtual 213, 3) := by decide +kernel
