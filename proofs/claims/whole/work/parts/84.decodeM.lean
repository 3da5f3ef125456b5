/-! decode rows -/
theorem d_M_init_0 : decode b_M_init 0 = .ok (.aload_n 0, 1) := by decide +kernel
theorem d_M_init_1 : decode b_M_init 1 = .ok (.invokespecial 1, 3) := by decide +kernel
theorem d_M_init_4 : decode b_M_init 4 = .ok (.aload_n 0, 1) := by decide +kernel
theorem d_M_init_5 : decode b_M_init 5 = .ok (.sipush 1000, 3) := by decide +kernel
theorem d_M_init_8 : decode b_M_init 8 = .ok (.putfield 7, 3) := by decide +kernel
theorem d_M_init_11 : decode b_M_init 11 = .ok (.aload_n 0, 1) := by decide +kernel
theorem d_M_init_12 : decode b_M_init 12 = .ok (.sipush 250, 3) := by decide +kernel
theorem d_M_init_15 : decode b_M_init 15 = .ok (.newarray .int, 2) := by decide +kernel
theorem d_M_init_17 : decode b_M_init 17 = .ok (.putfield 13, 3) := by decide +kernel
theorem d_M_init_20 : decode b_M_init 20 = .ok (.aload_n 0, 1) := by decide +kernel
theorem d_M_init_21 : decode b_M_init 21 = .ok (.sipush 250, 3) := by decide +kernel
theorem d_M_init_24 : decode b_M_init 24 = .ok (.newarray .boolean, 2) := by decide +kernel
theorem d_M_init_26 : decode b_M_init 26 = .ok (.putfield 17, 3) := by decide +kernel
theorem d_M_init_29 : decode b_M_init 29 = .ok (.aload_n 0, 1) := by decide +kernel
theorem d_M_init_30 : decode b_M_init 30 = .ok (.sipush 250, 3) := by decide +kernel
theorem d_M_init_33 : decode b_M_init 33 = .ok (.newarray .int, 2) := by decide +kernel
theorem d_M_init_35 : decode b_M_init 35 = .ok (.putfield 21, 3) := by decide +kernel
theorem d_M_init_38 : decode b_M_init 38 = .ok (.aload_n 0, 1) := by decide +kernel
theorem d_M_init_39 : decode b_M_init 39 = .ok (.sipush 250, 3) := by decide +kernel
theorem d_M_init_42 : decode b_M_init 42 = .ok (.newarray .int, 2) := by decide +kernel
theorem d_M_init_44 : decode b_M_init 44 = .ok (.putfield 24, 3) := by decide +kernel
theorem d_M_init_47 : decode b_M_init 47 = .ok (.aload_n 0, 1) := by decide +kernel
theorem d_M_init_48 : decode b_M_init 48 = .ok (.sipush 250, 3) := by decide +kernel
theorem d_M_init_51 : decode b_M_init 51 = .ok (.newarray .int, 2) := by decide +kernel
theorem d_M_init_53 : decode b_M_init 53 = .ok (.putfield 27, 3) := by decide +kernel
theorem d_M_init_56 : decode b_M_init 56 = .ok (.aload_n 0, 1) := by decide +kernel
theorem d_M_init_57 : decode b_M_init 57 = .ok (.sipush 250, 3) := by decide +kernel
theorem d_M_init_60 : decode b_M_init 60 = .ok (.newarray .int, 2) := by decide +kernel
theorem d_M_init_62 : decode b_M_init 62 = .ok (.putfield 30, 3) := by decide +kernel
theorem d_M_init_65 : decode b_M_init 65 = .ok (.aload_n 0, 1) := by decide +kernel
theorem d_M_init_66 : decode b_M_init 66 = .ok (.sipush 250, 3) := by decide +kernel
theorem d_M_init_69 : decode b_M_init 69 = .ok (.newarray .int, 2) := by decide +kernel
theorem d_M_init_71 : decode b_M_init 71 = .ok (.putfield 33, 3) := by decide +kernel
theorem d_M_init_74 : decode b_M_init 74 = .ok (.aload_n 0, 1) := by decide +kernel
theorem d_M_init_75 : decode b_M_init 75 = .ok (.sipush 250, 3) := by decide +kernel
theorem d_M_init_78 : decode b_M_init 78 = .ok (.newarray .int, 2) := by decide +kernel
theorem d_M_init_80 : decode b_M_init 80 = .ok (.putfield 36, 3) := by decide +kernel
theorem d_M_init_83 : decode b_M_init 83 = .ok (.aload_n 0, 1) := by decide +kernel
theorem d_M_init_84 : decode b_M_init 84 = .ok (.sipush 250, 3) := by decide +kernel
theorem d_M_init_87 : decode b_M_init 87 = .ok (.newarray .int, 2) := by decide +kernel
theorem d_M_init_89 : decode b_M_init 89 = .ok (.putfield 39, 3) := by decide +kernel
theorem d_M_init_92 : decode b_M_init 92 = .ok (.aload_n 0, 1) := by decide +kernel
theorem d_M_init_93 : decode b_M_init 93 = .ok (.sipush 30000, 3) := by decide +kernel
theorem d_M_init_96 : decode b_M_init 96 = .ok (.newarray .int, 2) := by decide +kernel
theorem d_M_init_98 : decode b_M_init 98 = .ok (.putfield 42, 3) := by decide +kernel
theorem d_M_init_101 : decode b_M_init 101 = .ok (.aload_n 0, 1) := by decide +kernel
theorem d_M_init_102 : decode b_M_init 102 = .ok (.sipush 30000, 3) := by decide +kernel
theorem d_M_init_105 : decode b_M_init 105 = .ok (.newarray .int, 2) := by decide +kernel
theorem d_M_init_107 : decode b_M_init 107 = .ok (.putfield 45, 3) := by decide +kernel
theorem d_M_init_110 : decode b_M_init 110 = .ok (.aload_n 0, 1) := by decide +kernel
theorem d_M_init_111 : decode b_M_init 111 = .ok (.sipush 30000, 3) := by decide +kernel
theorem d_M_init_114 : decode b_M_init 114 = .ok (.newarray .int, 2) := by decide +kernel
theorem d_M_init_116 : decode b_M_init 116 = .ok (.putfield 48, 3) := by decide +kernel
theorem d_M_init_119 : decode b_M_init 119 = .ok (.aload_n 0, 1) := by decide +kernel
theorem d_M_init_120 : decode b_M_init 120 = .ok (.sipush 30000, 3) := by decide +kernel
theorem d_M_init_123 : decode b_M_init 123 = .ok (.newarray .int, 2) := by decide +kernel
theorem d_M_init_125 : decode b_M_init 125 = .ok (.putfield 51, 3) := by decide +kernel
theorem d_M_init_128 : decode b_M_init 128 = .ok (.aload_n 0, 1) := by decide +kernel
theorem d_M_init_129 : decode b_M_init 129 = .ok (.sipush 2002, 3) := by decide +kernel
theorem d_M_init_132 : decode b_M_init 132 = .ok (.newarray .long, 2) := by decide +kernel
theorem d_M_init_134 : decode b_M_init 134 = .ok (.putfield 54, 3) := by decide +kernel
theorem d_M_init_137 : decode b_M_init 137 = .ok (.aload_n 0, 1) := by decide +kernel
theorem d_M_init_138 : decode b_M_init 138 = .ok (.sipush 2002, 3) := by decide +kernel
theorem d_M_init_141 : decode b_M_init 141 = .ok (.newarray .long, 2) := by decide +kernel
theorem d_M_init_143 : decode b_M_init 143 = .ok (.putfield 58, 3) := by decide +kernel
theorem d_M_init_146 : decode b_M_init 146 = .ok (.return_, 1) := by decide +kernel
theorem d_M_thrown_0 : decode b_M_thrown 0 = .ok (.aload_n 0, 1) := by decide +kernel
theorem d_M_thrown_1 : decode b_M_thrown 1 = .ok (.getfield 61, 3) := by decide +kernel
theorem d_M_thrown_4 : decode b_M_thrown 4 = .ok (.ireturn, 1) := by decide +kernel
theorem d_M_place_0 : decode b_M_place 0 = .ok (.iload_n 1, 1) := by decide +kernel
theorem d_M_place_1 : decode b_M_place 1 = .ok (.iconst 0, 1) := by decide +kernel
theorem d_M_place_2 : decode b_M_place 2 = .ok (.bipush 9, 2) := by decide +kernel
theorem d_M_place_4 : decode b_M_place 4 = .ok (.invokestatic 67, 3) := by decide +kernel
theorem d_M_place_7 : decode b_M_place 7 = .ok (.ifCond .eq 50, 3) := by decide +kernel
theorem d_M_place_10 : decode b_M_place 10 = .ok (.iload_n 3, 1) := by decide +kernel
theorem d_M_place_11 : decode b_M_place 11 = .ok (.iconst 0, 1) := by decide +kernel
theorem d_M_place_12 : decode b_M_place 12 = .ok (.sipush 2000, 3) := by decide +kernel
theorem d_M_place_15 : decode b_M_place 15 = .ok (.invokestatic 67, 3) := by decide +kernel
theorem d_M_place_18 : decode b_M_place 18 = .ok (.ifCond .eq 39, 3) := by decide +kernel
theorem d_M_place_21 : decode b_M_place 21 = .ok (.iload 4, 2) := by decide +kernel
theorem d_M_place_23 : decode b_M_place 23 = .ok (.iconst 1, 1) := by decide +kernel
theorem d_M_place_24 : decode b_M_place 24 = .ok (.ldc 132, 2) := by decide +kernel
theorem d_M_place_26 : decode b_M_place 26 = .ok (.invokestatic 67, 3) := by decide +kernel
theorem d_M_place_29 : decode b_M_place 29 = .ok (.ifCond .eq 28, 3) := by decide +kernel
theorem d_M_place_32 : decode b_M_place 32 = .ok (.iload 5, 2) := by decide +kernel
theorem d_M_place_34 : decode b_M_place 34 = .ok (.iconst 0, 1) := by decide +kernel
theorem d_M_place_35 : decode b_M_place 35 = .ok (.ldc 132, 2) := by decide +kernel
theorem d_M_place_37 : decode b_M_place 37 = .ok (.invokestatic 67, 3) := by decide +kernel
theorem d_M_place_40 : decode b_M_place 40 = .ok (.ifCond .eq 17, 3) := by decide +kernel
theorem d_M_place_43 : decode b_M_place 43 = .ok (.iload 6, 2) := by decide +kernel
theorem d_M_place_45 : decode b_M_place 45 = .ok (.iconst 0, 1) := by decide +kernel
theorem d_M_place_46 : decode b_M_place 46 = .ok (.iconst 2, 1) := by decide +kernel
theorem d_M_place_47 : decode b_M_place 47 = .ok (.invokestatic 67, 3) := by decide +kernel
theorem d_M_place_50 : decode b_M_place 50 = .ok (.ifCond .eq 7, 3) := by decide +kernel
theorem d_M_place_53 : decode b_M_place 53 = .ok (.iconst 1, 1) := by decide +kernel
theorem d_M_place_54 : decode b_M_place 54 = .ok (.goto 4, 3) := by decide +kernel
theorem d_M_place_57 : decode b_M_place 57 = .ok (.iconst 0, 1) := by decide +kernel
theorem d_M_place_58 : decode b_M_place 58 = .ok (.istore 7, 2) := by decide +kernel
theorem d_M_place_60 : decode b_M_place 60 = .ok (.aload_n 0, 1) := by decide +kernel
theorem d_M_place_61 : decode b_M_place 61 = .ok (.iload 7, 2) := by decide +kernel
theorem d_M_place_63 : decode b_M_place 63 = .ok (.ifCond .eq 23, 3) := by decide +kernel
theorem d_M_place_66 : decode b_M_place 66 = .ok (.iload 6, 2) := by decide +kernel
theorem d_M_place_68 : decode b_M_place 68 = .ok (.ifCond .le 8, 3) := by decide +kernel
theorem d_M_place_71 : decode b_M_place 71 = .ok (.iload 5, 2) := by decide +kernel
theorem d_M_place_73 : decode b_M_place 73 = .ok (.ifCond .gt 13, 3) := by decide +kernel
theorem d_M_place_76 : decode b_M_place 76 = .ok (.iload 4, 2) := by decide +kernel
theorem d_M_place_78 : decode b_M_place 78 = .ok (.iload 5, 2) := by decide +kernel
theorem d_M_place_80 : decode b_M_place 80 = .ok (.invokestatic 133, 3) := by decide +kernel
theorem d_M_place_83 : decode b_M_place 83 = .ok (.ifCond .ne 7, 3) := by decide +kernel
theorem d_M_place_86 : decode b_M_place 86 = .ok (.iconst 1, 1) := by decide +kernel
theorem d_M_place_87 : decode b_M_place 87 = .ok (.goto 4, 3) := by decide +kernel
theorem d_M_place_90 : decode b_M_place 90 = .ok (.iconst 0, 1) := by decide +kernel
theorem d_M_place_91 : decode b_M_place 91 = .ok (.putfield 61, 3) := by decide +kernel
theorem d_M_place_94 : decode b_M_place 94 = .ok (.aload_n 0, 1) := by decide +kernel
theorem d_M_place_95 : decode b_M_place 95 = .ok (.getfield 61, 3) := by decide +kernel
theorem d_M_place_98 : decode b_M_place 98 = .ok (.ifCond .ne 43, 3) := by decide +kernel
theorem d_M_place_101 : decode b_M_place 101 = .ok (.aload_n 0, 1) := by decide +kernel
theorem d_M_place_102 : decode b_M_place 102 = .ok (.aload_n 0, 1) := by decide +kernel
theorem d_M_place_103 : decode b_M_place 103 = .ok (.getfield 64, 3) := by decide +kernel
theorem d_M_place_106 : decode b_M_place 106 = .ok (.sipush 250, 3) := by decide +kernel
theorem d_M_place_109 : decode b_M_place 109 = .ok (.if_icmp .eq 24, 3) := by decide +kernel
theorem d_M_place_112 : decode b_M_place 112 = .ok (.aload_n 0, 1) := by decide +kernel
theorem d_M_place_113 : decode b_M_place 113 = .ok (.getfield 113, 3) := by decide +kernel
theorem d_M_place_116 : decode b_M_place 116 = .ok (.iconst 2, 1) := by decide +kernel
theorem d_M_place_117 : decode b_M_place 117 = .ok (.if_icmp .eq 16, 3) := by decide +kernel
theorem d_M_place_120 : decode b_M_place 120 = .ok (.iload 6, 2) := by decide +kernel
theorem d_M_place_122 : decode b_M_place 122 = .ok (.ifCond .le 15, 3) := by decide +kernel
theorem d_M_place_125 : decode b_M_place 125 = .ok (.aload_n 0, 1) := by decide +kernel
theorem d_M_place_126 : decode b_M_place 126 = .ok (.getfield 113, 3) := by decide +kernel
theorem d_M_place_129 : decode b_M_place 129 = .ok (.iconst 1, 1) := by decide +kernel
theorem d_M_place_130 : decode b_M_place 130 = .ok (.if_icmp .eq 7, 3) := by decide +kernel
theorem d_M_place_133 : decode b_M_place 133 = .ok (.iconst 2, 1) := by decide +kernel
theorem d_M_place_134 : decode b_M_place 134 = .ok (.goto 4, 3) := by decide +kernel
theorem d_M_place_137 : decode b_M_place 137 = .ok (.iconst 0, 1) := by decide +kernel
theorem d_M_place_138 : decode b_M_place 138 = .ok (.putfield 61, 3) := by decide +kernel
theorem d_M_place_141 : decode b_M_place 141 = .ok (.aload_n 0, 1) := by decide +kernel
theorem d_M_place_142 : decode b_M_place 142 = .ok (.getfield 61, 3) := by decide +kernel
theorem d_M_place_145 : decode b_M_place 145 = .ok (.ifCond .le 5, 3) := by decide +kernel
theorem d_M_place_148 : decode b_M_place 148 = .ok (.iconst 0, 1) := by decide +kernel
theorem d_M_place_149 : decode b_M_place 149 = .ok (.ireturn, 1) := by decide +kernel
theorem d_M_place_150 : decode b_M_place 150 = .ok (.aload_n 0, 1) := by decide +kernel
theorem d_M_place_151 : decode b_M_place 151 = .ok (.getfield 64, 3) := by decide +kernel
theorem d_M_place_154 : decode b_M_place 154 = .ok (.istore 8, 2) := by decide +kernel
theorem d_M_place_156 : decode b_M_place 156 = .ok (.aload_n 0, 1) := by decide +kernel
theorem d_M_place_157 : decode b_M_place 157 = .ok (.dup, 1) := by decide +kernel
theorem d_M_place_158 : decode b_M_place 158 = .ok (.getfield 64, 3) := by decide +kernel
theorem d_M_place_161 : decode b_M_place 161 = .ok (.iconst 1, 1) := by decide +kernel
theorem d_M_place_162 : decode b_M_place 162 = .ok (.iadd, 1) := by decide +kernel
theorem d_M_place_163 : decode b_M_place 163 = .ok (.putfield 64, 3) := by decide +kernel
theorem d_M_place_166 : decode b_M_place 166 = .ok (.aload_n 0, 1) := by decide +kernel
theorem d_M_place_167 : decode b_M_place 167 = .ok (.getfield 13, 3) := by decide +kernel
theorem d_M_place_170 : decode b_M_place 170 = .ok (.iload 8, 2) := by decide +kernel
theorem d_M_place_172 : decode b_M_place 172 = .ok (.iload_n 1, 1) := by decide +kernel
theorem d_M_place_173 : decode b_M_place 173 = .ok (.iastore, 1) := by decide +kernel
theorem d_M_place_174 : decode b_M_place 174 = .ok (.aload_n 0, 1) := by decide +kernel
theorem d_M_place_175 : decode b_M_place 175 = .ok (.getfield 17, 3) := by decide +kernel
theorem d_M_place_178 : decode b_M_place 178 = .ok (.iload 8, 2) := by decide +kernel
theorem d_M_place_180 : decode b_M_place 180 = .ok (.iload_n 2, 1) := by decide +kernel
theorem d_M_place_181 : decode b_M_place 181 = .ok (.bastore, 1) := by decide +kernel
theorem d_M_place_182 : decode b_M_place 182 = .ok (.aload_n 0, 1) := by decide +kernel
theorem d_M_place_183 : decode b_M_place 183 = .ok (.getfield 21, 3) := by decide +kernel
theorem d_M_place_186 : decode b_M_place 186 = .ok (.iload 8, 2) := by decide +kernel
theorem d_M_place_188 : decode b_M_place 188 = .ok (.iload_n 3, 1) := by decide +kernel
theorem d_M_place_189 : decode b_M_place 189 = .ok (.iastore, 1) := by decide +kernel
theorem d_M_place_190 : decode b_M_place 190 = .ok (.aload_n 0, 1) := by decide +kernel
theorem d_M_place_191 : decode b_M_place 191 = .ok (.getfield 24, 3) := by decide +kernel
theorem d_M_place_194 : decode b_M_place 194 = .ok (.iload 8, 2) := by decide +kernel
theorem d_M_place_196 : decode b_M_place 196 = .ok (.iload 4, 2) := by decide +kernel
theorem d_M_place_198 : decode b_M_place 198 = .ok (.iastore, 1) := by decide +kernel
theorem d_M_place_199 : decode b_M_place 199 = .ok (.aload_n 0, 1) := by decide +kernel
theorem d_M_place_200 : decode b_M_place 200 = .ok (.getfield 39, 3) := by decide +kernel
theorem d_M_place_203 : decode b_M_place 203 = .ok (.iload 8, 2) := by decide +kernel
theorem d_M_place_205 : decode b_M_place 205 = .ok (.iload 5, 2) := by decide +kernel
theorem d_M_place_207 : decode b_M_place 207 = .ok (.iastore, 1) := by decide +kernel
theorem d_M_place_208 : decode b_M_place 208 = .ok (.aload_n 0, 1) := by decide +kernel
theorem d_M_place_209 : decode b_M_place 209 = .ok (.getfield 33, 3) := by decide +kernel
theorem d_M_place_212 : decode b_M_place 212 = .ok (.iload 8, 2) := by decide +kernel
theorem d_M_place_214 : decode b_M_place 214 = .ok (.iload 6, 2) := by decide +kernel
theorem d_M_place_216 : decode b_M_place 216 = .ok (.iastore, 1) := by decide +kernel
theorem d_M_place_217 : decode b_M_place 217 = .ok (.aload_n 0, 1) := by decide +kernel
theorem d_M_place_218 : decode b_M_place 218 = .ok (.getfield 30, 3) := by decide +kernel
theorem d_M_place_221 : decode b_M_place 221 = .ok (.iload 8, 2) := by decide +kernel
theorem d_M_place_223 : decode b_M_place 223 = .ok (.iconst (-1), 1) := by decide +kernel
theorem d_M_place_224 : decode b_M_place 224 = .ok (.iastore, 1) := by decide +kernel
theorem d_M_place_225 : decode b_M_place 225 = .ok (.aload_n 0, 1) := by decide +kernel
theorem d_M_place_226 : decode b_M_place 226 = .ok (.iload 8, 2) := by decide +kernel
theorem d_M_place_228 : decode b_M_place 228 = .ok (.invokevirtual 136, 3) := by decide +kernel
theorem d_M_place_231 : decode b_M_place 231 = .ok (.istore 9, 2) := by decide +kernel
theorem d_M_place_233 : decode b_M_place 233 = .ok (.iload 8, 2) := by decide +kernel
theorem d_M_place_235 : decode b_M_place 235 = .ok (.ireturn, 1) := by decide +kernel
theorem d_M_in_0 : decode b_M_in 0 = .ok (.iload_n 0, 1) := by decide +kernel
theorem d_M_in_1 : decode b_M_in 1 = .ok (.iload_n 1, 1) := by decide +kernel
theorem d_M_in_2 : decode b_M_in 2 = .ok (.if_icmp .lt 12, 3) := by decide +kernel
theorem d_M_in_5 : decode b_M_in 5 = .ok (.iload_n 0, 1) := by decide +kernel
theorem d_M_in_6 : decode b_M_in 6 = .ok (.iload_n 2, 1) := by decide +kernel
theorem d_M_in_7 : decode b_M_in 7 = .ok (.if_icmp .gt 7, 3) := by decide +kernel
theorem d_M_in_10 : decode b_M_in 10 = .ok (.iconst 1, 1) := by decide +kernel
theorem d_M_in_11 : decode b_M_in 11 = .ok (.goto 4, 3) := by decide +kernel
theorem d_M_in_14 : decode b_M_in 14 = .ok (.iconst 0, 1) := by decide +kernel
theorem d_M_in_15 : decode b_M_in 15 = .ok (.ireturn, 1) := by decide +kernel
theorem d_M_fitsPeak_0 : decode b_M_fitsPeak 0 = .ok (.iload_n 1, 1) := by decide +kernel
theorem d_M_fitsPeak_1 : decode b_M_fitsPeak 1 = .ok (.ifCond .eq 11, 3) := by decide +kernel
theorem d_M_fitsPeak_4 : decode b_M_fitsPeak 4 = .ok (.iload_n 0, 1) := by decide +kernel
theorem d_M_fitsPeak_5 : decode b_M_fitsPeak 5 = .ok (.bipush 50, 2) := by decide +kernel
theorem d_M_fitsPeak_7 : decode b_M_fitsPeak 7 = .ok (.iload_n 1, 1) := by decide +kernel
theorem d_M_fitsPeak_8 : decode b_M_fitsPeak 8 = .ok (.imul, 1) := by decide +kernel
theorem d_M_fitsPeak_9 : decode b_M_fitsPeak 9 = .ok (.if_icmp .gt 7, 3) := by decide +kernel
theorem d_M_fitsPeak_12 : decode b_M_fitsPeak 12 = .ok (.iconst 1, 1) := by decide +kernel
theorem d_M_fitsPeak_13 : decode b_M_fitsPeak 13 = .ok (.goto 4, 3) := by decide +kernel
theorem d_M_fitsPeak_16 : decode b_M_fitsPeak 16 = .ok (.iconst 0, 1) := by decide +kernel
theorem d_M_fitsPeak_17 : decode b_M_fitsPeak 17 = .ok (.ireturn, 1) := by decide +kernel
theorem d_M_comes_0 : decode b_M_comes 0 = .ok (.aload_n 0, 1) := by decide +kernel
theorem d_M_comes_1 : decode b_M_comes 1 = .ok (.getfield 113, 3) := by decide +kernel
theorem d_M_comes_4 : decode b_M_comes 4 = .ok (.iconst 1, 1) := by decide +kernel
theorem d_M_comes_5 : decode b_M_comes 5 = .ok (.if_icmp .ne 68, 3) := by decide +kernel
theorem d_M_comes_8 : decode b_M_comes 8 = .ok (.aload_n 0, 1) := by decide +kernel
theorem d_M_comes_9 : decode b_M_comes 9 = .ok (.getfield 33, 3) := by decide +kernel
theorem d_M_comes_12 : decode b_M_comes 12 = .ok (.iload_n 1, 1) := by decide +kernel
theorem d_M_comes_13 : decode b_M_comes 13 = .ok (.iaload, 1) := by decide +kernel
theorem d_M_comes_14 : decode b_M_comes 14 = .ok (.iconst 2, 1) := by decide +kernel
theorem d_M_comes_15 : decode b_M_comes 15 = .ok (.if_icmp .ne 11, 3) := by decide +kernel
theorem d_M_comes_18 : decode b_M_comes 18 = .ok (.aload_n 0, 1) := by decide +kernel
theorem d_M_comes_19 : decode b_M_comes 19 = .ok (.iload_n 1, 1) := by decide +kernel
theorem d_M_comes_20 : decode b_M_comes 20 = .ok (.invokevirtual 126, 3) := by decide +kernel
theorem d_M_comes_23 : decode b_M_comes 23 = .ok (.ifCond .eq 8, 3) := by decide +kernel
theorem d_M_comes_26 : decode b_M_comes 26 = .ok (.aload_n 0, 1) := by decide +kernel
theorem d_M_comes_27 : decode b_M_comes 27 = .ok (.iload_n 1, 1) := by decide +kernel
theorem d_M_comes_28 : decode b_M_comes 28 = .ok (.invokevirtual 129, 3) := by decide +kernel
theorem d_M_comes_31 : decode b_M_comes 31 = .ok (.aload_n 0, 1) := by decide +kernel
theorem d_M_comes_32 : decode b_M_comes 32 = .ok (.getfield 24, 3) := by decide +kernel
theorem d_M_comes_35 : decode b_M_comes 35 = .ok (.iload_n 1, 1) := by decide +kernel
theorem d_M_comes_36 : decode b_M_comes 36 = .ok (.iaload, 1) := by decide +kernel
theorem d_M_comes_37 : decode b_M_comes 37 = .ok (.ifCond .eq 29, 3) := by decide +kernel
theorem d_M_comes_40 : decode b_M_comes 40 = .ok (.aload_n 0, 1) := by decide +kernel
theorem d_M_comes_41 : decode b_M_comes 41 = .ok (.getfield 33, 3) := by decide +kernel
theorem d_M_comes_44 : decode b_M_comes 44 = .ok (.iload_n 1, 1) := by decide +kernel
theorem d_M_comes_45 : decode b_M_comes 45 = .ok (.iaload, 1) := by decide +kernel
theorem d_M_comes_46 : decode b_M_comes 46 = .ok (.ifCond .ne 20, 3) := by decide +kernel
theorem d_M_comes_49 : decode b_M_comes 49 = .ok (.aload_n 0, 1) := by decide +kernel
theorem d_M_comes_50 : decode b_M_comes 50 = .ok (.getfield 21, 3) := by decide +kernel
theorem d_M_comes_53 : decode b_M_comes 53 = .ok (.iload_n 1, 1) := by decide +kernel
theorem d_M_comes_54 : decode b_M_comes 54 = .ok (.iaload, 1) := by decide +kernel
theorem d_M_comes_55 : decode b_M_comes 55 = .ok (.ifCond .ne 18, 3) := by decide +kernel
theorem d_M_comes_58 : decode b_M_comes 58 = .ok (.aload_n 0, 1) := by decide +kernel
theorem d_M_comes_59 : decode b_M_comes 59 = .ok (.getfield 113, 3) := by decide +kernel
theorem d_M_comes_62 : decode b_M_comes 62 = .ok (.iconst 2, 1) := by decide +kernel
theorem d_M_comes_63 : decode b_M_comes 63 = .ok (.if_icmp .eq 10, 3) := by decide +kernel
theorem d_M_comes_66 : decode b_M_comes 66 = .ok (.aload_n 0, 1) := by decide +kernel
theorem d_M_comes_67 : decode b_M_comes 67 = .ok (.iload_n 1, 1) := by decide +kernel
theorem d_M_comes_68 : decode b_M_comes 68 = .ok (.invokevirtual 120, 3) := by decide +kernel
theorem d_M_comes_71 : decode b_M_comes 71 = .ok (.iconst 0, 1) := by decide +kernel
theorem d_M_comes_72 : decode b_M_comes 72 = .ok (.ireturn, 1) := by decide +kernel
theorem d_M_comes_73 : decode b_M_comes 73 = .ok (.aload_n 0, 1) := by decide +kernel
theorem d_M_comes_74 : decode b_M_comes 74 = .ok (.iload_n 1, 1) := by decide +kernel
theorem d_M_comes_75 : decode b_M_comes 75 = .ok (.invokevirtual 123, 3) := by decide +kernel
theorem d_M_comes_78 : decode b_M_comes 78 = .ok (.iconst 1, 1) := by decide +kernel
theorem d_M_comes_79 : decode b_M_comes 79 = .ok (.ireturn, 1) := by decide +kernel
theorem d_M_isCovered_0 : decode b_M_isCovered 0 = .ok (.lconst 0, 1) := by decide +kernel
theorem d_M_isCovered_1 : decode b_M_isCovered 1 = .ok (.lstore_n 2, 1) := by decide +kernel
theorem d_M_isCovered_2 : decode b_M_isCovered 2 = .ok (.iconst 0, 1) := by decide +kernel
theorem d_M_isCovered_3 : decode b_M_isCovered 3 = .ok (.istore 4, 2) := by decide +kernel
theorem d_M_isCovered_5 : decode b_M_isCovered 5 = .ok (.iload 4, 2) := by decide +kernel
theorem d_M_isCovered_7 : decode b_M_isCovered 7 = .ok (.aload_n 0, 1) := by decide +kernel
theorem d_M_isCovered_8 : decode b_M_isCovered 8 = .ok (.getfield 64, 3) := by decide +kernel
theorem d_M_isCovered_11 : decode b_M_isCovered 11 = .ok (.if_icmp .ge 86, 3) := by decide +kernel
theorem d_M_isCovered_14 : decode b_M_isCovered 14 = .ok (.aload_n 0, 1) := by decide +kernel
theorem d_M_isCovered_15 : decode b_M_isCovered 15 = .ok (.iload 4, 2) := by decide +kernel
theorem d_M_isCovered_17 : decode b_M_isCovered 17 = .ok (.invokevirtual 71, 3) := by decide +kernel
theorem d_M_isCovered_20 : decode b_M_isCovered 20 = .ok (.ifCond .eq 48, 3) := by decide +kernel
theorem d_M_isCovered_23 : decode b_M_isCovered 23 = .ok (.aload_n 0, 1) := by decide +kernel
theorem d_M_isCovered_24 : decode b_M_isCovered 24 = .ok (.getfield 17, 3) := by decide +kernel
theorem d_M_isCovered_27 : decode b_M_isCovered 27 = .ok (.iload 4, 2) := by decide +kernel
theorem d_M_isCovered_29 : decode b_M_isCovered 29 = .ok (.baload, 1) := by decide +kernel
theorem d_M_isCovered_30 : decode b_M_isCovered 30 = .ok (.aload_n 0, 1) := by decide +kernel
theorem d_M_isCovered_31 : decode b_M_isCovered 31 = .ok (.getfield 17, 3) := by decide +kernel
theorem d_M_isCovered_34 : decode b_M_isCovered 34 = .ok (.iload_n 1, 1) := by decide +kernel
theorem d_M_isCovered_35 : decode b_M_isCovered 35 = .ok (.baload, 1) := by decide +kernel
theorem d_M_isCovered_36 : decode b_M_isCovered 36 = .ok (.if_icmp .eq 32, 3) := by decide +kernel
theorem d_M_isCovered_39 : decode b_M_isCovered 39 = .ok (.aload_n 0, 1) := by decide +kernel
theorem d_M_isCovered_40 : decode b_M_isCovered 40 = .ok (.iload_n 1, 1) := by decide +kernel
theorem d_M_isCovered_41 : decode b_M_isCovered 41 = .ok (.aload_n 0, 1) := by decide +kernel
theorem d_M_isCovered_42 : decode b_M_isCovered 42 = .ok (.getfield 21, 3) := by decide +kernel
theorem d_M_isCovered_45 : decode b_M_isCovered 45 = .ok (.iload 4, 2) := by decide +kernel
theorem d_M_isCovered_47 : decode b_M_isCovered 47 = .ok (.iaload, 1) := by decide +kernel
theorem d_M_isCovered_48 : decode b_M_isCovered 48 = .ok (.invokevirtual 100, 3) := by decide +kernel
theorem d_M_isCovered_51 : decode b_M_isCovered 51 = .ok (.ifCond .eq 17, 3) := by decide +kernel
theorem d_M_isCovered_54 : decode b_M_isCovered 54 = .ok (.aload_n 0, 1) := by decide +kernel
theorem d_M_isCovered_55 : decode b_M_isCovered 55 = .ok (.iload_n 1, 1) := by decide +kernel
theorem d_M_isCovered_56 : decode b_M_isCovered 56 = .ok (.iload 4, 2) := by decide +kernel
theorem d_M_isCovered_58 : decode b_M_isCovered 58 = .ok (.invokevirtual 103, 3) := by decide +kernel
theorem d_M_isCovered_61 : decode b_M_isCovered 61 = .ok (.ifCond .ne 7, 3) := by decide +kernel
theorem d_M_isCovered_64 : decode b_M_isCovered 64 = .ok (.iconst 1, 1) := by decide +kernel
theorem d_M_isCovered_65 : decode b_M_isCovered 65 = .ok (.goto 4, 3) := by decide +kernel
theorem d_M_isCovered_68 : decode b_M_isCovered 68 = .ok (.iconst 0, 1) := by decide +kernel
theorem d_M_isCovered_69 : decode b_M_isCovered 69 = .ok (.istore 5, 2) := by decide +kernel
theorem d_M_isCovered_71 : decode b_M_isCovered 71 = .ok (.lload_n 2, 1) := by decide +kernel
theorem d_M_isCovered_72 : decode b_M_isCovered 72 = .ok (.iload 5, 2) := by decide +kernel
theorem d_M_isCovered_74 : decode b_M_isCovered 74 = .ok (.ifCond .eq 14, 3) := by decide +kernel
theorem d_M_isCovered_77 : decode b_M_isCovered 77 = .ok (.aload_n 0, 1) := by decide +kernel
theorem d_M_isCovered_78 : decode b_M_isCovered 78 = .ok (.getfield 24, 3) := by decide +kernel
theorem d_M_isCovered_81 : decode b_M_isCovered 81 = .ok (.iload 4, 2) := by decide +kernel
theorem d_M_isCovered_83 : decode b_M_isCovered 83 = .ok (.iaload, 1) := by decide +kernel
theorem d_M_isCovered_84 : decode b_M_isCovered 84 = .ok (.i2l, 1) := by decide +kernel
theorem d_M_isCovered_85 : decode b_M_isCovered 85 = .ok (.goto 4, 3) := by decide +kernel
theorem d_M_isCovered_88 : decode b_M_isCovered 88 = .ok (.lconst 0, 1) := by decide +kernel
theorem d_M_isCovered_89 : decode b_M_isCovered 89 = .ok (.ladd, 1) := by decide +kernel
theorem d_M_isCovered_90 : decode b_M_isCovered 90 = .ok (.lstore_n 2, 1) := by decide +kernel
theorem d_M_isCovered_91 : decode b_M_isCovered 91 = .ok (.iinc 4 1, 3) := by decide +kernel
theorem d_M_isCovered_94 : decode b_M_isCovered 94 = .ok (.goto (-89), 3) := by decide +kernel
theorem d_M_isCovered_97 : decode b_M_isCovered 97 = .ok (.lload_n 2, 1) := by decide +kernel
theorem d_M_isCovered_98 : decode b_M_isCovered 98 = .ok (.aload_n 0, 1) := by decide +kernel
theorem d_M_isCovered_99 : decode b_M_isCovered 99 = .ok (.getfield 24, 3) := by decide +kernel
theorem d_M_isCovered_102 : decode b_M_isCovered 102 = .ok (.iload_n 1, 1) := by decide +kernel
theorem d_M_isCovered_103 : decode b_M_isCovered 103 = .ok (.iaload, 1) := by decide +kernel
theorem d_M_isCovered_104 : decode b_M_isCovered 104 = .ok (.i2l, 1) := by decide +kernel
theorem d_M_isCovered_105 : decode b_M_isCovered 105 = .ok (.lcmp, 1) := by decide +kernel
theorem d_M_isCovered_106 : decode b_M_isCovered 106 = .ok (.ifCond .lt 7, 3) := by decide +kernel
theorem d_M_isCovered_109 : decode b_M_isCovered 109 = .ok (.iconst 1, 1) := by decide +kernel
theorem d_M_isCovered_110 : decode b_M_isCovered 110 = .ok (.goto 4, 3) := by decide +kernel
theorem d_M_isCovered_113 : decode b_M_isCovered 113 = .ok (.iconst 0, 1) := by decide +kernel
theorem d_M_isCovered_114 : decode b_M_isCovered 114 = .ok (.ireturn, 1) := by decide +kernel
theorem d_M_rests_0 : decode b_M_rests 0 = .ok (.aload_n 0, 1) := by decide +kernel
theorem d_M_rests_1 : decode b_M_rests 1 = .ok (.getfield 30, 3) := by decide +kernel
theorem d_M_rests_4 : decode b_M_rests 4 = .ok (.iload_n 1, 1) := by decide +kernel
theorem d_M_rests_5 : decode b_M_rests 5 = .ok (.iaload, 1) := by decide +kernel
theorem d_M_rests_6 : decode b_M_rests 6 = .ok (.ifCond .lt 7, 3) := by decide +kernel
theorem d_M_rests_9 : decode b_M_rests 9 = .ok (.iconst 1, 1) := by decide +kernel
theorem d_M_rests_10 : decode b_M_rests 10 = .ok (.goto 4, 3) := by decide +kernel
theorem d_M_rests_13 : decode b_M_rests 13 = .ok (.iconst 0, 1) := by decide +kernel
theorem d_M_rests_14 : decode b_M_rests 14 = .ok (.ireturn, 1) := by decide +kernel
theorem d_M_takes_0 : decode b_M_takes 0 = .ok (.aload_n 0, 1) := by decide +kernel
theorem d_M_takes_1 : decode b_M_takes 1 = .ok (.getfield 21, 3) := by decide +kernel
theorem d_M_takes_4 : decode b_M_takes 4 = .ok (.iload_n 1, 1) := by decide +kernel
theorem d_M_takes_5 : decode b_M_takes 5 = .ok (.iaload, 1) := by decide +kernel
theorem d_M_takes_6 : decode b_M_takes 6 = .ok (.ifCond .eq 35, 3) := by decide +kernel
theorem d_M_takes_9 : decode b_M_takes 9 = .ok (.aload_n 0, 1) := by decide +kernel
theorem d_M_takes_10 : decode b_M_takes 10 = .ok (.getfield 17, 3) := by decide +kernel
theorem d_M_takes_13 : decode b_M_takes 13 = .ok (.iload_n 1, 1) := by decide +kernel
theorem d_M_takes_14 : decode b_M_takes 14 = .ok (.baload, 1) := by decide +kernel
theorem d_M_takes_15 : decode b_M_takes 15 = .ok (.ifCond .eq 16, 3) := by decide +kernel
theorem d_M_takes_18 : decode b_M_takes 18 = .ok (.iload_n 2, 1) := by decide +kernel
theorem d_M_takes_19 : decode b_M_takes 19 = .ok (.aload_n 0, 1) := by decide +kernel
theorem d_M_takes_20 : decode b_M_takes 20 = .ok (.getfield 21, 3) := by decide +kernel
theorem d_M_takes_23 : decode b_M_takes 23 = .ok (.iload_n 1, 1) := by decide +kernel
theorem d_M_takes_24 : decode b_M_takes 24 = .ok (.iaload, 1) := by decide +kernel
theorem d_M_takes_25 : decode b_M_takes 25 = .ok (.if_icmp .gt 20, 3) := by decide +kernel
theorem d_M_takes_28 : decode b_M_takes 28 = .ok (.goto 13, 3) := by decide +kernel
theorem d_M_takes_31 : decode b_M_takes 31 = .ok (.iload_n 2, 1) := by decide +kernel
theorem d_M_takes_32 : decode b_M_takes 32 = .ok (.aload_n 0, 1) := by decide +kernel
theorem d_M_takes_33 : decode b_M_takes 33 = .ok (.getfield 21, 3) := by decide +kernel
theorem d_M_takes_36 : decode b_M_takes 36 = .ok (.iload_n 1, 1) := by decide +kernel
theorem d_M_takes_37 : decode b_M_takes 37 = .ok (.iaload, 1) := by decide +kernel
theorem d_M_takes_38 : decode b_M_takes 38 = .ok (.if_icmp .lt 7, 3) := by decide +kernel
theorem d_M_takes_41 : decode b_M_takes 41 = .ok (.iconst 1, 1) := by decide +kernel
theorem d_M_takes_42 : decode b_M_takes 42 = .ok (.goto 4, 3) := by decide +kernel
theorem d_M_takes_45 : decode b_M_takes 45 = .ok (.iconst 0, 1) := by decide +kernel
theorem d_M_takes_46 : decode b_M_takes 46 = .ok (.ireturn, 1) := by decide +kernel
theorem d_M_isCut_0 : decode b_M_isCut 0 = .ok (.aload_n 0, 1) := by decide +kernel
theorem d_M_isCut_1 : decode b_M_isCut 1 = .ok (.aload_n 0, 1) := by decide +kernel
theorem d_M_isCut_2 : decode b_M_isCut 2 = .ok (.getfield 21, 3) := by decide +kernel
theorem d_M_isCut_5 : decode b_M_isCut 5 = .ok (.iload_n 2, 1) := by decide +kernel
theorem d_M_isCut_6 : decode b_M_isCut 6 = .ok (.iaload, 1) := by decide +kernel
theorem d_M_isCut_7 : decode b_M_isCut 7 = .ok (.invokevirtual 106, 3) := by decide +kernel
theorem d_M_isCut_10 : decode b_M_isCut 10 = .ok (.istore_n 3, 1) := by decide +kernel
theorem d_M_isCut_11 : decode b_M_isCut 11 = .ok (.iconst 0, 1) := by decide +kernel
theorem d_M_isCut_12 : decode b_M_isCut 12 = .ok (.istore 4, 2) := by decide +kernel
theorem d_M_isCut_14 : decode b_M_isCut 14 = .ok (.iload 4, 2) := by decide +kernel
theorem d_M_isCut_16 : decode b_M_isCut 16 = .ok (.aload_n 0, 1) := by decide +kernel
theorem d_M_isCut_17 : decode b_M_isCut 17 = .ok (.getfield 64, 3) := by decide +kernel
theorem d_M_isCut_20 : decode b_M_isCut 20 = .ok (.if_icmp .ge 83, 3) := by decide +kernel
theorem d_M_isCut_23 : decode b_M_isCut 23 = .ok (.iload_n 3, 1) := by decide +kernel
theorem d_M_isCut_24 : decode b_M_isCut 24 = .ok (.ifCond .ne 67, 3) := by decide +kernel
theorem d_M_isCut_27 : decode b_M_isCut 27 = .ok (.aload_n 0, 1) := by decide +kernel
theorem d_M_isCut_28 : decode b_M_isCut 28 = .ok (.iload 4, 2) := by decide +kernel
theorem d_M_isCut_30 : decode b_M_isCut 30 = .ok (.invokevirtual 71, 3) := by decide +kernel
theorem d_M_isCut_33 : decode b_M_isCut 33 = .ok (.ifCond .eq 62, 3) := by decide +kernel
theorem d_M_isCut_36 : decode b_M_isCut 36 = .ok (.aload_n 0, 1) := by decide +kernel
theorem d_M_isCut_37 : decode b_M_isCut 37 = .ok (.getfield 17, 3) := by decide +kernel
theorem d_M_isCut_40 : decode b_M_isCut 40 = .ok (.iload 4, 2) := by decide +kernel
theorem d_M_isCut_42 : decode b_M_isCut 42 = .ok (.baload, 1) := by decide +kernel
theorem d_M_isCut_43 : decode b_M_isCut 43 = .ok (.aload_n 0, 1) := by decide +kernel
theorem d_M_isCut_44 : decode b_M_isCut 44 = .ok (.getfield 17, 3) := by decide +kernel
theorem d_M_isCut_47 : decode b_M_isCut 47 = .ok (.iload_n 2, 1) := by decide +kernel
theorem d_M_isCut_48 : decode b_M_isCut 48 = .ok (.baload, 1) := by decide +kernel
theorem d_M_isCut_49 : decode b_M_isCut 49 = .ok (.if_icmp .ne 46, 3) := by decide +kernel
theorem d_M_isCut_52 : decode b_M_isCut 52 = .ok (.aload_n 0, 1) := by decide +kernel
theorem d_M_isCut_53 : decode b_M_isCut 53 = .ok (.iload 4, 2) := by decide +kernel
theorem d_M_isCut_55 : decode b_M_isCut 55 = .ok (.iload_n 2, 1) := by decide +kernel
theorem d_M_isCut_56 : decode b_M_isCut 56 = .ok (.invokevirtual 75, 3) := by decide +kernel
theorem d_M_isCut_59 : decode b_M_isCut 59 = .ok (.ifCond .eq 36, 3) := by decide +kernel
theorem d_M_isCut_62 : decode b_M_isCut 62 = .ok (.aload_n 0, 1) := by decide +kernel
theorem d_M_isCut_63 : decode b_M_isCut 63 = .ok (.aload_n 0, 1) := by decide +kernel
theorem d_M_isCut_64 : decode b_M_isCut 64 = .ok (.getfield 21, 3) := by decide +kernel
theorem d_M_isCut_67 : decode b_M_isCut 67 = .ok (.iload 4, 2) := by decide +kernel
theorem d_M_isCut_69 : decode b_M_isCut 69 = .ok (.iaload, 1) := by decide +kernel
theorem d_M_isCut_70 : decode b_M_isCut 70 = .ok (.invokevirtual 106, 3) := by decide +kernel
theorem d_M_isCut_73 : decode b_M_isCut 73 = .ok (.ifCond .ne 18, 3) := by decide +kernel
theorem d_M_isCut_76 : decode b_M_isCut 76 = .ok (.aload_n 0, 1) := by decide +kernel
theorem d_M_isCut_77 : decode b_M_isCut 77 = .ok (.iload_n 1, 1) := by decide +kernel
theorem d_M_isCut_78 : decode b_M_isCut 78 = .ok (.aload_n 0, 1) := by decide +kernel
theorem d_M_isCut_79 : decode b_M_isCut 79 = .ok (.getfield 21, 3) := by decide +kernel
theorem d_M_isCut_82 : decode b_M_isCut 82 = .ok (.iload 4, 2) := by decide +kernel
theorem d_M_isCut_84 : decode b_M_isCut 84 = .ok (.iaload, 1) := by decide +kernel
theorem d_M_isCut_85 : decode b_M_isCut 85 = .ok (.invokevirtual 100, 3) := by decide +kernel
theorem d_M_isCut_88 : decode b_M_isCut 88 = .ok (.ifCond .ne 7, 3) := by decide +kernel
theorem d_M_isCut_91 : decode b_M_isCut 91 = .ok (.iconst 1, 1) := by decide +kernel
theorem d_M_isCut_92 : decode b_M_isCut 92 = .ok (.goto 4, 3) := by decide +kernel
theorem d_M_isCut_95 : decode b_M_isCut 95 = .ok (.iconst 0, 1) := by decide +kernel
theorem d_M_isCut_96 : decode b_M_isCut 96 = .ok (.istore_n 3, 1) := by decide +kernel
theorem d_M_isCut_97 : decode b_M_isCut 97 = .ok (.iinc 4 1, 3) := by decide +kernel
theorem d_M_isCut_100 : decode b_M_isCut 100 = .ok (.goto (-86), 3) := by decide +kernel
theorem d_M_isCut_103 : decode b_M_isCut 103 = .ok (.iload_n 3, 1) := by decide +kernel
theorem d_M_isCut_104 : decode b_M_isCut 104 = .ok (.ireturn, 1) := by decide +kernel
theorem d_M_isBeyond_0 : decode b_M_isBeyond 0 = .ok (.aload_n 0, 1) := by decide +kernel
theorem d_M_isBeyond_1 : decode b_M_isBeyond 1 = .ok (.getfield 93, 3) := by decide +kernel
theorem d_M_isBeyond_4 : decode b_M_isBeyond 4 = .ok (.ifCond .le 26, 3) := by decide +kernel
theorem d_M_isBeyond_7 : decode b_M_isBeyond 7 = .ok (.iload_n 1, 1) := by decide +kernel
theorem d_M_isBeyond_8 : decode b_M_isBeyond 8 = .ok (.aload_n 0, 1) := by decide +kernel
theorem d_M_isBeyond_9 : decode b_M_isBeyond 9 = .ok (.getfield 7, 3) := by decide +kernel
theorem d_M_isBeyond_12 : decode b_M_isBeyond 12 = .ok (.isub, 1) := by decide +kernel
theorem d_M_isBeyond_13 : decode b_M_isBeyond 13 = .ok (.i2l, 1) := by decide +kernel
theorem d_M_isBeyond_14 : decode b_M_isBeyond 14 = .ok (.invokestatic 96, 3) := by decide +kernel
theorem d_M_isBeyond_17 : decode b_M_isBeyond 17 = .ok (.aload_n 0, 1) := by decide +kernel
theorem d_M_isBeyond_18 : decode b_M_isBeyond 18 = .ok (.getfield 93, 3) := by decide +kernel
theorem d_M_isBeyond_21 : decode b_M_isBeyond 21 = .ok (.i2l, 1) := by decide +kernel
theorem d_M_isBeyond_22 : decode b_M_isBeyond 22 = .ok (.lcmp, 1) := by decide +kernel
theorem d_M_isBeyond_23 : decode b_M_isBeyond 23 = .ok (.ifCond .le 7, 3) := by decide +kernel
theorem d_M_isBeyond_26 : decode b_M_isBeyond 26 = .ok (.iconst 1, 1) := by decide +kernel
theorem d_M_isBeyond_27 : decode b_M_isBeyond 27 = .ok (.goto 4, 3) := by decide +kernel
theorem d_M_isBeyond_30 : decode b_M_isBeyond 30 = .ok (.iconst 0, 1) := by decide +kernel
theorem d_M_isBeyond_31 : decode b_M_isBeyond 31 = .ok (.ireturn, 1) := by decide +kernel
theorem d_M_abs_0 : decode b_M_abs 0 = .ok (.lload_n 0, 1) := by decide +kernel
theorem d_M_abs_1 : decode b_M_abs 1 = .ok (.lconst 0, 1) := by decide +kernel
theorem d_M_abs_2 : decode b_M_abs 2 = .ok (.lcmp, 1) := by decide +kernel
theorem d_M_abs_3 : decode b_M_abs 3 = .ok (.ifCond .ge 8, 3) := by decide +kernel
theorem d_M_abs_6 : decode b_M_abs 6 = .ok (.lload_n 0, 1) := by decide +kernel
theorem d_M_abs_7 : decode b_M_abs 7 = .ok (.lneg, 1) := by decide +kernel
theorem d_M_abs_8 : decode b_M_abs 8 = .ok (.goto 4, 3) := by decide +kernel
theorem d_M_abs_11 : decode b_M_abs 11 = .ok (.lload_n 0, 1) := by decide +kernel
theorem d_M_abs_12 : decode b_M_abs 12 = .ok (.lreturn, 1) := by decide +kernel
theorem d_M_isBefore_0 : decode b_M_isBefore 0 = .ok (.aload_n 0, 1) := by decide +kernel
theorem d_M_isBefore_1 : decode b_M_isBefore 1 = .ok (.getfield 21, 3) := by decide +kernel
theorem d_M_isBefore_4 : decode b_M_isBefore 4 = .ok (.iload_n 1, 1) := by decide +kernel
theorem d_M_isBefore_5 : decode b_M_isBefore 5 = .ok (.iaload, 1) := by decide +kernel
theorem d_M_isBefore_6 : decode b_M_isBefore 6 = .ok (.aload_n 0, 1) := by decide +kernel
theorem d_M_isBefore_7 : decode b_M_isBefore 7 = .ok (.getfield 21, 3) := by decide +kernel
theorem d_M_isBefore_10 : decode b_M_isBefore 10 = .ok (.iload_n 2, 1) := by decide +kernel
theorem d_M_isBefore_11 : decode b_M_isBefore 11 = .ok (.iaload, 1) := by decide +kernel
theorem d_M_isBefore_12 : decode b_M_isBefore 12 = .ok (.if_icmp .ne 24, 3) := by decide +kernel
theorem d_M_isBefore_15 : decode b_M_isBefore 15 = .ok (.aload_n 0, 1) := by decide +kernel
theorem d_M_isBefore_16 : decode b_M_isBefore 16 = .ok (.getfield 30, 3) := by decide +kernel
theorem d_M_isBefore_19 : decode b_M_isBefore 19 = .ok (.iload_n 1, 1) := by decide +kernel
theorem d_M_isBefore_20 : decode b_M_isBefore 20 = .ok (.iaload, 1) := by decide +kernel
theorem d_M_isBefore_21 : decode b_M_isBefore 21 = .ok (.aload_n 0, 1) := by decide +kernel
theorem d_M_isBefore_22 : decode b_M_isBefore 22 = .ok (.getfield 30, 3) := by decide +kernel
theorem d_M_isBefore_25 : decode b_M_isBefore 25 = .ok (.iload_n 2, 1) := by decide +kernel
theorem d_M_isBefore_26 : decode b_M_isBefore 26 = .ok (.iaload, 1) := by decide +kernel
theorem d_M_isBefore_27 : decode b_M_isBefore 27 = .ok (.if_icmp .ge 7, 3) := by decide +kernel
theorem d_M_isBefore_30 : decode b_M_isBefore 30 = .ok (.iconst 1, 1) := by decide +kernel
theorem d_M_isBefore_31 : decode b_M_isBefore 31 = .ok (.goto 4, 3) := by decide +kernel
theorem d_M_isBefore_34 : decode b_M_isBefore 34 = .ok (.iconst 0, 1) := by decide +kernel
theorem d_M_isBefore_35 : decode b_M_isBefore 35 = .ok (.ireturn, 1) := by decide +kernel
theorem d_M_isBefore_36 : decode b_M_isBefore 36 = .ok (.aload_n 0, 1) := by decide +kernel
theorem d_M_isBefore_37 : decode b_M_isBefore 37 = .ok (.getfield 17, 3) := by decide +kernel
theorem d_M_isBefore_40 : decode b_M_isBefore 40 = .ok (.iload_n 1, 1) := by decide +kernel
theorem d_M_isBefore_41 : decode b_M_isBefore 41 = .ok (.baload, 1) := by decide +kernel
theorem d_M_isBefore_42 : decode b_M_isBefore 42 = .ok (.ifCond .eq 26, 3) := by decide +kernel
theorem d_M_isBefore_45 : decode b_M_isBefore 45 = .ok (.aload_n 0, 1) := by decide +kernel
theorem d_M_isBefore_46 : decode b_M_isBefore 46 = .ok (.getfield 21, 3) := by decide +kernel
theorem d_M_isBefore_49 : decode b_M_isBefore 49 = .ok (.iload_n 1, 1) := by decide +kernel
theorem d_M_isBefore_50 : decode b_M_isBefore 50 = .ok (.iaload, 1) := by decide +kernel
theorem d_M_isBefore_51 : decode b_M_isBefore 51 = .ok (.aload_n 0, 1) := by decide +kernel
theorem d_M_isBefore_52 : decode b_M_isBefore 52 = .ok (.getfield 21, 3) := by decide +kernel
theorem d_M_isBefore_55 : decode b_M_isBefore 55 = .ok (.iload_n 2, 1) := by decide +kernel
theorem d_M_isBefore_56 : decode b_M_isBefore 56 = .ok (.iaload, 1) := by decide +kernel
theorem d_M_isBefore_57 : decode b_M_isBefore 57 = .ok (.if_icmp .le 7, 3) := by decide +kernel
theorem d_M_isBefore_60 : decode b_M_isBefore 60 = .ok (.iconst 1, 1) := by decide +kernel
theorem d_M_isBefore_61 : decode b_M_isBefore 61 = .ok (.goto 27, 3) := by decide +kernel
theorem d_M_isBefore_64 : decode b_M_isBefore 64 = .ok (.iconst 0, 1) := by decide +kernel
theorem d_M_isBefore_65 : decode b_M_isBefore 65 = .ok (.goto 23, 3) := by decide +kernel
theorem d_M_isBefore_68 : decode b_M_isBefore 68 = .ok (.aload_n 0, 1) := by decide +kernel
theorem d_M_isBefore_69 : decode b_M_isBefore 69 = .ok (.getfield 21, 3) := by decide +kernel
theorem d_M_isBefore_72 : decode b_M_isBefore 72 = .ok (.iload_n 1, 1) := by decide +kernel
theorem d_M_isBefore_73 : decode b_M_isBefore 73 = .ok (.iaload, 1) := by decide +kernel
theorem d_M_isBefore_74 : decode b_M_isBefore 74 = .ok (.aload_n 0, 1) := by decide +kernel
theorem d_M_isBefore_75 : decode b_M_isBefore 75 = .ok (.getfield 21, 3) := by decide +kernel
theorem d_M_isBefore_78 : decode b_M_isBefore 78 = .ok (.iload_n 2, 1) := by decide +kernel
theorem d_M_isBefore_79 : decode b_M_isBefore 79 = .ok (.iaload, 1) := by decide +kernel
theorem d_M_isBefore_80 : decode b_M_isBefore 80 = .ok (.if_icmp .ge 7, 3) := by decide +kernel
theorem d_M_isBefore_83 : decode b_M_isBefore 83 = .ok (.iconst 1, 1) := by decide +kernel
theorem d_M_isBefore_84 : decode b_M_isBefore 84 = .ok (.goto 4, 3) := by decide +kernel
theorem d_M_isBefore_87 : decode b_M_isBefore 87 = .ok (.iconst 0, 1) := by decide +kernel
theorem d_M_isBefore_88 : decode b_M_isBefore 88 = .ok (.istore_n 3, 1) := by decide +kernel
theorem d_M_isBefore_89 : decode b_M_isBefore 89 = .ok (.aload_n 0, 1) := by decide +kernel
theorem d_M_isBefore_90 : decode b_M_isBefore 90 = .ok (.getfield 21, 3) := by decide +kernel
theorem d_M_isBefore_93 : decode b_M_isBefore 93 = .ok (.iload_n 1, 1) := by decide +kernel
theorem d_M_isBefore_94 : decode b_M_isBefore 94 = .ok (.iaload, 1) := by decide +kernel
theorem d_M_isBefore_95 : decode b_M_isBefore 95 = .ok (.ifCond .eq 16, 3) := by decide +kernel
theorem d_M_isBefore_98 : decode b_M_isBefore 98 = .ok (.aload_n 0, 1) := by decide +kernel
theorem d_M_isBefore_99 : decode b_M_isBefore 99 = .ok (.getfield 21, 3) := by decide +kernel
theorem d_M_isBefore_102 : decode b_M_isBefore 102 = .ok (.iload_n 2, 1) := by decide +kernel
theorem d_M_isBefore_103 : decode b_M_isBefore 103 = .ok (.iaload, 1) := by decide +kernel
theorem d_M_isBefore_104 : decode b_M_isBefore 104 = .ok (.ifCond .le 11, 3) := by decide +kernel
theorem d_M_isBefore_107 : decode b_M_isBefore 107 = .ok (.iload_n 3, 1) := by decide +kernel
theorem d_M_isBefore_108 : decode b_M_isBefore 108 = .ok (.ifCond .eq 7, 3) := by decide +kernel
theorem d_M_isBefore_111 : decode b_M_isBefore 111 = .ok (.iconst 1, 1) := by decide +kernel
theorem d_M_isBefore_112 : decode b_M_isBefore 112 = .ok (.goto 4, 3) := by decide +kernel
theorem d_M_isBefore_115 : decode b_M_isBefore 115 = .ok (.iconst 0, 1) := by decide +kernel
theorem d_M_isBefore_116 : decode b_M_isBefore 116 = .ok (.ireturn, 1) := by decide +kernel
theorem d_M_meet_0 : decode b_M_meet 0 = .ok (.iconst 1, 1) := by decide +kernel
theorem d_M_meet_1 : decode b_M_meet 1 = .ok (.istore_n 2, 1) := by decide +kernel
theorem d_M_meet_2 : decode b_M_meet 2 = .ok (.iload_n 2, 1) := by decide +kernel
theorem d_M_meet_3 : decode b_M_meet 3 = .ok (.ifCond .eq 174, 3) := by decide +kernel
theorem d_M_meet_6 : decode b_M_meet 6 = .ok (.aload_n 0, 1) := by decide +kernel
theorem d_M_meet_7 : decode b_M_meet 7 = .ok (.getfield 24, 3) := by decide +kernel
theorem d_M_meet_10 : decode b_M_meet 10 = .ok (.iload_n 1, 1) := by decide +kernel
theorem d_M_meet_11 : decode b_M_meet 11 = .ok (.iaload, 1) := by decide +kernel
theorem d_M_meet_12 : decode b_M_meet 12 = .ok (.ifCond .le 165, 3) := by decide +kernel
theorem d_M_meet_15 : decode b_M_meet 15 = .ok (.aload_n 0, 1) := by decide +kernel
theorem d_M_meet_16 : decode b_M_meet 16 = .ok (.aload_n 0, 1) := by decide +kernel
theorem d_M_meet_17 : decode b_M_meet 17 = .ok (.getfield 17, 3) := by decide +kernel
theorem d_M_meet_20 : decode b_M_meet 20 = .ok (.iload_n 1, 1) := by decide +kernel
theorem d_M_meet_21 : decode b_M_meet 21 = .ok (.baload, 1) := by decide +kernel
theorem d_M_meet_22 : decode b_M_meet 22 = .ok (.ifCond .ne 7, 3) := by decide +kernel
theorem d_M_meet_25 : decode b_M_meet 25 = .ok (.iconst 1, 1) := by decide +kernel
theorem d_M_meet_26 : decode b_M_meet 26 = .ok (.goto 4, 3) := by decide +kernel
theorem d_M_meet_29 : decode b_M_meet 29 = .ok (.iconst 0, 1) := by decide +kernel
theorem d_M_meet_30 : decode b_M_meet 30 = .ok (.invokevirtual 109, 3) := by decide +kernel
theorem d_M_meet_33 : decode b_M_meet 33 = .ok (.istore_n 3, 1) := by decide +kernel
theorem d_M_meet_34 : decode b_M_meet 34 = .ok (.iload_n 3, 1) := by decide +kernel
theorem d_M_meet_35 : decode b_M_meet 35 = .ok (.ifCond .lt 21, 3) := by decide +kernel
theorem d_M_meet_38 : decode b_M_meet 38 = .ok (.aload_n 0, 1) := by decide +kernel
theorem d_M_meet_39 : decode b_M_meet 39 = .ok (.iload_n 1, 1) := by decide +kernel
theorem d_M_meet_40 : decode b_M_meet 40 = .ok (.aload_n 0, 1) := by decide +kernel
theorem d_M_meet_41 : decode b_M_meet 41 = .ok (.getfield 21, 3) := by decide +kernel
theorem d_M_meet_44 : decode b_M_meet 44 = .ok (.iload_n 3, 1) := by decide +kernel
theorem d_M_meet_45 : decode b_M_meet 45 = .ok (.iaload, 1) := by decide +kernel
theorem d_M_meet_46 : decode b_M_meet 46 = .ok (.invokevirtual 100, 3) := by decide +kernel
theorem d_M_meet_49 : decode b_M_meet 49 = .ok (.ifCond .eq 7, 3) := by decide +kernel
theorem d_M_meet_52 : decode b_M_meet 52 = .ok (.iconst 1, 1) := by decide +kernel
theorem d_M_meet_53 : decode b_M_meet 53 = .ok (.goto 4, 3) := by decide +kernel
theorem d_M_meet_56 : decode b_M_meet 56 = .ok (.iconst 0, 1) := by decide +kernel
theorem d_M_meet_57 : decode b_M_meet 57 = .ok (.istore_n 2, 1) := by decide +kernel
theorem d_M_meet_58 : decode b_M_meet 58 = .ok (.iload_n 2, 1) := by decide +kernel
theorem d_M_meet_59 : decode b_M_meet 59 = .ok (.ifCond .eq 23, 3) := by decide +kernel
theorem d_M_meet_62 : decode b_M_meet 62 = .ok (.aload_n 0, 1) := by decide +kernel
theorem d_M_meet_63 : decode b_M_meet 63 = .ok (.aload_n 0, 1) := by decide +kernel
theorem d_M_meet_64 : decode b_M_meet 64 = .ok (.getfield 21, 3) := by decide +kernel
theorem d_M_meet_67 : decode b_M_meet 67 = .ok (.iload_n 3, 1) := by decide +kernel
theorem d_M_meet_68 : decode b_M_meet 68 = .ok (.iaload, 1) := by decide +kernel
theorem d_M_meet_69 : decode b_M_meet 69 = .ok (.invokevirtual 106, 3) := by decide +kernel
theorem d_M_meet_72 : decode b_M_meet 72 = .ok (.ifCond .eq 10, 3) := by decide +kernel
theorem d_M_meet_75 : decode b_M_meet 75 = .ok (.aload_n 0, 1) := by decide +kernel
theorem d_M_meet_76 : decode b_M_meet 76 = .ok (.iconst 2, 1) := by decide +kernel
theorem d_M_meet_77 : decode b_M_meet 77 = .ok (.putfield 113, 3) := by decide +kernel
theorem d_M_meet_80 : decode b_M_meet 80 = .ok (.iconst 0, 1) := by decide +kernel
theorem d_M_meet_81 : decode b_M_meet 81 = .ok (.istore_n 2, 1) := by decide +kernel
theorem d_M_meet_82 : decode b_M_meet 82 = .ok (.iload_n 2, 1) := by decide +kernel
theorem d_M_meet_83 : decode b_M_meet 83 = .ok (.ifCond .eq 91, 3) := by decide +kernel
theorem d_M_meet_86 : decode b_M_meet 86 = .ok (.aload_n 0, 1) := by decide +kernel
theorem d_M_meet_87 : decode b_M_meet 87 = .ok (.getfield 24, 3) := by decide +kernel
theorem d_M_meet_90 : decode b_M_meet 90 = .ok (.iload_n 1, 1) := by decide +kernel
theorem d_M_meet_91 : decode b_M_meet 91 = .ok (.iaload, 1) := by decide +kernel
theorem d_M_meet_92 : decode b_M_meet 92 = .ok (.aload_n 0, 1) := by decide +kernel
theorem d_M_meet_93 : decode b_M_meet 93 = .ok (.getfield 27, 3) := by decide +kernel
theorem d_M_meet_96 : decode b_M_meet 96 = .ok (.iload_n 3, 1) := by decide +kernel
theorem d_M_meet_97 : decode b_M_meet 97 = .ok (.iaload, 1) := by decide +kernel
theorem d_M_meet_98 : decode b_M_meet 98 = .ok (.if_icmp .ge 12, 3) := by decide +kernel
theorem d_M_meet_101 : decode b_M_meet 101 = .ok (.aload_n 0, 1) := by decide +kernel
theorem d_M_meet_102 : decode b_M_meet 102 = .ok (.getfield 24, 3) := by decide +kernel
theorem d_M_meet_105 : decode b_M_meet 105 = .ok (.iload_n 1, 1) := by decide +kernel
theorem d_M_meet_106 : decode b_M_meet 106 = .ok (.iaload, 1) := by decide +kernel
theorem d_M_meet_107 : decode b_M_meet 107 = .ok (.goto 9, 3) := by decide +kernel
theorem d_M_meet_110 : decode b_M_meet 110 = .ok (.aload_n 0, 1) := by decide +kernel
theorem d_M_meet_111 : decode b_M_meet 111 = .ok (.getfield 27, 3) := by decide +kernel
theorem d_M_meet_114 : decode b_M_meet 114 = .ok (.iload_n 3, 1) := by decide +kernel
theorem d_M_meet_115 : decode b_M_meet 115 = .ok (.iaload, 1) := by decide +kernel
theorem d_M_meet_116 : decode b_M_meet 116 = .ok (.istore 4, 2) := by decide +kernel
theorem d_M_meet_118 : decode b_M_meet 118 = .ok (.aload_n 0, 1) := by decide +kernel
theorem d_M_meet_119 : decode b_M_meet 119 = .ok (.iload_n 1, 1) := by decide +kernel
theorem d_M_meet_120 : decode b_M_meet 120 = .ok (.iload_n 3, 1) := by decide +kernel
theorem d_M_meet_121 : decode b_M_meet 121 = .ok (.aload_n 0, 1) := by decide +kernel
theorem d_M_meet_122 : decode b_M_meet 122 = .ok (.getfield 21, 3) := by decide +kernel
theorem d_M_meet_125 : decode b_M_meet 125 = .ok (.iload_n 3, 1) := by decide +kernel
theorem d_M_meet_126 : decode b_M_meet 126 = .ok (.iaload, 1) := by decide +kernel
theorem d_M_meet_127 : decode b_M_meet 127 = .ok (.iload 4, 2) := by decide +kernel
theorem d_M_meet_129 : decode b_M_meet 129 = .ok (.invokevirtual 116, 3) := by decide +kernel
theorem d_M_meet_132 : decode b_M_meet 132 = .ok (.aload_n 0, 1) := by decide +kernel
theorem d_M_meet_133 : decode b_M_meet 133 = .ok (.getfield 27, 3) := by decide +kernel
theorem d_M_meet_136 : decode b_M_meet 136 = .ok (.iload_n 3, 1) := by decide +kernel
theorem d_M_meet_137 : decode b_M_meet 137 = .ok (.dup2, 1) := by decide +kernel
theorem d_M_meet_138 : decode b_M_meet 138 = .ok (.iaload, 1) := by decide +kernel
theorem d_M_meet_139 : decode b_M_meet 139 = .ok (.iload 4, 2) := by decide +kernel
theorem d_M_meet_141 : decode b_M_meet 141 = .ok (.isub, 1) := by decide +kernel
theorem d_M_meet_142 : decode b_M_meet 142 = .ok (.iastore, 1) := by decide +kernel
theorem d_M_meet_143 : decode b_M_meet 143 = .ok (.aload_n 0, 1) := by decide +kernel
theorem d_M_meet_144 : decode b_M_meet 144 = .ok (.getfield 24, 3) := by decide +kernel
theorem d_M_meet_147 : decode b_M_meet 147 = .ok (.iload_n 3, 1) := by decide +kernel
theorem d_M_meet_148 : decode b_M_meet 148 = .ok (.iaload, 1) := by decide +kernel
theorem d_M_meet_149 : decode b_M_meet 149 = .ok (.ifCond .ne 11, 3) := by decide +kernel
theorem d_M_meet_152 : decode b_M_meet 152 = .ok (.aload_n 0, 1) := by decide +kernel
theorem d_M_meet_153 : decode b_M_meet 153 = .ok (.iload_n 3, 1) := by decide +kernel
theorem d_M_meet_154 : decode b_M_meet 154 = .ok (.invokevirtual 120, 3) := by decide +kernel
theorem d_M_meet_157 : decode b_M_meet 157 = .ok (.goto 17, 3) := by decide +kernel
theorem d_M_meet_160 : decode b_M_meet 160 = .ok (.aload_n 0, 1) := by decide +kernel
theorem d_M_meet_161 : decode b_M_meet 161 = .ok (.getfield 27, 3) := by decide +kernel
theorem d_M_meet_164 : decode b_M_meet 164 = .ok (.iload_n 3, 1) := by decide +kernel
theorem d_M_meet_165 : decode b_M_meet 165 = .ok (.iaload, 1) := by decide +kernel
theorem d_M_meet_166 : decode b_M_meet 166 = .ok (.ifCond .ne 8, 3) := by decide +kernel
theorem d_M_meet_169 : decode b_M_meet 169 = .ok (.aload_n 0, 1) := by decide +kernel
theorem d_M_meet_170 : decode b_M_meet 170 = .ok (.iload_n 3, 1) := by decide +kernel
theorem d_M_meet_171 : decode b_M_meet 171 = .ok (.invokevirtual 123, 3) := by decide +kernel
theorem d_M_meet_174 : decode b_M_meet 174 = .ok (.goto (-172), 3) := by decide +kernel
theorem d_M_meet_177 : decode b_M_meet 177 = .ok (.return_, 1) := by decide +kernel
theorem d_M_firstOf_0 : decode b_M_firstOf 0 = .ok (.iconst (-1), 1) := by decide +kernel
theorem d_M_firstOf_1 : decode b_M_firstOf 1 = .ok (.istore_n 2, 1) := by decide +kernel
theorem d_M_firstOf_2 : decode b_M_firstOf 2 = .ok (.iconst 0, 1) := by decide +kernel
theorem d_M_firstOf_3 : decode b_M_firstOf 3 = .ok (.istore_n 3, 1) := by decide +kernel
theorem d_M_firstOf_4 : decode b_M_firstOf 4 = .ok (.iload_n 3, 1) := by decide +kernel
theorem d_M_firstOf_5 : decode b_M_firstOf 5 = .ok (.aload_n 0, 1) := by decide +kernel
theorem d_M_firstOf_6 : decode b_M_firstOf 6 = .ok (.getfield 64, 3) := by decide +kernel
theorem d_M_firstOf_9 : decode b_M_firstOf 9 = .ok (.if_icmp .ge 58, 3) := by decide +kernel
theorem d_M_firstOf_12 : decode b_M_firstOf 12 = .ok (.aload_n 0, 1) := by decide +kernel
theorem d_M_firstOf_13 : decode b_M_firstOf 13 = .ok (.iload_n 3, 1) := by decide +kernel
theorem d_M_firstOf_14 : decode b_M_firstOf 14 = .ok (.invokevirtual 71, 3) := by decide +kernel
theorem d_M_firstOf_17 : decode b_M_firstOf 17 = .ok (.ifCond .eq 17, 3) := by decide +kernel
theorem d_M_firstOf_20 : decode b_M_firstOf 20 = .ok (.aload_n 0, 1) := by decide +kernel
theorem d_M_firstOf_21 : decode b_M_firstOf 21 = .ok (.getfield 17, 3) := by decide +kernel
theorem d_M_firstOf_24 : decode b_M_firstOf 24 = .ok (.iload_n 3, 1) := by decide +kernel
theorem d_M_firstOf_25 : decode b_M_firstOf 25 = .ok (.baload, 1) := by decide +kernel
theorem d_M_firstOf_26 : decode b_M_firstOf 26 = .ok (.iload_n 1, 1) := by decide +kernel
theorem d_M_firstOf_27 : decode b_M_firstOf 27 = .ok (.if_icmp .ne 7, 3) := by decide +kernel
theorem d_M_firstOf_30 : decode b_M_firstOf 30 = .ok (.iconst 1, 1) := by decide +kernel
theorem d_M_firstOf_31 : decode b_M_firstOf 31 = .ok (.goto 4, 3) := by decide +kernel
theorem d_M_firstOf_34 : decode b_M_firstOf 34 = .ok (.iconst 0, 1) := by decide +kernel
theorem d_M_firstOf_35 : decode b_M_firstOf 35 = .ok (.istore 4, 2) := by decide +kernel
theorem d_M_firstOf_37 : decode b_M_firstOf 37 = .ok (.iload 4, 2) := by decide +kernel
theorem d_M_firstOf_39 : decode b_M_firstOf 39 = .ok (.ifCond .eq 20, 3) := by decide +kernel
theorem d_M_firstOf_42 : decode b_M_firstOf 42 = .ok (.iload_n 2, 1) := by decide +kernel
theorem d_M_firstOf_43 : decode b_M_firstOf 43 = .ok (.ifCond .lt 12, 3) := by decide +kernel
theorem d_M_firstOf_46 : decode b_M_firstOf 46 = .ok (.aload_n 0, 1) := by decide +kernel
theorem d_M_firstOf_47 : decode b_M_firstOf 47 = .ok (.iload_n 3, 1) := by decide +kernel
theorem d_M_firstOf_48 : decode b_M_firstOf 48 = .ok (.iload_n 2, 1) := by decide +kernel
theorem d_M_firstOf_49 : decode b_M_firstOf 49 = .ok (.invokevirtual 75, 3) := by decide +kernel
theorem d_M_firstOf_52 : decode b_M_firstOf 52 = .ok (.ifCond .eq 7, 3) := by decide +kernel
theorem d_M_firstOf_55 : decode b_M_firstOf 55 = .ok (.iload_n 3, 1) := by decide +kernel
theorem d_M_firstOf_56 : decode b_M_firstOf 56 = .ok (.goto 4, 3) := by decide +kernel
theorem d_M_firstOf_59 : decode b_M_firstOf 59 = .ok (.iload_n 2, 1) := by decide +kernel
theorem d_M_firstOf_60 : decode b_M_firstOf 60 = .ok (.istore_n 2, 1) := by decide +kernel
theorem d_M_firstOf_61 : decode b_M_firstOf 61 = .ok (.iinc 3 1, 3) := by decide +kernel
theorem d_M_firstOf_64 : decode b_M_firstOf 64 = .ok (.goto (-60), 3) := by decide +kernel
theorem d_M_firstOf_67 : decode b_M_firstOf 67 = .ok (.iload_n 2, 1) := by decide +kernel
theorem d_M_firstOf_68 : decode b_M_firstOf 68 = .ok (.ireturn, 1) := by decide +kernel
theorem d_M_deal_0 : decode b_M_deal 0 = .ok (.aload_n 0, 1) := by decide +kernel
theorem d_M_deal_1 : decode b_M_deal 1 = .ok (.getfield 24, 3) := by decide +kernel
theorem d_M_deal_4 : decode b_M_deal 4 = .ok (.iload_n 1, 1) := by decide +kernel
theorem d_M_deal_5 : decode b_M_deal 5 = .ok (.dup2, 1) := by decide +kernel
theorem d_M_deal_6 : decode b_M_deal 6 = .ok (.iaload, 1) := by decide +kernel
theorem d_M_deal_7 : decode b_M_deal 7 = .ok (.iload 4, 2) := by decide +kernel
theorem d_M_deal_9 : decode b_M_deal 9 = .ok (.isub, 1) := by decide +kernel
theorem d_M_deal_10 : decode b_M_deal 10 = .ok (.iastore, 1) := by decide +kernel
theorem d_M_deal_11 : decode b_M_deal 11 = .ok (.aload_n 0, 1) := by decide +kernel
theorem d_M_deal_12 : decode b_M_deal 12 = .ok (.getfield 24, 3) := by decide +kernel
theorem d_M_deal_15 : decode b_M_deal 15 = .ok (.iload_n 2, 1) := by decide +kernel
theorem d_M_deal_16 : decode b_M_deal 16 = .ok (.dup2, 1) := by decide +kernel
theorem d_M_deal_17 : decode b_M_deal 17 = .ok (.iaload, 1) := by decide +kernel
theorem d_M_deal_18 : decode b_M_deal 18 = .ok (.iload 4, 2) := by decide +kernel
theorem d_M_deal_20 : decode b_M_deal 20 = .ok (.isub, 1) := by decide +kernel
theorem d_M_deal_21 : decode b_M_deal 21 = .ok (.iastore, 1) := by decide +kernel
theorem d_M_deal_22 : decode b_M_deal 22 = .ok (.aload_n 0, 1) := by decide +kernel
theorem d_M_deal_23 : decode b_M_deal 23 = .ok (.getfield 36, 3) := by decide +kernel
theorem d_M_deal_26 : decode b_M_deal 26 = .ok (.iload_n 1, 1) := by decide +kernel
theorem d_M_deal_27 : decode b_M_deal 27 = .ok (.dup2, 1) := by decide +kernel
theorem d_M_deal_28 : decode b_M_deal 28 = .ok (.iaload, 1) := by decide +kernel
theorem d_M_deal_29 : decode b_M_deal 29 = .ok (.iload 4, 2) := by decide +kernel
theorem d_M_deal_31 : decode b_M_deal 31 = .ok (.iadd, 1) := by decide +kernel
theorem d_M_deal_32 : decode b_M_deal 32 = .ok (.iastore, 1) := by decide +kernel
theorem d_M_deal_33 : decode b_M_deal 33 = .ok (.aload_n 0, 1) := by decide +kernel
theorem d_M_deal_34 : decode b_M_deal 34 = .ok (.getfield 36, 3) := by decide +kernel
theorem d_M_deal_37 : decode b_M_deal 37 = .ok (.iload_n 2, 1) := by decide +kernel
theorem d_M_deal_38 : decode b_M_deal 38 = .ok (.dup2, 1) := by decide +kernel
theorem d_M_deal_39 : decode b_M_deal 39 = .ok (.iaload, 1) := by decide +kernel
theorem d_M_deal_40 : decode b_M_deal 40 = .ok (.iload 4, 2) := by decide +kernel
theorem d_M_deal_42 : decode b_M_deal 42 = .ok (.iadd, 1) := by decide +kernel
theorem d_M_deal_43 : decode b_M_deal 43 = .ok (.iastore, 1) := by decide +kernel
theorem d_M_deal_44 : decode b_M_deal 44 = .ok (.aload_n 0, 1) := by decide +kernel
theorem d_M_deal_45 : decode b_M_deal 45 = .ok (.getfield 42, 3) := by decide +kernel
theorem d_M_deal_48 : decode b_M_deal 48 = .ok (.aload_n 0, 1) := by decide +kernel
theorem d_M_deal_49 : decode b_M_deal 49 = .ok (.getfield 86, 3) := by decide +kernel
theorem d_M_deal_52 : decode b_M_deal 52 = .ok (.aload_n 0, 1) := by decide +kernel
theorem d_M_deal_53 : decode b_M_deal 53 = .ok (.getfield 17, 3) := by decide +kernel
theorem d_M_deal_56 : decode b_M_deal 56 = .ok (.iload_n 1, 1) := by decide +kernel
theorem d_M_deal_57 : decode b_M_deal 57 = .ok (.baload, 1) := by decide +kernel
theorem d_M_deal_58 : decode b_M_deal 58 = .ok (.ifCond .eq 7, 3) := by decide +kernel
theorem d_M_deal_61 : decode b_M_deal 61 = .ok (.iload_n 1, 1) := by decide +kernel
theorem d_M_deal_62 : decode b_M_deal 62 = .ok (.goto 4, 3) := by decide +kernel
theorem d_M_deal_65 : decode b_M_deal 65 = .ok (.iload_n 2, 1) := by decide +kernel
theorem d_M_deal_66 : decode b_M_deal 66 = .ok (.iastore, 1) := by decide +kernel
theorem d_M_deal_67 : decode b_M_deal 67 = .ok (.aload_n 0, 1) := by decide +kernel
theorem d_M_deal_68 : decode b_M_deal 68 = .ok (.getfield 45, 3) := by decide +kernel
theorem d_M_deal_71 : decode b_M_deal 71 = .ok (.aload_n 0, 1) := by decide +kernel
theorem d_M_deal_72 : decode b_M_deal 72 = .ok (.getfield 86, 3) := by decide +kernel
theorem d_M_deal_75 : decode b_M_deal 75 = .ok (.aload_n 0, 1) := by decide +kernel
theorem d_M_deal_76 : decode b_M_deal 76 = .ok (.getfield 17, 3) := by decide +kernel
theorem d_M_deal_79 : decode b_M_deal 79 = .ok (.iload_n 1, 1) := by decide +kernel
theorem d_M_deal_80 : decode b_M_deal 80 = .ok (.baload, 1) := by decide +kernel
theorem d_M_deal_81 : decode b_M_deal 81 = .ok (.ifCond .eq 7, 3) := by decide +kernel
theorem d_M_deal_84 : decode b_M_deal 84 = .ok (.iload_n 2, 1) := by decide +kernel
theorem d_M_deal_85 : decode b_M_deal 85 = .ok (.goto 4, 3) := by decide +kernel
theorem d_M_deal_88 : decode b_M_deal 88 = .ok (.iload_n 1, 1) := by decide +kernel
theorem d_M_deal_89 : decode b_M_deal 89 = .ok (.iastore, 1) := by decide +kernel
theorem d_M_deal_90 : decode b_M_deal 90 = .ok (.aload_n 0, 1) := by decide +kernel
theorem d_M_deal_91 : decode b_M_deal 91 = .ok (.getfield 48, 3) := by decide +kernel
theorem d_M_deal_94 : decode b_M_deal 94 = .ok (.aload_n 0, 1) := by decide +kernel
theorem d_M_deal_95 : decode b_M_deal 95 = .ok (.getfield 86, 3) := by decide +kernel
theorem d_M_deal_98 : decode b_M_deal 98 = .ok (.iload_n 3, 1) := by decide +kernel
theorem d_M_deal_99 : decode b_M_deal 99 = .ok (.iastore, 1) := by decide +kernel
theorem d_M_deal_100 : decode b_M_deal 100 = .ok (.aload_n 0, 1) := by decide +kernel
theorem d_M_deal_101 : decode b_M_deal 101 = .ok (.getfield 51, 3) := by decide +kernel
theorem d_M_deal_104 : decode b_M_deal 104 = .ok (.aload_n 0, 1) := by decide +kernel
theorem d_M_deal_105 : decode b_M_deal 105 = .ok (.getfield 86, 3) := by decide +kernel
theorem d_M_deal_108 : decode b_M_deal 108 = .ok (.iload 4, 2) := by decide +kernel
theorem d_M_deal_110 : decode b_M_deal 110 = .ok (.iastore, 1) := by decide +kernel
theorem d_M_deal_111 : decode b_M_deal 111 = .ok (.aload_n 0, 1) := by decide +kernel
theorem d_M_deal_112 : decode b_M_deal 112 = .ok (.dup, 1) := by decide +kernel
theorem d_M_deal_113 : decode b_M_deal 113 = .ok (.getfield 86, 3) := by decide +kernel
theorem d_M_deal_116 : decode b_M_deal 116 = .ok (.iconst 1, 1) := by decide +kernel
theorem d_M_deal_117 : decode b_M_deal 117 = .ok (.iadd, 1) := by decide +kernel
theorem d_M_deal_118 : decode b_M_deal 118 = .ok (.putfield 86, 3) := by decide +kernel
theorem d_M_deal_121 : decode b_M_deal 121 = .ok (.aload_n 0, 1) := by decide +kernel
theorem d_M_deal_122 : decode b_M_deal 122 = .ok (.dup, 1) := by decide +kernel
theorem d_M_deal_123 : decode b_M_deal 123 = .ok (.getfield 89, 3) := by decide +kernel
theorem d_M_deal_126 : decode b_M_deal 126 = .ok (.iload 4, 2) := by decide +kernel
theorem d_M_deal_128 : decode b_M_deal 128 = .ok (.i2l, 1) := by decide +kernel
theorem d_M_deal_129 : decode b_M_deal 129 = .ok (.ladd, 1) := by decide +kernel
theorem d_M_deal_130 : decode b_M_deal 130 = .ok (.putfield 89, 3) := by decide +kernel
theorem d_M_deal_133 : decode b_M_deal 133 = .ok (.return_, 1) := by decide +kernel
theorem d_M_end_0 : decode b_M_end 0 = .ok (.aload_n 0, 1) := by decide +kernel
theorem d_M_end_1 : decode b_M_end 1 = .ok (.getfield 24, 3) := by decide +kernel
theorem d_M_end_4 : decode b_M_end 4 = .ok (.iload_n 1, 1) := by decide +kernel
theorem d_M_end_5 : decode b_M_end 5 = .ok (.iconst 0, 1) := by decide +kernel
theorem d_M_end_6 : decode b_M_end 6 = .ok (.iastore, 1) := by decide +kernel
theorem d_M_end_7 : decode b_M_end 7 = .ok (.aload_n 0, 1) := by decide +kernel
theorem d_M_end_8 : decode b_M_end 8 = .ok (.getfield 27, 3) := by decide +kernel
theorem d_M_end_11 : decode b_M_end 11 = .ok (.iload_n 1, 1) := by decide +kernel
theorem d_M_end_12 : decode b_M_end 12 = .ok (.iconst 0, 1) := by decide +kernel
theorem d_M_end_13 : decode b_M_end 13 = .ok (.iastore, 1) := by decide +kernel
theorem d_M_end_14 : decode b_M_end 14 = .ok (.aload_n 0, 1) := by decide +kernel
theorem d_M_end_15 : decode b_M_end 15 = .ok (.getfield 30, 3) := by decide +kernel
theorem d_M_end_18 : decode b_M_end 18 = .ok (.iload_n 1, 1) := by decide +kernel
theorem d_M_end_19 : decode b_M_end 19 = .ok (.iconst (-1), 1) := by decide +kernel
theorem d_M_end_20 : decode b_M_end 20 = .ok (.iastore, 1) := by decide +kernel
theorem d_M_end_21 : decode b_M_end 21 = .ok (.return_, 1) := by decide +kernel
theorem d_M_comeToRest_0 : decode b_M_comeToRest 0 = .ok (.aload_n 0, 1) := by decide +kernel
theorem d_M_comeToRest_1 : decode b_M_comeToRest 1 = .ok (.getfield 30, 3) := by decide +kernel
theorem d_M_comeToRest_4 : decode b_M_comeToRest 4 = .ok (.iload_n 1, 1) := by decide +kernel
theorem d_M_comeToRest_5 : decode b_M_comeToRest 5 = .ok (.aload_n 0, 1) := by decide +kernel
theorem d_M_comeToRest_6 : decode b_M_comeToRest 6 = .ok (.getfield 79, 3) := by decide +kernel
theorem d_M_comeToRest_9 : decode b_M_comeToRest 9 = .ok (.iastore, 1) := by decide +kernel
theorem d_M_comeToRest_10 : decode b_M_comeToRest 10 = .ok (.aload_n 0, 1) := by decide +kernel
theorem d_M_comeToRest_11 : decode b_M_comeToRest 11 = .ok (.dup, 1) := by decide +kernel
theorem d_M_comeToRest_12 : decode b_M_comeToRest 12 = .ok (.getfield 79, 3) := by decide +kernel
theorem d_M_comeToRest_15 : decode b_M_comeToRest 15 = .ok (.iconst 1, 1) := by decide +kernel
theorem d_M_comeToRest_16 : decode b_M_comeToRest 16 = .ok (.iadd, 1) := by decide +kernel
theorem d_M_comeToRest_17 : decode b_M_comeToRest 17 = .ok (.putfield 79, 3) := by decide +kernel
theorem d_M_comeToRest_20 : decode b_M_comeToRest 20 = .ok (.aload_n 0, 1) := by decide +kernel
theorem d_M_comeToRest_21 : decode b_M_comeToRest 21 = .ok (.iload_n 1, 1) := by decide +kernel
theorem d_M_comeToRest_22 : decode b_M_comeToRest 22 = .ok (.invokevirtual 82, 3) := by decide +kernel
theorem d_M_comeToRest_25 : decode b_M_comeToRest 25 = .ok (.return_, 1) := by decide +kernel
theorem d_M_show_0 : decode b_M_show 0 = .ok (.aload_n 0, 1) := by decide +kernel
theorem d_M_show_1 : decode b_M_show 1 = .ok (.getfield 27, 3) := by decide +kernel
theorem d_M_show_4 : decode b_M_show 4 = .ok (.iload_n 1, 1) := by decide +kernel
theorem d_M_show_5 : decode b_M_show 5 = .ok (.aload_n 0, 1) := by decide +kernel
theorem d_M_show_6 : decode b_M_show 6 = .ok (.getfield 39, 3) := by decide +kernel
theorem d_M_show_9 : decode b_M_show 9 = .ok (.iload_n 1, 1) := by decide +kernel
theorem d_M_show_10 : decode b_M_show 10 = .ok (.iaload, 1) := by decide +kernel
theorem d_M_show_11 : decode b_M_show 11 = .ok (.ifCond .le 27, 3) := by decide +kernel
theorem d_M_show_14 : decode b_M_show 14 = .ok (.aload_n 0, 1) := by decide +kernel
theorem d_M_show_15 : decode b_M_show 15 = .ok (.getfield 39, 3) := by decide +kernel
theorem d_M_show_18 : decode b_M_show 18 = .ok (.iload_n 1, 1) := by decide +kernel
theorem d_M_show_19 : decode b_M_show 19 = .ok (.iaload, 1) := by decide +kernel
theorem d_M_show_20 : decode b_M_show 20 = .ok (.aload_n 0, 1) := by decide +kernel
theorem d_M_show_21 : decode b_M_show 21 = .ok (.getfield 24, 3) := by decide +kernel
theorem d_M_show_24 : decode b_M_show 24 = .ok (.iload_n 1, 1) := by decide +kernel
theorem d_M_show_25 : decode b_M_show 25 = .ok (.iaload, 1) := by decide +kernel
theorem d_M_show_26 : decode b_M_show 26 = .ok (.if_icmp .ge 12, 3) := by decide +kernel
theorem d_M_show_29 : decode b_M_show 29 = .ok (.aload_n 0, 1) := by decide +kernel
theorem d_M_show_30 : decode b_M_show 30 = .ok (.getfield 39, 3) := by decide +kernel
theorem d_M_show_33 : decode b_M_show 33 = .ok (.iload_n 1, 1) := by decide +kernel
theorem d_M_show_34 : decode b_M_show 34 = .ok (.iaload, 1) := by decide +kernel
theorem d_M_show_35 : decode b_M_show 35 = .ok (.goto 9, 3) := by decide +kernel
theorem d_M_show_38 : decode b_M_show 38 = .ok (.aload_n 0, 1) := by decide +kernel
theorem d_M_show_39 : decode b_M_show 39 = .ok (.getfield 24, 3) := by decide +kernel
theorem d_M_show_42 : decode b_M_show 42 = .ok (.iload_n 1, 1) := by decide +kernel
theorem d_M_show_43 : decode b_M_show 43 = .ok (.iaload, 1) := by decide +kernel
theorem d_M_show_44 : decode b_M_show 44 = .ok (.iastore, 1) := by decide +kernel
theorem d_M_show_45 : decode b_M_show 45 = .ok (.return_, 1) := by decide +kernel
theorem d_M_cancel_0 : decode b_M_cancel 0 = .ok (.aload_n 0, 1) := by decide +kernel
theorem d_M_cancel_1 : decode b_M_cancel 1 = .ok (.aload_n 0, 1) := by decide +kernel
theorem d_M_cancel_2 : decode b_M_cancel 2 = .ok (.iload_n 1, 1) := by decide +kernel
theorem d_M_cancel_3 : decode b_M_cancel 3 = .ok (.invokevirtual 139, 3) := by decide +kernel
theorem d_M_cancel_6 : decode b_M_cancel 6 = .ok (.ifCond .ne 7, 3) := by decide +kernel
theorem d_M_cancel_9 : decode b_M_cancel 9 = .ok (.iconst 1, 1) := by decide +kernel
theorem d_M_cancel_10 : decode b_M_cancel 10 = .ok (.goto 16, 3) := by decide +kernel
theorem d_M_cancel_13 : decode b_M_cancel 13 = .ok (.aload_n 0, 1) := by decide +kernel
theorem d_M_cancel_14 : decode b_M_cancel 14 = .ok (.iload_n 1, 1) := by decide +kernel
theorem d_M_cancel_15 : decode b_M_cancel 15 = .ok (.invokevirtual 71, 3) := by decide +kernel
theorem d_M_cancel_18 : decode b_M_cancel 18 = .ok (.ifCond .ne 7, 3) := by decide +kernel
theorem d_M_cancel_21 : decode b_M_cancel 21 = .ok (.iconst 2, 1) := by decide +kernel
theorem d_M_cancel_22 : decode b_M_cancel 22 = .ok (.goto 4, 3) := by decide +kernel
theorem d_M_cancel_25 : decode b_M_cancel 25 = .ok (.iconst 0, 1) := by decide +kernel
theorem d_M_cancel_26 : decode b_M_cancel 26 = .ok (.putfield 61, 3) := by decide +kernel
theorem d_M_cancel_29 : decode b_M_cancel 29 = .ok (.aload_n 0, 1) := by decide +kernel
theorem d_M_cancel_30 : decode b_M_cancel 30 = .ok (.getfield 61, 3) := by decide +kernel
theorem d_M_cancel_33 : decode b_M_cancel 33 = .ok (.ifCond .le 5, 3) := by decide +kernel
theorem d_M_cancel_36 : decode b_M_cancel 36 = .ok (.iconst 0, 1) := by decide +kernel
theorem d_M_cancel_37 : decode b_M_cancel 37 = .ok (.ireturn, 1) := by decide +kernel
theorem d_M_cancel_38 : decode b_M_cancel 38 = .ok (.aload_n 0, 1) := by decide +kernel
theorem d_M_cancel_39 : decode b_M_cancel 39 = .ok (.getfield 24, 3) := by decide +kernel
theorem d_M_cancel_42 : decode b_M_cancel 42 = .ok (.iload_n 1, 1) := by decide +kernel
theorem d_M_cancel_43 : decode b_M_cancel 43 = .ok (.iaload, 1) := by decide +kernel
theorem d_M_cancel_44 : decode b_M_cancel 44 = .ok (.istore_n 2, 1) := by decide +kernel
theorem d_M_cancel_45 : decode b_M_cancel 45 = .ok (.aload_n 0, 1) := by decide +kernel
theorem d_M_cancel_46 : decode b_M_cancel 46 = .ok (.iload_n 1, 1) := by decide +kernel
theorem d_M_cancel_47 : decode b_M_cancel 47 = .ok (.invokevirtual 120, 3) := by decide +kernel
theorem d_M_cancel_50 : decode b_M_cancel 50 = .ok (.iload_n 2, 1) := by decide +kernel
theorem d_M_cancel_51 : decode b_M_cancel 51 = .ok (.ireturn, 1) := by decide +kernel
theorem d_M_isOrder_0 : decode b_M_isOrder 0 = .ok (.iload_n 1, 1) := by decide +kernel
theorem d_M_isOrder_1 : decode b_M_isOrder 1 = .ok (.iconst 0, 1) := by decide +kernel
theorem d_M_isOrder_2 : decode b_M_isOrder 2 = .ok (.aload_n 0, 1) := by decide +kernel
theorem d_M_isOrder_3 : decode b_M_isOrder 3 = .ok (.getfield 64, 3) := by decide +kernel
theorem d_M_isOrder_6 : decode b_M_isOrder 6 = .ok (.iconst 1, 1) := by decide +kernel
theorem d_M_isOrder_7 : decode b_M_isOrder 7 = .ok (.isub, 1) := by decide +kernel
theorem d_M_isOrder_8 : decode b_M_isOrder 8 = .ok (.invokestatic 67, 3) := by decide +kernel
theorem d_M_isOrder_11 : decode b_M_isOrder 11 = .ok (.ireturn, 1) := by decide +kernel
theorem d_M_cancelAll_0 : decode b_M_cancelAll 0 = .ok (.aload_n 0, 1) := by decide +kernel
theorem d_M_cancelAll_1 : decode b_M_cancelAll 1 = .ok (.iload_n 1, 1) := by decide +kernel
theorem d_M_cancelAll_2 : decode b_M_cancelAll 2 = .ok (.iconst 0, 1) := by decide +kernel
theorem d_M_cancelAll_3 : decode b_M_cancelAll 3 = .ok (.bipush 9, 2) := by decide +kernel
theorem d_M_cancelAll_5 : decode b_M_cancelAll 5 = .ok (.invokestatic 67, 3) := by decide +kernel
theorem d_M_cancelAll_8 : decode b_M_cancelAll 8 = .ok (.ifCond .eq 7, 3) := by decide +kernel
theorem d_M_cancelAll_11 : decode b_M_cancelAll 11 = .ok (.iconst 0, 1) := by decide +kernel
theorem d_M_cancelAll_12 : decode b_M_cancelAll 12 = .ok (.goto 4, 3) := by decide +kernel
theorem d_M_cancelAll_15 : decode b_M_cancelAll 15 = .ok (.iconst 1, 1) := by decide +kernel
theorem d_M_cancelAll_16 : decode b_M_cancelAll 16 = .ok (.putfield 61, 3) := by decide +kernel
theorem d_M_cancelAll_19 : decode b_M_cancelAll 19 = .ok (.iconst 0, 1) := by decide +kernel
theorem d_M_cancelAll_20 : decode b_M_cancelAll 20 = .ok (.istore_n 2, 1) := by decide +kernel
theorem d_M_cancelAll_21 : decode b_M_cancelAll 21 = .ok (.iconst 0, 1) := by decide +kernel
theorem d_M_cancelAll_22 : decode b_M_cancelAll 22 = .ok (.istore_n 3, 1) := by decide +kernel
theorem d_M_cancelAll_23 : decode b_M_cancelAll 23 = .ok (.iload_n 3, 1) := by decide +kernel
theorem d_M_cancelAll_24 : decode b_M_cancelAll 24 = .ok (.aload_n 0, 1) := by decide +kernel
theorem d_M_cancelAll_25 : decode b_M_cancelAll 25 = .ok (.getfield 64, 3) := by decide +kernel
theorem d_M_cancelAll_28 : decode b_M_cancelAll 28 = .ok (.if_icmp .ge 42, 3) := by decide +kernel
theorem d_M_cancelAll_31 : decode b_M_cancelAll 31 = .ok (.aload_n 0, 1) := by decide +kernel
theorem d_M_cancelAll_32 : decode b_M_cancelAll 32 = .ok (.getfield 61, 3) := by decide +kernel
theorem d_M_cancelAll_35 : decode b_M_cancelAll 35 = .ok (.ifCond .ne 35, 3) := by decide +kernel
theorem d_M_cancelAll_38 : decode b_M_cancelAll 38 = .ok (.aload_n 0, 1) := by decide +kernel
theorem d_M_cancelAll_39 : decode b_M_cancelAll 39 = .ok (.getfield 13, 3) := by decide +kernel
theorem d_M_cancelAll_42 : decode b_M_cancelAll 42 = .ok (.iload_n 3, 1) := by decide +kernel
theorem d_M_cancelAll_43 : decode b_M_cancelAll 43 = .ok (.iaload, 1) := by decide +kernel
theorem d_M_cancelAll_44 : decode b_M_cancelAll 44 = .ok (.iload_n 1, 1) := by decide +kernel
theorem d_M_cancelAll_45 : decode b_M_cancelAll 45 = .ok (.if_icmp .ne 19, 3) := by decide +kernel
theorem d_M_cancelAll_48 : decode b_M_cancelAll 48 = .ok (.aload_n 0, 1) := by decide +kernel
theorem d_M_cancelAll_49 : decode b_M_cancelAll 49 = .ok (.iload_n 3, 1) := by decide +kernel
theorem d_M_cancelAll_50 : decode b_M_cancelAll 50 = .ok (.invokevirtual 71, 3) := by decide +kernel
theorem d_M_cancelAll_53 : decode b_M_cancelAll 53 = .ok (.ifCond .eq 11, 3) := by decide +kernel
theorem d_M_cancelAll_56 : decode b_M_cancelAll 56 = .ok (.aload_n 0, 1) := by decide +kernel
theorem d_M_cancelAll_57 : decode b_M_cancelAll 57 = .ok (.iload_n 3, 1) := by decide +kernel
theorem d_M_cancelAll_58 : decode b_M_cancelAll 58 = .ok (.invokevirtual 120, 3) := by decide +kernel
theorem d_M_cancelAll_61 : decode b_M_cancelAll 61 = .ok (.iinc 2 1, 3) := by decide +kernel
theorem d_M_cancelAll_64 : decode b_M_cancelAll 64 = .ok (.iinc 3 1, 3) := by decide +kernel
theorem d_M_cancelAll_67 : decode b_M_cancelAll 67 = .ok (.goto (-44), 3) := by decide +kernel
theorem d_M_cancelAll_70 : decode b_M_cancelAll 70 = .ok (.iload_n 2, 1) := by decide +kernel
theorem d_M_cancelAll_71 : decode b_M_cancelAll 71 = .ok (.ireturn, 1) := by decide +kernel
theorem d_M_amend_0 : decode b_M_amend 0 = .ok (.aload_n 0, 1) := by decide +kernel
theorem d_M_amend_1 : decode b_M_amend 1 = .ok (.aload_n 0, 1) := by decide +kernel
theorem d_M_amend_2 : decode b_M_amend 2 = .ok (.iload_n 1, 1) := by decide +kernel
theorem d_M_amend_3 : decode b_M_amend 3 = .ok (.invokevirtual 139, 3) := by decide +kernel
theorem d_M_amend_6 : decode b_M_amend 6 = .ok (.ifCond .eq 24, 3) := by decide +kernel
theorem d_M_amend_9 : decode b_M_amend 9 = .ok (.iload_n 2, 1) := by decide +kernel
theorem d_M_amend_10 : decode b_M_amend 10 = .ok (.iconst 0, 1) := by decide +kernel
theorem d_M_amend_11 : decode b_M_amend 11 = .ok (.sipush 2000, 3) := by decide +kernel
theorem d_M_amend_14 : decode b_M_amend 14 = .ok (.invokestatic 67, 3) := by decide +kernel
theorem d_M_amend_17 : decode b_M_amend 17 = .ok (.ifCond .eq 13, 3) := by decide +kernel
theorem d_M_amend_20 : decode b_M_amend 20 = .ok (.iload_n 3, 1) := by decide +kernel
theorem d_M_amend_21 : decode b_M_amend 21 = .ok (.iconst 1, 1) := by decide +kernel
theorem d_M_amend_22 : decode b_M_amend 22 = .ok (.ldc 132, 2) := by decide +kernel
theorem d_M_amend_24 : decode b_M_amend 24 = .ok (.invokestatic 67, 3) := by decide +kernel
theorem d_M_amend_27 : decode b_M_amend 27 = .ok (.ifCond .ne 7, 3) := by decide +kernel
theorem d_M_amend_30 : decode b_M_amend 30 = .ok (.iconst 1, 1) := by decide +kernel
theorem d_M_amend_31 : decode b_M_amend 31 = .ok (.goto 4, 3) := by decide +kernel
theorem d_M_amend_34 : decode b_M_amend 34 = .ok (.iconst 0, 1) := by decide +kernel
theorem d_M_amend_35 : decode b_M_amend 35 = .ok (.putfield 61, 3) := by decide +kernel
theorem d_M_amend_38 : decode b_M_amend 38 = .ok (.aload_n 0, 1) := by decide +kernel
theorem d_M_amend_39 : decode b_M_amend 39 = .ok (.getfield 61, 3) := by decide +kernel
theorem d_M_amend_42 : decode b_M_amend 42 = .ok (.ifCond .ne 45, 3) := by decide +kernel
theorem d_M_amend_45 : decode b_M_amend 45 = .ok (.aload_n 0, 1) := by decide +kernel
theorem d_M_amend_46 : decode b_M_amend 46 = .ok (.iload_n 3, 1) := by decide +kernel
theorem d_M_amend_47 : decode b_M_amend 47 = .ok (.aload_n 0, 1) := by decide +kernel
theorem d_M_amend_48 : decode b_M_amend 48 = .ok (.getfield 39, 3) := by decide +kernel
theorem d_M_amend_51 : decode b_M_amend 51 = .ok (.iload_n 1, 1) := by decide +kernel
theorem d_M_amend_52 : decode b_M_amend 52 = .ok (.iaload, 1) := by decide +kernel
theorem d_M_amend_53 : decode b_M_amend 53 = .ok (.invokestatic 133, 3) := by decide +kernel
theorem d_M_amend_56 : decode b_M_amend 56 = .ok (.ifCond .ne 7, 3) := by decide +kernel
theorem d_M_amend_59 : decode b_M_amend 59 = .ok (.iconst 1, 1) := by decide +kernel
theorem d_M_amend_60 : decode b_M_amend 60 = .ok (.goto 24, 3) := by decide +kernel
theorem d_M_amend_63 : decode b_M_amend 63 = .ok (.aload_n 0, 1) := by decide +kernel
theorem d_M_amend_64 : decode b_M_amend 64 = .ok (.iload_n 1, 1) := by decide +kernel
theorem d_M_amend_65 : decode b_M_amend 65 = .ok (.invokevirtual 71, 3) := by decide +kernel
theorem d_M_amend_68 : decode b_M_amend 68 = .ok (.ifCond .eq 11, 3) := by decide +kernel
theorem d_M_amend_71 : decode b_M_amend 71 = .ok (.aload_n 0, 1) := by decide +kernel
theorem d_M_amend_72 : decode b_M_amend 72 = .ok (.getfield 113, 3) := by decide +kernel
theorem d_M_amend_75 : decode b_M_amend 75 = .ok (.iconst 2, 1) := by decide +kernel
theorem d_M_amend_76 : decode b_M_amend 76 = .ok (.if_icmp .ne 7, 3) := by decide +kernel
theorem d_M_amend_79 : decode b_M_amend 79 = .ok (.iconst 2, 1) := by decide +kernel
theorem d_M_amend_80 : decode b_M_amend 80 = .ok (.goto 4, 3) := by decide +kernel
theorem d_M_amend_83 : decode b_M_amend 83 = .ok (.iconst 0, 1) := by decide +kernel
theorem d_M_amend_84 : decode b_M_amend 84 = .ok (.putfield 61, 3) := by decide +kernel
theorem d_M_amend_87 : decode b_M_amend 87 = .ok (.aload_n 0, 1) := by decide +kernel
theorem d_M_amend_88 : decode b_M_amend 88 = .ok (.getfield 61, 3) := by decide +kernel
theorem d_M_amend_91 : decode b_M_amend 91 = .ok (.ifCond .le 5, 3) := by decide +kernel
theorem d_M_amend_94 : decode b_M_amend 94 = .ok (.iconst 0, 1) := by decide +kernel
theorem d_M_amend_95 : decode b_M_amend 95 = .ok (.ireturn, 1) := by decide +kernel
theorem d_M_amend_96 : decode b_M_amend 96 = .ok (.iload_n 2, 1) := by decide +kernel
theorem d_M_amend_97 : decode b_M_amend 97 = .ok (.aload_n 0, 1) := by decide +kernel
theorem d_M_amend_98 : decode b_M_amend 98 = .ok (.getfield 21, 3) := by decide +kernel
theorem d_M_amend_101 : decode b_M_amend 101 = .ok (.iload_n 1, 1) := by decide +kernel
theorem d_M_amend_102 : decode b_M_amend 102 = .ok (.iaload, 1) := by decide +kernel
theorem d_M_amend_103 : decode b_M_amend 103 = .ok (.if_icmp .ne 48, 3) := by decide +kernel
theorem d_M_amend_106 : decode b_M_amend 106 = .ok (.iload_n 3, 1) := by decide +kernel
theorem d_M_amend_107 : decode b_M_amend 107 = .ok (.aload_n 0, 1) := by decide +kernel
theorem d_M_amend_108 : decode b_M_amend 108 = .ok (.getfield 24, 3) := by decide +kernel
theorem d_M_amend_111 : decode b_M_amend 111 = .ok (.iload_n 1, 1) := by decide +kernel
theorem d_M_amend_112 : decode b_M_amend 112 = .ok (.iaload, 1) := by decide +kernel
theorem d_M_amend_113 : decode b_M_amend 113 = .ok (.if_icmp .gt 38, 3) := by decide +kernel
theorem d_M_amend_116 : decode b_M_amend 116 = .ok (.aload_n 0, 1) := by decide +kernel
theorem d_M_amend_117 : decode b_M_amend 117 = .ok (.getfield 24, 3) := by decide +kernel
theorem d_M_amend_120 : decode b_M_amend 120 = .ok (.iload_n 1, 1) := by decide +kernel
theorem d_M_amend_121 : decode b_M_amend 121 = .ok (.iload_n 3, 1) := by decide +kernel
theorem d_M_amend_122 : decode b_M_amend 122 = .ok (.iastore, 1) := by decide +kernel
theorem d_M_amend_123 : decode b_M_amend 123 = .ok (.aload_n 0, 1) := by decide +kernel
theorem d_M_amend_124 : decode b_M_amend 124 = .ok (.getfield 27, 3) := by decide +kernel
theorem d_M_amend_127 : decode b_M_amend 127 = .ok (.iload_n 1, 1) := by decide +kernel
theorem d_M_amend_128 : decode b_M_amend 128 = .ok (.aload_n 0, 1) := by decide +kernel
theorem d_M_amend_129 : decode b_M_amend 129 = .ok (.getfield 27, 3) := by decide +kernel
theorem d_M_amend_132 : decode b_M_amend 132 = .ok (.iload_n 1, 1) := by decide +kernel
theorem d_M_amend_133 : decode b_M_amend 133 = .ok (.iaload, 1) := by decide +kernel
theorem d_M_amend_134 : decode b_M_amend 134 = .ok (.iload_n 3, 1) := by decide +kernel
theorem d_M_amend_135 : decode b_M_amend 135 = .ok (.if_icmp .ge 12, 3) := by decide +kernel
theorem d_M_amend_138 : decode b_M_amend 138 = .ok (.aload_n 0, 1) := by decide +kernel
theorem d_M_amend_139 : decode b_M_amend 139 = .ok (.getfield 27, 3) := by decide +kernel
theorem d_M_amend_142 : decode b_M_amend 142 = .ok (.iload_n 1, 1) := by decide +kernel
theorem d_M_amend_143 : decode b_M_amend 143 = .ok (.iaload, 1) := by decide +kernel
theorem d_M_amend_144 : decode b_M_amend 144 = .ok (.goto 4, 3) := by decide +kernel
theorem d_M_amend_147 : decode b_M_amend 147 = .ok (.iload_n 3, 1) := by decide +kernel
theorem d_M_amend_148 : decode b_M_amend 148 = .ok (.iastore, 1) := by decide +kernel
theorem d_M_amend_149 : decode b_M_amend 149 = .ok (.iconst 1, 1) := by decide +kernel
theorem d_M_amend_150 : decode b_M_amend 150 = .ok (.ireturn, 1) := by decide +kernel
theorem d_M_amend_151 : decode b_M_amend 151 = .ok (.aload_n 0, 1) := by decide +kernel
theorem d_M_amend_152 : decode b_M_amend 152 = .ok (.iload_n 1, 1) := by decide +kernel
theorem d_M_amend_153 : decode b_M_amend 153 = .ok (.invokevirtual 120, 3) := by decide +kernel
theorem d_M_amend_156 : decode b_M_amend 156 = .ok (.aload_n 0, 1) := by decide +kernel
theorem d_M_amend_157 : decode b_M_amend 157 = .ok (.getfield 21, 3) := by decide +kernel
theorem d_M_amend_160 : decode b_M_amend 160 = .ok (.iload_n 1, 1) := by decide +kernel
theorem d_M_amend_161 : decode b_M_amend 161 = .ok (.iload_n 2, 1) := by decide +kernel
theorem d_M_amend_162 : decode b_M_amend 162 = .ok (.iastore, 1) := by decide +kernel
theorem d_M_amend_163 : decode b_M_amend 163 = .ok (.aload_n 0, 1) := by decide +kernel
theorem d_M_amend_164 : decode b_M_amend 164 = .ok (.getfield 24, 3) := by decide +kernel
theorem d_M_amend_167 : decode b_M_amend 167 = .ok (.iload_n 1, 1) := by decide +kernel
theorem d_M_amend_168 : decode b_M_amend 168 = .ok (.iload_n 3, 1) := by decide +kernel
theorem d_M_amend_169 : decode b_M_amend 169 = .ok (.iastore, 1) := by decide +kernel
theorem d_M_amend_170 : decode b_M_amend 170 = .ok (.aload_n 0, 1) := by decide +kernel
theorem d_M_amend_171 : decode b_M_amend 171 = .ok (.iload_n 1, 1) := by decide +kernel
theorem d_M_amend_172 : decode b_M_amend 172 = .ok (.invokevirtual 136, 3) := by decide +kernel
theorem d_M_amend_175 : decode b_M_amend 175 = .ok (.ireturn, 1) := by decide +kernel
theorem d_M_open_0 : decode b_M_open 0 = .ok (.aload_n 0, 1) := by decide +kernel
theorem d_M_open_1 : decode b_M_open 1 = .ok (.aload_n 0, 1) := by decide +kernel
theorem d_M_open_2 : decode b_M_open 2 = .ok (.getfield 113, 3) := by decide +kernel
theorem d_M_open_5 : decode b_M_open 5 = .ok (.iconst 1, 1) := by decide +kernel
theorem d_M_open_6 : decode b_M_open 6 = .ok (.if_icmp .ne 7, 3) := by decide +kernel
theorem d_M_open_9 : decode b_M_open 9 = .ok (.iconst 1, 1) := by decide +kernel
theorem d_M_open_10 : decode b_M_open 10 = .ok (.goto 4, 3) := by decide +kernel
theorem d_M_open_13 : decode b_M_open 13 = .ok (.iconst 0, 1) := by decide +kernel
theorem d_M_open_14 : decode b_M_open 14 = .ok (.putfield 61, 3) := by decide +kernel
theorem d_M_open_17 : decode b_M_open 17 = .ok (.aload_n 0, 1) := by decide +kernel
theorem d_M_open_18 : decode b_M_open 18 = .ok (.getfield 61, 3) := by decide +kernel
theorem d_M_open_21 : decode b_M_open 21 = .ok (.ifCond .le 5, 3) := by decide +kernel
theorem d_M_open_24 : decode b_M_open 24 = .ok (.lconst 0, 1) := by decide +kernel
theorem d_M_open_25 : decode b_M_open 25 = .ok (.lreturn, 1) := by decide +kernel
theorem d_M_open_26 : decode b_M_open 26 = .ok (.aload_n 0, 1) := by decide +kernel
theorem d_M_open_27 : decode b_M_open 27 = .ok (.invokevirtual 154, 3) := by decide +kernel
theorem d_M_open_30 : decode b_M_open 30 = .ok (.aload_n 0, 1) := by decide +kernel
theorem d_M_open_31 : decode b_M_open 31 = .ok (.getfield 148, 3) := by decide +kernel
theorem d_M_open_34 : decode b_M_open 34 = .ok (.lstore_n 1, 1) := by decide +kernel
theorem d_M_open_35 : decode b_M_open 35 = .ok (.lload_n 1, 1) := by decide +kernel
theorem d_M_open_36 : decode b_M_open 36 = .ok (.lstore_n 3, 1) := by decide +kernel
theorem d_M_open_37 : decode b_M_open 37 = .ok (.lload_n 3, 1) := by decide +kernel
theorem d_M_open_38 : decode b_M_open 38 = .ok (.lconst 0, 1) := by decide +kernel
theorem d_M_open_39 : decode b_M_open 39 = .ok (.lcmp, 1) := by decide +kernel
theorem d_M_open_40 : decode b_M_open 40 = .ok (.ifCond .le 125, 3) := by decide +kernel
theorem d_M_open_43 : decode b_M_open 43 = .ok (.aload_n 0, 1) := by decide +kernel
theorem d_M_open_44 : decode b_M_open 44 = .ok (.iconst 1, 1) := by decide +kernel
theorem d_M_open_45 : decode b_M_open 45 = .ok (.invokevirtual 109, 3) := by decide +kernel
theorem d_M_open_48 : decode b_M_open 48 = .ok (.istore 5, 2) := by decide +kernel
theorem d_M_open_50 : decode b_M_open 50 = .ok (.aload_n 0, 1) := by decide +kernel
theorem d_M_open_51 : decode b_M_open 51 = .ok (.iconst 0, 1) := by decide +kernel
theorem d_M_open_52 : decode b_M_open 52 = .ok (.invokevirtual 109, 3) := by decide +kernel
theorem d_M_open_55 : decode b_M_open 55 = .ok (.istore 6, 2) := by decide +kernel
theorem d_M_open_57 : decode b_M_open 57 = .ok (.aload_n 0, 1) := by decide +kernel
theorem d_M_open_58 : decode b_M_open 58 = .ok (.getfield 24, 3) := by decide +kernel
theorem d_M_open_61 : decode b_M_open 61 = .ok (.iload 5, 2) := by decide +kernel
theorem d_M_open_63 : decode b_M_open 63 = .ok (.iaload, 1) := by decide +kernel
theorem d_M_open_64 : decode b_M_open 64 = .ok (.aload_n 0, 1) := by decide +kernel
theorem d_M_open_65 : decode b_M_open 65 = .ok (.getfield 24, 3) := by decide +kernel
theorem d_M_open_68 : decode b_M_open 68 = .ok (.iload 6, 2) := by decide +kernel
theorem d_M_open_70 : decode b_M_open 70 = .ok (.iaload, 1) := by decide +kernel
theorem d_M_open_71 : decode b_M_open 71 = .ok (.if_icmp .ge 13, 3) := by decide +kernel
theorem d_M_open_74 : decode b_M_open 74 = .ok (.aload_n 0, 1) := by decide +kernel
theorem d_M_open_75 : decode b_M_open 75 = .ok (.getfield 24, 3) := by decide +kernel
theorem d_M_open_78 : decode b_M_open 78 = .ok (.iload 5, 2) := by decide +kernel
theorem d_M_open_80 : decode b_M_open 80 = .ok (.iaload, 1) := by decide +kernel
theorem d_M_open_81 : decode b_M_open 81 = .ok (.goto 10, 3) := by decide +kernel
theorem d_M_open_84 : decode b_M_open 84 = .ok (.aload_n 0, 1) := by decide +kernel
theorem d_M_open_85 : decode b_M_open 85 = .ok (.getfield 24, 3) := by decide +kernel
theorem d_M_open_88 : decode b_M_open 88 = .ok (.iload 6, 2) := by decide +kernel
theorem d_M_open_90 : decode b_M_open 90 = .ok (.iaload, 1) := by decide +kernel
theorem d_M_open_91 : decode b_M_open 91 = .ok (.istore 7, 2) := by decide +kernel
theorem d_M_open_93 : decode b_M_open 93 = .ok (.iload 7, 2) := by decide +kernel
theorem d_M_open_95 : decode b_M_open 95 = .ok (.i2l, 1) := by decide +kernel
theorem d_M_open_96 : decode b_M_open 96 = .ok (.lload_n 3, 1) := by decide +kernel
theorem d_M_open_97 : decode b_M_open 97 = .ok (.lcmp, 1) := by decide +kernel
theorem d_M_open_98 : decode b_M_open 98 = .ok (.ifCond .ge 8, 3) := by decide +kernel
theorem d_M_open_101 : decode b_M_open 101 = .ok (.iload 7, 2) := by decide +kernel
theorem d_M_open_103 : decode b_M_open 103 = .ok (.goto 5, 3) := by decide +kernel
theorem d_M_open_106 : decode b_M_open 106 = .ok (.lload_n 3, 1) := by decide +kernel
theorem d_M_open_107 : decode b_M_open 107 = .ok (.l2i, 1) := by decide +kernel
theorem d_M_open_108 : decode b_M_open 108 = .ok (.istore 7, 2) := by decide +kernel
theorem d_M_open_110 : decode b_M_open 110 = .ok (.aload_n 0, 1) := by decide +kernel
theorem d_M_open_111 : decode b_M_open 111 = .ok (.iload 5, 2) := by decide +kernel
theorem d_M_open_113 : decode b_M_open 113 = .ok (.iload 6, 2) := by decide +kernel
theorem d_M_open_115 : decode b_M_open 115 = .ok (.aload_n 0, 1) := by decide +kernel
theorem d_M_open_116 : decode b_M_open 116 = .ok (.getfield 145, 3) := by decide +kernel
theorem d_M_open_119 : decode b_M_open 119 = .ok (.iload 7, 2) := by decide +kernel
theorem d_M_open_121 : decode b_M_open 121 = .ok (.invokevirtual 116, 3) := by decide +kernel
theorem d_M_open_124 : decode b_M_open 124 = .ok (.lload_n 3, 1) := by decide +kernel
theorem d_M_open_125 : decode b_M_open 125 = .ok (.iload 7, 2) := by decide +kernel
theorem d_M_open_127 : decode b_M_open 127 = .ok (.i2l, 1) := by decide +kernel
theorem d_M_open_128 : decode b_M_open 128 = .ok (.lsub, 1) := by decide +kernel
theorem d_M_open_129 : decode b_M_open 129 = .ok (.lstore_n 3, 1) := by decide +kernel
theorem d_M_open_130 : decode b_M_open 130 = .ok (.aload_n 0, 1) := by decide +kernel
theorem d_M_open_131 : decode b_M_open 131 = .ok (.getfield 24, 3) := by decide +kernel
theorem d_M_open_134 : decode b_M_open 134 = .ok (.iload 5, 2) := by decide +kernel
theorem d_M_open_136 : decode b_M_open 136 = .ok (.iaload, 1) := by decide +kernel
theorem d_M_open_137 : decode b_M_open 137 = .ok (.ifCond .ne 9, 3) := by decide +kernel
theorem d_M_open_140 : decode b_M_open 140 = .ok (.aload_n 0, 1) := by decide +kernel
theorem d_M_open_141 : decode b_M_open 141 = .ok (.iload 5, 2) := by decide +kernel
theorem d_M_open_143 : decode b_M_open 143 = .ok (.invokevirtual 120, 3) := by decide +kernel
theorem d_M_open_146 : decode b_M_open 146 = .ok (.aload_n 0, 1) := by decide +kernel
theorem d_M_open_147 : decode b_M_open 147 = .ok (.getfield 24, 3) := by decide +kernel
theorem d_M_open_150 : decode b_M_open 150 = .ok (.iload 6, 2) := by decide +kernel
theorem d_M_open_152 : decode b_M_open 152 = .ok (.iaload, 1) := by decide +kernel
theorem d_M_open_153 : decode b_M_open 153 = .ok (.ifCond .ne 9, 3) := by decide +kernel
theorem d_M_open_156 : decode b_M_open 156 = .ok (.aload_n 0, 1) := by decide +kernel
theorem d_M_open_157 : decode b_M_open 157 = .ok (.iload 6, 2) := by decide +kernel
theorem d_M_open_159 : decode b_M_open 159 = .ok (.invokevirtual 120, 3) := by decide +kernel
theorem d_M_open_162 : decode b_M_open 162 = .ok (.goto (-125), 3) := by decide +kernel
theorem d_M_open_165 : decode b_M_open 165 = .ok (.aload_n 0, 1) := by decide +kernel
theorem d_M_open_166 : decode b_M_open 166 = .ok (.lload_n 1, 1) := by decide +kernel
theorem d_M_open_167 : decode b_M_open 167 = .ok (.lconst 0, 1) := by decide +kernel
theorem d_M_open_168 : decode b_M_open 168 = .ok (.lcmp, 1) := by decide +kernel
theorem d_M_open_169 : decode b_M_open 169 = .ok (.ifCond .le 10, 3) := by decide +kernel
theorem d_M_open_172 : decode b_M_open 172 = .ok (.aload_n 0, 1) := by decide +kernel
theorem d_M_open_173 : decode b_M_open 173 = .ok (.getfield 145, 3) := by decide +kernel
theorem d_M_open_176 : decode b_M_open 176 = .ok (.goto 7, 3) := by decide +kernel
theorem d_M_open_179 : decode b_M_open 179 = .ok (.aload_n 0, 1) := by decide +kernel
theorem d_M_open_180 : decode b_M_open 180 = .ok (.getfield 7, 3) := by decide +kernel
theorem d_M_open_183 : decode b_M_open 183 = .ok (.putfield 7, 3) := by decide +kernel
theorem d_M_open_186 : decode b_M_open 186 = .ok (.aload_n 0, 1) := by decide +kernel
theorem d_M_open_187 : decode b_M_open 187 = .ok (.iconst 1, 1) := by decide +kernel
theorem d_M_open_188 : decode b_M_open 188 = .ok (.putfield 113, 3) := by decide +kernel
theorem d_M_open_191 : decode b_M_open 191 = .ok (.iconst 0, 1) := by decide +kernel
theorem d_M_open_192 : decode b_M_open 192 = .ok (.istore 5, 2) := by decide +kernel
theorem d_M_open_194 : decode b_M_open 194 = .ok (.iload 5, 2) := by decide +kernel
theorem d_M_open_196 : decode b_M_open 196 = .ok (.aload_n 0, 1) := by decide +kernel
theorem d_M_open_197 : decode b_M_open 197 = .ok (.getfield 64, 3) := by decide +kernel
theorem d_M_open_200 : decode b_M_open 200 = .ok (.if_icmp .ge 49, 3) := by decide +kernel
theorem d_M_open_203 : decode b_M_open 203 = .ok (.aload_n 0, 1) := by decide +kernel
theorem d_M_open_204 : decode b_M_open 204 = .ok (.iload 5, 2) := by decide +kernel
theorem d_M_open_206 : decode b_M_open 206 = .ok (.invokevirtual 71, 3) := by decide +kernel
theorem d_M_open_209 : decode b_M_open 209 = .ok (.ifCond .eq 19, 3) := by decide +kernel
theorem d_M_open_212 : decode b_M_open 212 = .ok (.aload_n 0, 1) := by decide +kernel
theorem d_M_open_213 : decode b_M_open 213 = .ok (.getfield 21, 3) := by decide +kernel
theorem d_M_open_216 : decode b_M_open 216 = .ok (.iload 5, 2) := by decide +kernel
theorem d_M_open_218 : decode b_M_open 218 = .ok (.iaload, 1) := by decide +kernel
theorem d_M_open_219 : decode b_M_open 219 = .ok (.ifCond .ne 9, 3) := by decide +kernel
theorem d_M_open_222 : decode b_M_open 222 = .ok (.aload_n 0, 1) := by decide +kernel
theorem d_M_open_223 : decode b_M_open 223 = .ok (.iload 5, 2) := by decide +kernel
theorem d_M_open_225 : decode b_M_open 225 = .ok (.invokevirtual 120, 3) := by decide +kernel
theorem d_M_open_228 : decode b_M_open 228 = .ok (.aload_n 0, 1) := by decide +kernel
theorem d_M_open_229 : decode b_M_open 229 = .ok (.iload 5, 2) := by decide +kernel
theorem d_M_open_231 : decode b_M_open 231 = .ok (.invokevirtual 71, 3) := by decide +kernel
theorem d_M_open_234 : decode b_M_open 234 = .ok (.ifCond .eq 9, 3) := by decide +kernel
theorem d_M_open_237 : decode b_M_open 237 = .ok (.aload_n 0, 1) := by decide +kernel
theorem d_M_open_238 : decode b_M_open 238 = .ok (.iload 5, 2) := by decide +kernel
theorem d_M_open_240 : decode b_M_open 240 = .ok (.invokevirtual 82, 3) := by decide +kernel
theorem d_M_open_243 : decode b_M_open 243 = .ok (.iinc 5 1, 3) := by decide +kernel
theorem d_M_open_246 : decode b_M_open 246 = .ok (.goto (-52), 3) := by decide +kernel
theorem d_M_open_249 : decode b_M_open 249 = .ok (.lload_n 1, 1) := by decide +kernel
theorem d_M_open_250 : decode b_M_open 250 = .ok (.lreturn, 1) := by decide +kernel
theorem d_M_clear_0 : decode b_M_clear 0 = .ok (.aload_n 0, 1) := by decide +kernel
theorem d_M_clear_1 : decode b_M_clear 1 = .ok (.invokevirtual 142, 3) := by decide +kernel
theorem d_M_clear_4 : decode b_M_clear 4 = .ok (.aload_n 0, 1) := by decide +kernel
theorem d_M_clear_5 : decode b_M_clear 5 = .ok (.iconst (-1), 1) := by decide +kernel
theorem d_M_clear_6 : decode b_M_clear 6 = .ok (.putfield 145, 3) := by decide +kernel
theorem d_M_clear_9 : decode b_M_clear 9 = .ok (.aload_n 0, 1) := by decide +kernel
theorem d_M_clear_10 : decode b_M_clear 10 = .ok (.lconst 0, 1) := by decide +kernel
theorem d_M_clear_11 : decode b_M_clear 11 = .ok (.putfield 148, 3) := by decide +kernel
theorem d_M_clear_14 : decode b_M_clear 14 = .ok (.aload_n 0, 1) := by decide +kernel
theorem d_M_clear_15 : decode b_M_clear 15 = .ok (.lconst 0, 1) := by decide +kernel
theorem d_M_clear_16 : decode b_M_clear 16 = .ok (.putfield 151, 3) := by decide +kernel
theorem d_M_clear_19 : decode b_M_clear 19 = .ok (.iconst 1, 1) := by decide +kernel
theorem d_M_clear_20 : decode b_M_clear 20 = .ok (.istore_n 1, 1) := by decide +kernel
theorem d_M_clear_21 : decode b_M_clear 21 = .ok (.iload_n 1, 1) := by decide +kernel
theorem d_M_clear_22 : decode b_M_clear 22 = .ok (.sipush 2000, 3) := by decide +kernel
theorem d_M_clear_25 : decode b_M_clear 25 = .ok (.if_icmp .gt 186, 3) := by decide +kernel
theorem d_M_clear_28 : decode b_M_clear 28 = .ok (.aload_n 0, 1) := by decide +kernel
theorem d_M_clear_29 : decode b_M_clear 29 = .ok (.getfield 54, 3) := by decide +kernel
theorem d_M_clear_32 : decode b_M_clear 32 = .ok (.iload_n 1, 1) := by decide +kernel
theorem d_M_clear_33 : decode b_M_clear 33 = .ok (.laload, 1) := by decide +kernel
theorem d_M_clear_34 : decode b_M_clear 34 = .ok (.aload_n 0, 1) := by decide +kernel
theorem d_M_clear_35 : decode b_M_clear 35 = .ok (.getfield 58, 3) := by decide +kernel
theorem d_M_clear_38 : decode b_M_clear 38 = .ok (.iload_n 1, 1) := by decide +kernel
theorem d_M_clear_39 : decode b_M_clear 39 = .ok (.laload, 1) := by decide +kernel
theorem d_M_clear_40 : decode b_M_clear 40 = .ok (.lcmp, 1) := by decide +kernel
theorem d_M_clear_41 : decode b_M_clear 41 = .ok (.ifCond .ge 12, 3) := by decide +kernel
theorem d_M_clear_44 : decode b_M_clear 44 = .ok (.aload_n 0, 1) := by decide +kernel
theorem d_M_clear_45 : decode b_M_clear 45 = .ok (.getfield 54, 3) := by decide +kernel
theorem d_M_clear_48 : decode b_M_clear 48 = .ok (.iload_n 1, 1) := by decide +kernel
theorem d_M_clear_49 : decode b_M_clear 49 = .ok (.laload, 1) := by decide +kernel
theorem d_M_clear_50 : decode b_M_clear 50 = .ok (.goto 9, 3) := by decide +kernel
theorem d_M_clear_53 : decode b_M_clear 53 = .ok (.aload_n 0, 1) := by decide +kernel
theorem d_M_clear_54 : decode b_M_clear 54 = .ok (.getfield 58, 3) := by decide +kernel
theorem d_M_clear_57 : decode b_M_clear 57 = .ok (.iload_n 1, 1) := by decide +kernel
theorem d_M_clear_58 : decode b_M_clear 58 = .ok (.laload, 1) := by decide +kernel
theorem d_M_clear_59 : decode b_M_clear 59 = .ok (.lstore_n 2, 1) := by decide +kernel
theorem d_M_clear_60 : decode b_M_clear 60 = .ok (.aload_n 0, 1) := by decide +kernel
theorem d_M_clear_61 : decode b_M_clear 61 = .ok (.getfield 54, 3) := by decide +kernel
theorem d_M_clear_64 : decode b_M_clear 64 = .ok (.iload_n 1, 1) := by decide +kernel
theorem d_M_clear_65 : decode b_M_clear 65 = .ok (.laload, 1) := by decide +kernel
theorem d_M_clear_66 : decode b_M_clear 66 = .ok (.aload_n 0, 1) := by decide +kernel
theorem d_M_clear_67 : decode b_M_clear 67 = .ok (.getfield 58, 3) := by decide +kernel
theorem d_M_clear_70 : decode b_M_clear 70 = .ok (.iload_n 1, 1) := by decide +kernel
theorem d_M_clear_71 : decode b_M_clear 71 = .ok (.laload, 1) := by decide +kernel
theorem d_M_clear_72 : decode b_M_clear 72 = .ok (.lsub, 1) := by decide +kernel
theorem d_M_clear_73 : decode b_M_clear 73 = .ok (.lstore 4, 2) := by decide +kernel
theorem d_M_clear_75 : decode b_M_clear 75 = .ok (.lload_n 2, 1) := by decide +kernel
theorem d_M_clear_76 : decode b_M_clear 76 = .ok (.aload_n 0, 1) := by decide +kernel
theorem d_M_clear_77 : decode b_M_clear 77 = .ok (.getfield 148, 3) := by decide +kernel
theorem d_M_clear_80 : decode b_M_clear 80 = .ok (.lcmp, 1) := by decide +kernel
theorem d_M_clear_81 : decode b_M_clear 81 = .ok (.ifCond .le 7, 3) := by decide +kernel
theorem d_M_clear_84 : decode b_M_clear 84 = .ok (.iconst 1, 1) := by decide +kernel
theorem d_M_clear_85 : decode b_M_clear 85 = .ok (.goto 4, 3) := by decide +kernel
theorem d_M_clear_88 : decode b_M_clear 88 = .ok (.iconst 0, 1) := by decide +kernel
theorem d_M_clear_89 : decode b_M_clear 89 = .ok (.istore 6, 2) := by decide +kernel
theorem d_M_clear_91 : decode b_M_clear 91 = .ok (.lload_n 2, 1) := by decide +kernel
theorem d_M_clear_92 : decode b_M_clear 92 = .ok (.aload_n 0, 1) := by decide +kernel
theorem d_M_clear_93 : decode b_M_clear 93 = .ok (.getfield 148, 3) := by decide +kernel
theorem d_M_clear_96 : decode b_M_clear 96 = .ok (.lcmp, 1) := by decide +kernel
theorem d_M_clear_97 : decode b_M_clear 97 = .ok (.ifCond .ne 87, 3) := by decide +kernel
theorem d_M_clear_100 : decode b_M_clear 100 = .ok (.lload_n 2, 1) := by decide +kernel
theorem d_M_clear_101 : decode b_M_clear 101 = .ok (.lconst 0, 1) := by decide +kernel
theorem d_M_clear_102 : decode b_M_clear 102 = .ok (.lcmp, 1) := by decide +kernel
theorem d_M_clear_103 : decode b_M_clear 103 = .ok (.ifCond .le 81, 3) := by decide +kernel
theorem d_M_clear_106 : decode b_M_clear 106 = .ok (.lload 4, 2) := by decide +kernel
theorem d_M_clear_108 : decode b_M_clear 108 = .ok (.invokestatic 96, 3) := by decide +kernel
theorem d_M_clear_111 : decode b_M_clear 111 = .ok (.aload_n 0, 1) := by decide +kernel
theorem d_M_clear_112 : decode b_M_clear 112 = .ok (.getfield 151, 3) := by decide +kernel
theorem d_M_clear_115 : decode b_M_clear 115 = .ok (.invokestatic 96, 3) := by decide +kernel
theorem d_M_clear_118 : decode b_M_clear 118 = .ok (.lcmp, 1) := by decide +kernel
theorem d_M_clear_119 : decode b_M_clear 119 = .ok (.ifCond .ne 7, 3) := by decide +kernel
theorem d_M_clear_122 : decode b_M_clear 122 = .ok (.iconst 1, 1) := by decide +kernel
theorem d_M_clear_123 : decode b_M_clear 123 = .ok (.goto 4, 3) := by decide +kernel
theorem d_M_clear_126 : decode b_M_clear 126 = .ok (.iconst 0, 1) := by decide +kernel
theorem d_M_clear_127 : decode b_M_clear 127 = .ok (.istore 7, 2) := by decide +kernel
theorem d_M_clear_129 : decode b_M_clear 129 = .ok (.lload 4, 2) := by decide +kernel
theorem d_M_clear_131 : decode b_M_clear 131 = .ok (.invokestatic 96, 3) := by decide +kernel
theorem d_M_clear_134 : decode b_M_clear 134 = .ok (.aload_n 0, 1) := by decide +kernel
theorem d_M_clear_135 : decode b_M_clear 135 = .ok (.getfield 151, 3) := by decide +kernel
theorem d_M_clear_138 : decode b_M_clear 138 = .ok (.invokestatic 96, 3) := by decide +kernel
theorem d_M_clear_141 : decode b_M_clear 141 = .ok (.lcmp, 1) := by decide +kernel
theorem d_M_clear_142 : decode b_M_clear 142 = .ok (.ifCond .lt 35, 3) := by decide +kernel
theorem d_M_clear_145 : decode b_M_clear 145 = .ok (.iload 7, 2) := by decide +kernel
theorem d_M_clear_147 : decode b_M_clear 147 = .ok (.ifCond .eq 34, 3) := by decide +kernel
theorem d_M_clear_150 : decode b_M_clear 150 = .ok (.iload_n 1, 1) := by decide +kernel
theorem d_M_clear_151 : decode b_M_clear 151 = .ok (.aload_n 0, 1) := by decide +kernel
theorem d_M_clear_152 : decode b_M_clear 152 = .ok (.getfield 7, 3) := by decide +kernel
theorem d_M_clear_155 : decode b_M_clear 155 = .ok (.isub, 1) := by decide +kernel
theorem d_M_clear_156 : decode b_M_clear 156 = .ok (.i2l, 1) := by decide +kernel
theorem d_M_clear_157 : decode b_M_clear 157 = .ok (.invokestatic 96, 3) := by decide +kernel
theorem d_M_clear_160 : decode b_M_clear 160 = .ok (.aload_n 0, 1) := by decide +kernel
theorem d_M_clear_161 : decode b_M_clear 161 = .ok (.getfield 145, 3) := by decide +kernel
theorem d_M_clear_164 : decode b_M_clear 164 = .ok (.aload_n 0, 1) := by decide +kernel
theorem d_M_clear_165 : decode b_M_clear 165 = .ok (.getfield 7, 3) := by decide +kernel
theorem d_M_clear_168 : decode b_M_clear 168 = .ok (.isub, 1) := by decide +kernel
theorem d_M_clear_169 : decode b_M_clear 169 = .ok (.i2l, 1) := by decide +kernel
theorem d_M_clear_170 : decode b_M_clear 170 = .ok (.invokestatic 96, 3) := by decide +kernel
theorem d_M_clear_173 : decode b_M_clear 173 = .ok (.lcmp, 1) := by decide +kernel
theorem d_M_clear_174 : decode b_M_clear 174 = .ok (.ifCond .ge 7, 3) := by decide +kernel
theorem d_M_clear_177 : decode b_M_clear 177 = .ok (.iconst 1, 1) := by decide +kernel
theorem d_M_clear_178 : decode b_M_clear 178 = .ok (.goto 4, 3) := by decide +kernel
theorem d_M_clear_181 : decode b_M_clear 181 = .ok (.iconst 0, 1) := by decide +kernel
theorem d_M_clear_182 : decode b_M_clear 182 = .ok (.istore 6, 2) := by decide +kernel
theorem d_M_clear_184 : decode b_M_clear 184 = .ok (.iload 6, 2) := by decide +kernel
theorem d_M_clear_186 : decode b_M_clear 186 = .ok (.ifCond .eq 19, 3) := by decide +kernel
theorem d_M_clear_189 : decode b_M_clear 189 = .ok (.aload_n 0, 1) := by decide +kernel
theorem d_M_clear_190 : decode b_M_clear 190 = .ok (.iload_n 1, 1) := by decide +kernel
theorem d_M_clear_191 : decode b_M_clear 191 = .ok (.putfield 145, 3) := by decide +kernel
theorem d_M_clear_194 : decode b_M_clear 194 = .ok (.aload_n 0, 1) := by decide +kernel
theorem d_M_clear_195 : decode b_M_clear 195 = .ok (.lload_n 2, 1) := by decide +kernel
theorem d_M_clear_196 : decode b_M_clear 196 = .ok (.putfield 148, 3) := by decide +kernel
theorem d_M_clear_199 : decode b_M_clear 199 = .ok (.aload_n 0, 1) := by decide +kernel
theorem d_M_clear_200 : decode b_M_clear 200 = .ok (.lload 4, 2) := by decide +kernel
theorem d_M_clear_202 : decode b_M_clear 202 = .ok (.putfield 151, 3) := by decide +kernel
theorem d_M_clear_205 : decode b_M_clear 205 = .ok (.iinc 1 1, 3) := by decide +kernel
theorem d_M_clear_208 : decode b_M_clear 208 = .ok (.goto (-187), 3) := by decide +kernel
theorem d_M_clear_211 : decode b_M_clear 211 = .ok (.return_, 1) := by decide +kernel
theorem d_M_sumUp_0 : decode b_M_sumUp 0 = .ok (.iconst 0, 1) := by decide +kernel
theorem d_M_sumUp_1 : decode b_M_sumUp 1 = .ok (.istore_n 1, 1) := by decide +kernel
theorem d_M_sumUp_2 : decode b_M_sumUp 2 = .ok (.iload_n 1, 1) := by decide +kernel
theorem d_M_sumUp_3 : decode b_M_sumUp 3 = .ok (.sipush 2002, 3) := by decide +kernel
theorem d_M_sumUp_6 : decode b_M_sumUp 6 = .ok (.if_icmp .ge 23, 3) := by decide +kernel
theorem d_M_sumUp_9 : decode b_M_sumUp 9 = .ok (.aload_n 0, 1) := by decide +kernel
theorem d_M_sumUp_10 : decode b_M_sumUp 10 = .ok (.getfield 54, 3) := by decide +kernel
theorem d_M_sumUp_13 : decode b_M_sumUp 13 = .ok (.iload_n 1, 1) := by decide +kernel
theorem d_M_sumUp_14 : decode b_M_sumUp 14 = .ok (.lconst 0, 1) := by decide +kernel
theorem d_M_sumUp_15 : decode b_M_sumUp 15 = .ok (.lastore, 1) := by decide +kernel
theorem d_M_sumUp_16 : decode b_M_sumUp 16 = .ok (.aload_n 0, 1) := by decide +kernel
theorem d_M_sumUp_17 : decode b_M_sumUp 17 = .ok (.getfield 58, 3) := by decide +kernel
theorem d_M_sumUp_20 : decode b_M_sumUp 20 = .ok (.iload_n 1, 1) := by decide +kernel
theorem d_M_sumUp_21 : decode b_M_sumUp 21 = .ok (.lconst 0, 1) := by decide +kernel
theorem d_M_sumUp_22 : decode b_M_sumUp 22 = .ok (.lastore, 1) := by decide +kernel
theorem d_M_sumUp_23 : decode b_M_sumUp 23 = .ok (.iinc 1 1, 3) := by decide +kernel
theorem d_M_sumUp_26 : decode b_M_sumUp 26 = .ok (.goto (-24), 3) := by decide +kernel
theorem d_M_sumUp_29 : decode b_M_sumUp 29 = .ok (.iconst 0, 1) := by decide +kernel
theorem d_M_sumUp_30 : decode b_M_sumUp 30 = .ok (.istore_n 1, 1) := by decide +kernel
theorem d_M_sumUp_31 : decode b_M_sumUp 31 = .ok (.iload_n 1, 1) := by decide +kernel
theorem d_M_sumUp_32 : decode b_M_sumUp 32 = .ok (.aload_n 0, 1) := by decide +kernel
theorem d_M_sumUp_33 : decode b_M_sumUp 33 = .ok (.getfield 64, 3) := by decide +kernel
theorem d_M_sumUp_36 : decode b_M_sumUp 36 = .ok (.if_icmp .ge 114, 3) := by decide +kernel
theorem d_M_sumUp_39 : decode b_M_sumUp 39 = .ok (.aload_n 0, 1) := by decide +kernel
theorem d_M_sumUp_40 : decode b_M_sumUp 40 = .ok (.getfield 21, 3) := by decide +kernel
theorem d_M_sumUp_43 : decode b_M_sumUp 43 = .ok (.iload_n 1, 1) := by decide +kernel
theorem d_M_sumUp_44 : decode b_M_sumUp 44 = .ok (.iaload, 1) := by decide +kernel
theorem d_M_sumUp_45 : decode b_M_sumUp 45 = .ok (.ifCond .ne 18, 3) := by decide +kernel
theorem d_M_sumUp_48 : decode b_M_sumUp 48 = .ok (.aload_n 0, 1) := by decide +kernel
theorem d_M_sumUp_49 : decode b_M_sumUp 49 = .ok (.getfield 17, 3) := by decide +kernel
theorem d_M_sumUp_52 : decode b_M_sumUp 52 = .ok (.iload_n 1, 1) := by decide +kernel
theorem d_M_sumUp_53 : decode b_M_sumUp 53 = .ok (.baload, 1) := by decide +kernel
theorem d_M_sumUp_54 : decode b_M_sumUp 54 = .ok (.ifCond .eq 9, 3) := by decide +kernel
theorem d_M_sumUp_57 : decode b_M_sumUp 57 = .ok (.sipush 2000, 3) := by decide +kernel
theorem d_M_sumUp_60 : decode b_M_sumUp 60 = .ok (.goto 9, 3) := by decide +kernel
theorem d_M_sumUp_63 : decode b_M_sumUp 63 = .ok (.aload_n 0, 1) := by decide +kernel
theorem d_M_sumUp_64 : decode b_M_sumUp 64 = .ok (.getfield 21, 3) := by decide +kernel
theorem d_M_sumUp_67 : decode b_M_sumUp 67 = .ok (.iload_n 1, 1) := by decide +kernel
theorem d_M_sumUp_68 : decode b_M_sumUp 68 = .ok (.iaload, 1) := by decide +kernel
theorem d_M_sumUp_69 : decode b_M_sumUp 69 = .ok (.istore_n 2, 1) := by decide +kernel
theorem d_M_sumUp_70 : decode b_M_sumUp 70 = .ok (.aload_n 0, 1) := by decide +kernel
theorem d_M_sumUp_71 : decode b_M_sumUp 71 = .ok (.getfield 54, 3) := by decide +kernel
theorem d_M_sumUp_74 : decode b_M_sumUp 74 = .ok (.iload_n 2, 1) := by decide +kernel
theorem d_M_sumUp_75 : decode b_M_sumUp 75 = .ok (.dup2, 1) := by decide +kernel
theorem d_M_sumUp_76 : decode b_M_sumUp 76 = .ok (.laload, 1) := by decide +kernel
theorem d_M_sumUp_77 : decode b_M_sumUp 77 = .ok (.aload_n 0, 1) := by decide +kernel
theorem d_M_sumUp_78 : decode b_M_sumUp 78 = .ok (.iload_n 1, 1) := by decide +kernel
theorem d_M_sumUp_79 : decode b_M_sumUp 79 = .ok (.invokevirtual 71, 3) := by decide +kernel
theorem d_M_sumUp_82 : decode b_M_sumUp 82 = .ok (.ifCond .eq 22, 3) := by decide +kernel
theorem d_M_sumUp_85 : decode b_M_sumUp 85 = .ok (.aload_n 0, 1) := by decide +kernel
theorem d_M_sumUp_86 : decode b_M_sumUp 86 = .ok (.getfield 17, 3) := by decide +kernel
theorem d_M_sumUp_89 : decode b_M_sumUp 89 = .ok (.iload_n 1, 1) := by decide +kernel
theorem d_M_sumUp_90 : decode b_M_sumUp 90 = .ok (.baload, 1) := by decide +kernel
theorem d_M_sumUp_91 : decode b_M_sumUp 91 = .ok (.ifCond .eq 13, 3) := by decide +kernel
theorem d_M_sumUp_94 : decode b_M_sumUp 94 = .ok (.aload_n 0, 1) := by decide +kernel
theorem d_M_sumUp_95 : decode b_M_sumUp 95 = .ok (.getfield 24, 3) := by decide +kernel
theorem d_M_sumUp_98 : decode b_M_sumUp 98 = .ok (.iload_n 1, 1) := by decide +kernel
theorem d_M_sumUp_99 : decode b_M_sumUp 99 = .ok (.iaload, 1) := by decide +kernel
theorem d_M_sumUp_100 : decode b_M_sumUp 100 = .ok (.i2l, 1) := by decide +kernel
theorem d_M_sumUp_101 : decode b_M_sumUp 101 = .ok (.goto 4, 3) := by decide +kernel
theorem d_M_sumUp_104 : decode b_M_sumUp 104 = .ok (.lconst 0, 1) := by decide +kernel
theorem d_M_sumUp_105 : decode b_M_sumUp 105 = .ok (.ladd, 1) := by decide +kernel
theorem d_M_sumUp_106 : decode b_M_sumUp 106 = .ok (.lastore, 1) := by decide +kernel
theorem d_M_sumUp_107 : decode b_M_sumUp 107 = .ok (.aload_n 0, 1) := by decide +kernel
theorem d_M_sumUp_108 : decode b_M_sumUp 108 = .ok (.getfield 58, 3) := by decide +kernel
theorem d_M_sumUp_111 : decode b_M_sumUp 111 = .ok (.iload_n 2, 1) := by decide +kernel
theorem d_M_sumUp_112 : decode b_M_sumUp 112 = .ok (.dup2, 1) := by decide +kernel
theorem d_M_sumUp_113 : decode b_M_sumUp 113 = .ok (.laload, 1) := by decide +kernel
theorem d_M_sumUp_114 : decode b_M_sumUp 114 = .ok (.aload_n 0, 1) := by decide +kernel
theorem d_M_sumUp_115 : decode b_M_sumUp 115 = .ok (.iload_n 1, 1) := by decide +kernel
theorem d_M_sumUp_116 : decode b_M_sumUp 116 = .ok (.invokevirtual 71, 3) := by decide +kernel
theorem d_M_sumUp_119 : decode b_M_sumUp 119 = .ok (.ifCond .eq 22, 3) := by decide +kernel
theorem d_M_sumUp_122 : decode b_M_sumUp 122 = .ok (.aload_n 0, 1) := by decide +kernel
theorem d_M_sumUp_123 : decode b_M_sumUp 123 = .ok (.getfield 17, 3) := by decide +kernel
theorem d_M_sumUp_126 : decode b_M_sumUp 126 = .ok (.iload_n 1, 1) := by decide +kernel
theorem d_M_sumUp_127 : decode b_M_sumUp 127 = .ok (.baload, 1) := by decide +kernel
theorem d_M_sumUp_128 : decode b_M_sumUp 128 = .ok (.ifCond .ne 13, 3) := by decide +kernel
theorem d_M_sumUp_131 : decode b_M_sumUp 131 = .ok (.aload_n 0, 1) := by decide +kernel
theorem d_M_sumUp_132 : decode b_M_sumUp 132 = .ok (.getfield 24, 3) := by decide +kernel
theorem d_M_sumUp_135 : decode b_M_sumUp 135 = .ok (.iload_n 1, 1) := by decide +kernel
theorem d_M_sumUp_136 : decode b_M_sumUp 136 = .ok (.iaload, 1) := by decide +kernel
theorem d_M_sumUp_137 : decode b_M_sumUp 137 = .ok (.i2l, 1) := by decide +kernel
theorem d_M_sumUp_138 : decode b_M_sumUp 138 = .ok (.goto 4, 3) := by decide +kernel
theorem d_M_sumUp_141 : decode b_M_sumUp 141 = .ok (.lconst 0, 1) := by decide +kernel
theorem d_M_sumUp_142 : decode b_M_sumUp 142 = .ok (.ladd, 1) := by decide +kernel
theorem d_M_sumUp_143 : decode b_M_sumUp 143 = .ok (.lastore, 1) := by decide +kernel
theorem d_M_sumUp_144 : decode b_M_sumUp 144 = .ok (.iinc 1 1, 3) := by decide +kernel
theorem d_M_sumUp_147 : decode b_M_sumUp 147 = .ok (.goto (-116), 3) := by decide +kernel
theorem d_M_sumUp_150 : decode b_M_sumUp 150 = .ok (.iconst 1, 1) := by decide +kernel
theorem d_M_sumUp_151 : decode b_M_sumUp 151 = .ok (.istore_n 1, 1) := by decide +kernel
theorem d_M_sumUp_152 : decode b_M_sumUp 152 = .ok (.iload_n 1, 1) := by decide +kernel
theorem d_M_sumUp_153 : decode b_M_sumUp 153 = .ok (.sipush 2000, 3) := by decide +kernel
theorem d_M_sumUp_156 : decode b_M_sumUp 156 = .ok (.if_icmp .gt 51, 3) := by decide +kernel
theorem d_M_sumUp_159 : decode b_M_sumUp 159 = .ok (.aload_n 0, 1) := by decide +kernel
theorem d_M_sumUp_160 : decode b_M_sumUp 160 = .ok (.getfield 58, 3) := by decide +kernel
theorem d_M_sumUp_163 : decode b_M_sumUp 163 = .ok (.iload_n 1, 1) := by decide +kernel
theorem d_M_sumUp_164 : decode b_M_sumUp 164 = .ok (.dup2, 1) := by decide +kernel
theorem d_M_sumUp_165 : decode b_M_sumUp 165 = .ok (.laload, 1) := by decide +kernel
theorem d_M_sumUp_166 : decode b_M_sumUp 166 = .ok (.aload_n 0, 1) := by decide +kernel
theorem d_M_sumUp_167 : decode b_M_sumUp 167 = .ok (.getfield 58, 3) := by decide +kernel
theorem d_M_sumUp_170 : decode b_M_sumUp 170 = .ok (.iload_n 1, 1) := by decide +kernel
theorem d_M_sumUp_171 : decode b_M_sumUp 171 = .ok (.iconst 1, 1) := by decide +kernel
theorem d_M_sumUp_172 : decode b_M_sumUp 172 = .ok (.isub, 1) := by decide +kernel
theorem d_M_sumUp_173 : decode b_M_sumUp 173 = .ok (.laload, 1) := by decide +kernel
theorem d_M_sumUp_174 : decode b_M_sumUp 174 = .ok (.ladd, 1) := by decide +kernel
theorem d_M_sumUp_175 : decode b_M_sumUp 175 = .ok (.lastore, 1) := by decide +kernel
theorem d_M_sumUp_176 : decode b_M_sumUp 176 = .ok (.aload_n 0, 1) := by decide +kernel
theorem d_M_sumUp_177 : decode b_M_sumUp 177 = .ok (.getfield 54, 3) := by decide +kernel
theorem d_M_sumUp_180 : decode b_M_sumUp 180 = .ok (.sipush 2000, 3) := by decide +kernel
theorem d_M_sumUp_183 : decode b_M_sumUp 183 = .ok (.iload_n 1, 1) := by decide +kernel
theorem d_M_sumUp_184 : decode b_M_sumUp 184 = .ok (.isub, 1) := by decide +kernel
theorem d_M_sumUp_185 : decode b_M_sumUp 185 = .ok (.dup2, 1) := by decide +kernel
theorem d_M_sumUp_186 : decode b_M_sumUp 186 = .ok (.laload, 1) := by decide +kernel
theorem d_M_sumUp_187 : decode b_M_sumUp 187 = .ok (.aload_n 0, 1) := by decide +kernel
theorem d_M_sumUp_188 : decode b_M_sumUp 188 = .ok (.getfield 54, 3) := by decide +kernel
theorem d_M_sumUp_191 : decode b_M_sumUp 191 = .ok (.sipush 2000, 3) := by decide +kernel
theorem d_M_sumUp_194 : decode b_M_sumUp 194 = .ok (.iload_n 1, 1) := by decide +kernel
theorem d_M_sumUp_195 : decode b_M_sumUp 195 = .ok (.isub, 1) := by decide +kernel
theorem d_M_sumUp_196 : decode b_M_sumUp 196 = .ok (.iconst 1, 1) := by decide +kernel
theorem d_M_sumUp_197 : decode b_M_sumUp 197 = .ok (.iadd, 1) := by decide +kernel
theorem d_M_sumUp_198 : decode b_M_sumUp 198 = .ok (.laload, 1) := by decide +kernel
theorem d_M_sumUp_199 : decode b_M_sumUp 199 = .ok (.ladd, 1) := by decide +kernel
theorem d_M_sumUp_200 : decode b_M_sumUp 200 = .ok (.lastore, 1) := by decide +kernel
theorem d_M_sumUp_201 : decode b_M_sumUp 201 = .ok (.iinc 1 1, 3) := by decide +kernel
theorem d_M_sumUp_204 : decode b_M_sumUp 204 = .ok (.goto (-52), 3) := by decide +kernel
theorem d_M_sumUp_207 : decode b_M_sumUp 207 = .ok (.return_, 1) := by decide +kernel
theorem d_M_call_0 : decode b_M_call 0 = .ok (.aload_n 0, 1) := by decide +kernel
theorem d_M_call_1 : decode b_M_call 1 = .ok (.iconst 0, 1) := by decide +kernel
theorem d_M_call_2 : decode b_M_call 2 = .ok (.putfield 61, 3) := by decide +kernel
theorem d_M_call_5 : decode b_M_call 5 = .ok (.aload_n 0, 1) := by decide +kernel
theorem d_M_call_6 : decode b_M_call 6 = .ok (.getfield 113, 3) := by decide +kernel
theorem d_M_call_9 : decode b_M_call 9 = .ok (.istore_n 1, 1) := by decide +kernel
theorem d_M_call_10 : decode b_M_call 10 = .ok (.aload_n 0, 1) := by decide +kernel
theorem d_M_call_11 : decode b_M_call 11 = .ok (.iconst 0, 1) := by decide +kernel
theorem d_M_call_12 : decode b_M_call 12 = .ok (.putfield 113, 3) := by decide +kernel
theorem d_M_call_15 : decode b_M_call 15 = .ok (.iload_n 1, 1) := by decide +kernel
theorem d_M_call_16 : decode b_M_call 16 = .ok (.ireturn, 1) := by decide +kernel
theorem d_M_band_0 : decode b_M_band 0 = .ok (.aload_n 0, 1) := by decide +kernel
theorem d_M_band_1 : decode b_M_band 1 = .ok (.iload_n 1, 1) := by decide +kernel
theorem d_M_band_2 : decode b_M_band 2 = .ok (.iconst 1, 1) := by decide +kernel
theorem d_M_band_3 : decode b_M_band 3 = .ok (.sipush 2000, 3) := by decide +kernel
theorem d_M_band_6 : decode b_M_band 6 = .ok (.invokestatic 67, 3) := by decide +kernel
theorem d_M_band_9 : decode b_M_band 9 = .ok (.ifCond .eq 18, 3) := by decide +kernel
theorem d_M_band_12 : decode b_M_band 12 = .ok (.iload_n 2, 1) := by decide +kernel
theorem d_M_band_13 : decode b_M_band 13 = .ok (.iconst 0, 1) := by decide +kernel
theorem d_M_band_14 : decode b_M_band 14 = .ok (.sipush 2000, 3) := by decide +kernel
theorem d_M_band_17 : decode b_M_band 17 = .ok (.invokestatic 67, 3) := by decide +kernel
theorem d_M_band_20 : decode b_M_band 20 = .ok (.ifCond .eq 7, 3) := by decide +kernel
theorem d_M_band_23 : decode b_M_band 23 = .ok (.iconst 0, 1) := by decide +kernel
theorem d_M_band_24 : decode b_M_band 24 = .ok (.goto 4, 3) := by decide +kernel
theorem d_M_band_27 : decode b_M_band 27 = .ok (.iconst 1, 1) := by decide +kernel
theorem d_M_band_28 : decode b_M_band 28 = .ok (.putfield 61, 3) := by decide +kernel
theorem d_M_band_31 : decode b_M_band 31 = .ok (.aload_n 0, 1) := by decide +kernel
theorem d_M_band_32 : decode b_M_band 32 = .ok (.getfield 61, 3) := by decide +kernel
theorem d_M_band_35 : decode b_M_band 35 = .ok (.ifCond .le 5, 3) := by decide +kernel
theorem d_M_band_38 : decode b_M_band 38 = .ok (.iconst 0, 1) := by decide +kernel
theorem d_M_band_39 : decode b_M_band 39 = .ok (.ireturn, 1) := by decide +kernel
theorem d_M_band_40 : decode b_M_band 40 = .ok (.aload_n 0, 1) := by decide +kernel
theorem d_M_band_41 : decode b_M_band 41 = .ok (.getfield 7, 3) := by decide +kernel
theorem d_M_band_44 : decode b_M_band 44 = .ok (.istore_n 3, 1) := by decide +kernel
theorem d_M_band_45 : decode b_M_band 45 = .ok (.aload_n 0, 1) := by decide +kernel
theorem d_M_band_46 : decode b_M_band 46 = .ok (.iload_n 1, 1) := by decide +kernel
theorem d_M_band_47 : decode b_M_band 47 = .ok (.putfield 7, 3) := by decide +kernel
theorem d_M_band_50 : decode b_M_band 50 = .ok (.aload_n 0, 1) := by decide +kernel
theorem d_M_band_51 : decode b_M_band 51 = .ok (.iload_n 2, 1) := by decide +kernel
theorem d_M_band_52 : decode b_M_band 52 = .ok (.putfield 93, 3) := by decide +kernel
theorem d_M_band_55 : decode b_M_band 55 = .ok (.iload_n 3, 1) := by decide +kernel
theorem d_M_band_56 : decode b_M_band 56 = .ok (.ireturn, 1) := by decide +kernel
theorem d_M_clearing_0 : decode b_M_clearing 0 = .ok (.aload_n 0, 1) := by decide +kernel
theorem d_M_clearing_1 : decode b_M_clearing 1 = .ok (.iload_n 1, 1) := by decide +kernel
theorem d_M_clearing_2 : decode b_M_clearing 2 = .ok (.iconst 0, 1) := by decide +kernel
theorem d_M_clearing_3 : decode b_M_clearing 3 = .ok (.iconst 2, 1) := by decide +kernel
theorem d_M_clearing_4 : decode b_M_clearing 4 = .ok (.invokestatic 67, 3) := by decide +kernel
theorem d_M_clearing_7 : decode b_M_clearing 7 = .ok (.ifCond .eq 7, 3) := by decide +kernel
theorem d_M_clearing_10 : decode b_M_clearing 10 = .ok (.iconst 0, 1) := by decide +kernel
theorem d_M_clearing_11 : decode b_M_clearing 11 = .ok (.goto 4, 3) := by decide +kernel
theorem d_M_clearing_14 : decode b_M_clearing 14 = .ok (.iconst 1, 1) := by decide +kernel
theorem d_M_clearing_15 : decode b_M_clearing 15 = .ok (.putfield 61, 3) := by decide +kernel
theorem d_M_clearing_18 : decode b_M_clearing 18 = .ok (.aload_n 0, 1) := by decide +kernel
theorem d_M_clearing_19 : decode b_M_clearing 19 = .ok (.getfield 61, 3) := by decide +kernel
theorem d_M_clearing_22 : decode b_M_clearing 22 = .ok (.ifCond .le 5, 3) := by decide +kernel
theorem d_M_clearing_25 : decode b_M_clearing 25 = .ok (.lconst 0, 1) := by decide +kernel
theorem d_M_clearing_26 : decode b_M_clearing 26 = .ok (.lreturn, 1) := by decide +kernel
theorem d_M_clearing_27 : decode b_M_clearing 27 = .ok (.aload_n 0, 1) := by decide +kernel
theorem d_M_clearing_28 : decode b_M_clearing 28 = .ok (.invokevirtual 154, 3) := by decide +kernel
theorem d_M_clearing_31 : decode b_M_clearing 31 = .ok (.iload_n 1, 1) := by decide +kernel
theorem d_M_clearing_32 : decode b_M_clearing 32 = .ok (.ifCond .ne 11, 3) := by decide +kernel
theorem d_M_clearing_35 : decode b_M_clearing 35 = .ok (.aload_n 0, 1) := by decide +kernel
theorem d_M_clearing_36 : decode b_M_clearing 36 = .ok (.getfield 145, 3) := by decide +kernel
theorem d_M_clearing_39 : decode b_M_clearing 39 = .ok (.i2l, 1) := by decide +kernel
theorem d_M_clearing_40 : decode b_M_clearing 40 = .ok (.goto 19, 3) := by decide +kernel
theorem d_M_clearing_43 : decode b_M_clearing 43 = .ok (.iload_n 1, 1) := by decide +kernel
theorem d_M_clearing_44 : decode b_M_clearing 44 = .ok (.iconst 1, 1) := by decide +kernel
theorem d_M_clearing_45 : decode b_M_clearing 45 = .ok (.if_icmp .ne 10, 3) := by decide +kernel
theorem d_M_clearing_48 : decode b_M_clearing 48 = .ok (.aload_n 0, 1) := by decide +kernel
theorem d_M_clearing_49 : decode b_M_clearing 49 = .ok (.getfield 148, 3) := by decide +kernel
theorem d_M_clearing_52 : decode b_M_clearing 52 = .ok (.goto 7, 3) := by decide +kernel
theorem d_M_clearing_55 : decode b_M_clearing 55 = .ok (.aload_n 0, 1) := by decide +kernel
theorem d_M_clearing_56 : decode b_M_clearing 56 = .ok (.getfield 151, 3) := by decide +kernel
theorem d_M_clearing_59 : decode b_M_clearing 59 = .ok (.lreturn, 1) := by decide +kernel
theorem d_M_order_0 : decode b_M_order 0 = .ok (.aload_n 0, 1) := by decide +kernel
theorem d_M_order_1 : decode b_M_order 1 = .ok (.aload_n 0, 1) := by decide +kernel
theorem d_M_order_2 : decode b_M_order 2 = .ok (.iload_n 1, 1) := by decide +kernel
theorem d_M_order_3 : decode b_M_order 3 = .ok (.invokevirtual 139, 3) := by decide +kernel
theorem d_M_order_6 : decode b_M_order 6 = .ok (.ifCond .eq 17, 3) := by decide +kernel
theorem d_M_order_9 : decode b_M_order 9 = .ok (.iload_n 2, 1) := by decide +kernel
theorem d_M_order_10 : decode b_M_order 10 = .ok (.iconst 0, 1) := by decide +kernel
theorem d_M_order_11 : decode b_M_order 11 = .ok (.bipush 8, 2) := by decide +kernel
theorem d_M_order_13 : decode b_M_order 13 = .ok (.invokestatic 67, 3) := by decide +kernel
theorem d_M_order_16 : decode b_M_order 16 = .ok (.ifCond .eq 7, 3) := by decide +kernel
theorem d_M_order_19 : decode b_M_order 19 = .ok (.iconst 0, 1) := by decide +kernel
theorem d_M_order_20 : decode b_M_order 20 = .ok (.goto 4, 3) := by decide +kernel
theorem d_M_order_23 : decode b_M_order 23 = .ok (.iconst 1, 1) := by decide +kernel
theorem d_M_order_24 : decode b_M_order 24 = .ok (.putfield 61, 3) := by decide +kernel
theorem d_M_order_27 : decode b_M_order 27 = .ok (.aload_n 0, 1) := by decide +kernel
theorem d_M_order_28 : decode b_M_order 28 = .ok (.getfield 61, 3) := by decide +kernel
theorem d_M_order_31 : decode b_M_order 31 = .ok (.ifCond .le 5, 3) := by decide +kernel
theorem d_M_order_34 : decode b_M_order 34 = .ok (.iconst 0, 1) := by decide +kernel
theorem d_M_order_35 : decode b_M_order 35 = .ok (.ireturn, 1) := by decide +kernel
theorem d_M_order_36 : decode b_M_order 36 = .ok (.iload_n 2, 1) := by decide +kernel
theorem d_M_order_37 : decode b_M_order 37 = .ok (.tableswitch 111 0 7 #[47, 54, 69, 76, 83, 90, 97, 104], 47) := by decide +kernel
theorem d_M_order_84 : decode b_M_order 84 = .ok (.aload_n 0, 1) := by decide +kernel
theorem d_M_order_85 : decode b_M_order 85 = .ok (.getfield 13, 3) := by decide +kernel
theorem d_M_order_88 : decode b_M_order 88 = .ok (.iload_n 1, 1) := by decide +kernel
theorem d_M_order_89 : decode b_M_order 89 = .ok (.iaload, 1) := by decide +kernel
theorem d_M_order_90 : decode b_M_order 90 = .ok (.ireturn, 1) := by decide +kernel
theorem d_M_order_91 : decode b_M_order 91 = .ok (.aload_n 0, 1) := by decide +kernel
theorem d_M_order_92 : decode b_M_order 92 = .ok (.getfield 17, 3) := by decide +kernel
theorem d_M_order_95 : decode b_M_order 95 = .ok (.iload_n 1, 1) := by decide +kernel
theorem d_M_order_96 : decode b_M_order 96 = .ok (.baload, 1) := by decide +kernel
theorem d_M_order_97 : decode b_M_order 97 = .ok (.ifCond .eq 7, 3) := by decide +kernel
theorem d_M_order_100 : decode b_M_order 100 = .ok (.iconst 1, 1) := by decide +kernel
theorem d_M_order_101 : decode b_M_order 101 = .ok (.goto 4, 3) := by decide +kernel
theorem d_M_order_104 : decode b_M_order 104 = .ok (.iconst 0, 1) := by decide +kernel
theorem d_M_order_105 : decode b_M_order 105 = .ok (.ireturn, 1) := by decide +kernel
theorem d_M_order_106 : decode b_M_order 106 = .ok (.aload_n 0, 1) := by decide +kernel
theorem d_M_order_107 : decode b_M_order 107 = .ok (.getfield 21, 3) := by decide +kernel
theorem d_M_order_110 : decode b_M_order 110 = .ok (.iload_n 1, 1) := by decide +kernel
theorem d_M_order_111 : decode b_M_order 111 = .ok (.iaload, 1) := by decide +kernel
theorem d_M_order_112 : decode b_M_order 112 = .ok (.ireturn, 1) := by decide +kernel
theorem d_M_order_113 : decode b_M_order 113 = .ok (.aload_n 0, 1) := by decide +kernel
theorem d_M_order_114 : decode b_M_order 114 = .ok (.getfield 24, 3) := by decide +kernel
theorem d_M_order_117 : decode b_M_order 117 = .ok (.iload_n 1, 1) := by decide +kernel
theorem d_M_order_118 : decode b_M_order 118 = .ok (.iaload, 1) := by decide +kernel
theorem d_M_order_119 : decode b_M_order 119 = .ok (.ireturn, 1) := by decide +kernel
theorem d_M_order_120 : decode b_M_order 120 = .ok (.aload_n 0, 1) := by decide +kernel
theorem d_M_order_121 : decode b_M_order 121 = .ok (.getfield 27, 3) := by decide +kernel
theorem d_M_order_124 : decode b_M_order 124 = .ok (.iload_n 1, 1) := by decide +kernel
theorem d_M_order_125 : decode b_M_order 125 = .ok (.iaload, 1) := by decide +kernel
theorem d_M_order_126 : decode b_M_order 126 = .ok (.ireturn, 1) := by decide +kernel
theorem d_M_order_127 : decode b_M_order 127 = .ok (.aload_n 0, 1) := by decide +kernel
theorem d_M_order_128 : decode b_M_order 128 = .ok (.getfield 30, 3) := by decide +kernel
theorem d_M_order_131 : decode b_M_order 131 = .ok (.iload_n 1, 1) := by decide +kernel
theorem d_M_order_132 : decode b_M_order 132 = .ok (.iaload, 1) := by decide +kernel
theorem d_M_order_133 : decode b_M_order 133 = .ok (.ireturn, 1) := by decide +kernel
theorem d_M_order_134 : decode b_M_order 134 = .ok (.aload_n 0, 1) := by decide +kernel
theorem d_M_order_135 : decode b_M_order 135 = .ok (.getfield 33, 3) := by decide +kernel
theorem d_M_order_138 : decode b_M_order 138 = .ok (.iload_n 1, 1) := by decide +kernel
theorem d_M_order_139 : decode b_M_order 139 = .ok (.iaload, 1) := by decide +kernel
theorem d_M_order_140 : decode b_M_order 140 = .ok (.ireturn, 1) := by decide +kernel
theorem d_M_order_141 : decode b_M_order 141 = .ok (.aload_n 0, 1) := by decide +kernel
theorem d_M_order_142 : decode b_M_order 142 = .ok (.getfield 36, 3) := by decide +kernel
theorem d_M_order_145 : decode b_M_order 145 = .ok (.iload_n 1, 1) := by decide +kernel
theorem d_M_order_146 : decode b_M_order 146 = .ok (.iaload, 1) := by decide +kernel
theorem d_M_order_147 : decode b_M_order 147 = .ok (.ireturn, 1) := by decide +kernel
theorem d_M_order_148 : decode b_M_order 148 = .ok (.aload_n 0, 1) := by decide +kernel
theorem d_M_order_149 : decode b_M_order 149 = .ok (.getfield 39, 3) := by decide +kernel
theorem d_M_order_152 : decode b_M_order 152 = .ok (.iload_n 1, 1) := by decide +kernel
theorem d_M_order_153 : decode b_M_order 153 = .ok (.iaload, 1) := by decide +kernel
theorem d_M_order_154 : decode b_M_order 154 = .ok (.ireturn, 1) := by decide +kernel
theorem d_M_at_0 : decode b_M_at 0 = .ok (.aload_n 0, 1) := by decide +kernel
theorem d_M_at_1 : decode b_M_at 1 = .ok (.iconst 0, 1) := by decide +kernel
theorem d_M_at_2 : decode b_M_at 2 = .ok (.putfield 61, 3) := by decide +kernel
theorem d_M_at_5 : decode b_M_at 5 = .ok (.iconst (-1), 1) := by decide +kernel
theorem d_M_at_6 : decode b_M_at 6 = .ok (.istore_n 3, 1) := by decide +kernel
theorem d_M_at_7 : decode b_M_at 7 = .ok (.iconst 0, 1) := by decide +kernel
theorem d_M_at_8 : decode b_M_at 8 = .ok (.istore 4, 2) := by decide +kernel
theorem d_M_at_10 : decode b_M_at 10 = .ok (.iload 4, 2) := by decide +kernel
theorem d_M_at_12 : decode b_M_at 12 = .ok (.aload_n 0, 1) := by decide +kernel
theorem d_M_at_13 : decode b_M_at 13 = .ok (.getfield 64, 3) := by decide +kernel
theorem d_M_at_16 : decode b_M_at 16 = .ok (.if_icmp .ge 104, 3) := by decide +kernel
theorem d_M_at_19 : decode b_M_at 19 = .ok (.aload_n 0, 1) := by decide +kernel
theorem d_M_at_20 : decode b_M_at 20 = .ok (.iload 4, 2) := by decide +kernel
theorem d_M_at_22 : decode b_M_at 22 = .ok (.invokevirtual 71, 3) := by decide +kernel
theorem d_M_at_25 : decode b_M_at 25 = .ok (.ifCond .eq 89, 3) := by decide +kernel
theorem d_M_at_28 : decode b_M_at 28 = .ok (.aload_n 0, 1) := by decide +kernel
theorem d_M_at_29 : decode b_M_at 29 = .ok (.getfield 17, 3) := by decide +kernel
theorem d_M_at_32 : decode b_M_at 32 = .ok (.iload 4, 2) := by decide +kernel
theorem d_M_at_34 : decode b_M_at 34 = .ok (.baload, 1) := by decide +kernel
theorem d_M_at_35 : decode b_M_at 35 = .ok (.iload_n 1, 1) := by decide +kernel
theorem d_M_at_36 : decode b_M_at 36 = .ok (.if_icmp .ne 78, 3) := by decide +kernel
theorem d_M_at_39 : decode b_M_at 39 = .ok (.iconst 0, 1) := by decide +kernel
theorem d_M_at_40 : decode b_M_at 40 = .ok (.istore 5, 2) := by decide +kernel
theorem d_M_at_42 : decode b_M_at 42 = .ok (.iconst 0, 1) := by decide +kernel
theorem d_M_at_43 : decode b_M_at 43 = .ok (.istore 6, 2) := by decide +kernel
theorem d_M_at_45 : decode b_M_at 45 = .ok (.iload 6, 2) := by decide +kernel
theorem d_M_at_47 : decode b_M_at 47 = .ok (.aload_n 0, 1) := by decide +kernel
theorem d_M_at_48 : decode b_M_at 48 = .ok (.getfield 64, 3) := by decide +kernel
theorem d_M_at_51 : decode b_M_at 51 = .ok (.if_icmp .ge 50, 3) := by decide +kernel
theorem d_M_at_54 : decode b_M_at 54 = .ok (.iload 5, 2) := by decide +kernel
theorem d_M_at_56 : decode b_M_at 56 = .ok (.aload_n 0, 1) := by decide +kernel
theorem d_M_at_57 : decode b_M_at 57 = .ok (.iload 6, 2) := by decide +kernel
theorem d_M_at_59 : decode b_M_at 59 = .ok (.invokevirtual 71, 3) := by decide +kernel
theorem d_M_at_62 : decode b_M_at 62 = .ok (.ifCond .eq 29, 3) := by decide +kernel
theorem d_M_at_65 : decode b_M_at 65 = .ok (.aload_n 0, 1) := by decide +kernel
theorem d_M_at_66 : decode b_M_at 66 = .ok (.getfield 17, 3) := by decide +kernel
theorem d_M_at_69 : decode b_M_at 69 = .ok (.iload 6, 2) := by decide +kernel
theorem d_M_at_71 : decode b_M_at 71 = .ok (.baload, 1) := by decide +kernel
theorem d_M_at_72 : decode b_M_at 72 = .ok (.iload_n 1, 1) := by decide +kernel
theorem d_M_at_73 : decode b_M_at 73 = .ok (.if_icmp .ne 18, 3) := by decide +kernel
theorem d_M_at_76 : decode b_M_at 76 = .ok (.aload_n 0, 1) := by decide +kernel
theorem d_M_at_77 : decode b_M_at 77 = .ok (.iload 6, 2) := by decide +kernel
theorem d_M_at_79 : decode b_M_at 79 = .ok (.iload 4, 2) := by decide +kernel
theorem d_M_at_81 : decode b_M_at 81 = .ok (.invokevirtual 75, 3) := by decide +kernel
theorem d_M_at_84 : decode b_M_at 84 = .ok (.ifCond .eq 7, 3) := by decide +kernel
theorem d_M_at_87 : decode b_M_at 87 = .ok (.iconst 1, 1) := by decide +kernel
theorem d_M_at_88 : decode b_M_at 88 = .ok (.goto 4, 3) := by decide +kernel
theorem d_M_at_91 : decode b_M_at 91 = .ok (.iconst 0, 1) := by decide +kernel
theorem d_M_at_92 : decode b_M_at 92 = .ok (.iadd, 1) := by decide +kernel
theorem d_M_at_93 : decode b_M_at 93 = .ok (.istore 5, 2) := by decide +kernel
theorem d_M_at_95 : decode b_M_at 95 = .ok (.iinc 6 1, 3) := by decide +kernel
theorem d_M_at_98 : decode b_M_at 98 = .ok (.goto (-53), 3) := by decide +kernel
theorem d_M_at_101 : decode b_M_at 101 = .ok (.iload 5, 2) := by decide +kernel
theorem d_M_at_103 : decode b_M_at 103 = .ok (.iload_n 2, 1) := by decide +kernel
theorem d_M_at_104 : decode b_M_at 104 = .ok (.if_icmp .ne 8, 3) := by decide +kernel
theorem d_M_at_107 : decode b_M_at 107 = .ok (.iload 4, 2) := by decide +kernel
theorem d_M_at_109 : decode b_M_at 109 = .ok (.goto 4, 3) := by decide +kernel
theorem d_M_at_112 : decode b_M_at 112 = .ok (.iload_n 3, 1) := by decide +kernel
theorem d_M_at_113 : decode b_M_at 113 = .ok (.istore_n 3, 1) := by decide +kernel
theorem d_M_at_114 : decode b_M_at 114 = .ok (.iinc 4 1, 3) := by decide +kernel
theorem d_M_at_117 : decode b_M_at 117 = .ok (.goto (-107), 3) := by decide +kernel
theorem d_M_at_120 : decode b_M_at 120 = .ok (.iload_n 3, 1) := by decide +kernel
theorem d_M_at_121 : decode b_M_at 121 = .ok (.ireturn, 1) := by decide +kernel
theorem d_M_depth_0 : decode b_M_depth 0 = .ok (.aload_n 0, 1) := by decide +kernel
theorem d_M_depth_1 : decode b_M_depth 1 = .ok (.iload_n 2, 1) := by decide +kernel
theorem d_M_depth_2 : decode b_M_depth 2 = .ok (.iconst 0, 1) := by decide +kernel
theorem d_M_depth_3 : decode b_M_depth 3 = .ok (.sipush 2000, 3) := by decide +kernel
theorem d_M_depth_6 : decode b_M_depth 6 = .ok (.invokestatic 67, 3) := by decide +kernel
theorem d_M_depth_9 : decode b_M_depth 9 = .ok (.ifCond .eq 7, 3) := by decide +kernel
theorem d_M_depth_12 : decode b_M_depth 12 = .ok (.iconst 0, 1) := by decide +kernel
theorem d_M_depth_13 : decode b_M_depth 13 = .ok (.goto 4, 3) := by decide +kernel
theorem d_M_depth_16 : decode b_M_depth 16 = .ok (.iconst 1, 1) := by decide +kernel
theorem d_M_depth_17 : decode b_M_depth 17 = .ok (.putfield 61, 3) := by decide +kernel
theorem d_M_depth_20 : decode b_M_depth 20 = .ok (.lconst 0, 1) := by decide +kernel
theorem d_M_depth_21 : decode b_M_depth 21 = .ok (.lstore 4, 2) := by decide +kernel
theorem d_M_depth_23 : decode b_M_depth 23 = .ok (.iconst 0, 1) := by decide +kernel
theorem d_M_depth_24 : decode b_M_depth 24 = .ok (.istore 6, 2) := by decide +kernel
theorem d_M_depth_26 : decode b_M_depth 26 = .ok (.iload 6, 2) := by decide +kernel
theorem d_M_depth_28 : decode b_M_depth 28 = .ok (.aload_n 0, 1) := by decide +kernel
theorem d_M_depth_29 : decode b_M_depth 29 = .ok (.getfield 64, 3) := by decide +kernel
theorem d_M_depth_32 : decode b_M_depth 32 = .ok (.if_icmp .ge 91, 3) := by decide +kernel
theorem d_M_depth_35 : decode b_M_depth 35 = .ok (.aload_n 0, 1) := by decide +kernel
theorem d_M_depth_36 : decode b_M_depth 36 = .ok (.getfield 61, 3) := by decide +kernel
theorem d_M_depth_39 : decode b_M_depth 39 = .ok (.ifCond .ne 84, 3) := by decide +kernel
theorem d_M_depth_42 : decode b_M_depth 42 = .ok (.aload_n 0, 1) := by decide +kernel
theorem d_M_depth_43 : decode b_M_depth 43 = .ok (.iload 6, 2) := by decide +kernel
theorem d_M_depth_45 : decode b_M_depth 45 = .ok (.invokevirtual 71, 3) := by decide +kernel
theorem d_M_depth_48 : decode b_M_depth 48 = .ok (.ifCond .eq 29, 3) := by decide +kernel
theorem d_M_depth_51 : decode b_M_depth 51 = .ok (.aload_n 0, 1) := by decide +kernel
theorem d_M_depth_52 : decode b_M_depth 52 = .ok (.getfield 17, 3) := by decide +kernel
theorem d_M_depth_55 : decode b_M_depth 55 = .ok (.iload 6, 2) := by decide +kernel
theorem d_M_depth_57 : decode b_M_depth 57 = .ok (.baload, 1) := by decide +kernel
theorem d_M_depth_58 : decode b_M_depth 58 = .ok (.iload_n 1, 1) := by decide +kernel
theorem d_M_depth_59 : decode b_M_depth 59 = .ok (.if_icmp .ne 18, 3) := by decide +kernel
theorem d_M_depth_62 : decode b_M_depth 62 = .ok (.aload_n 0, 1) := by decide +kernel
theorem d_M_depth_63 : decode b_M_depth 63 = .ok (.getfield 21, 3) := by decide +kernel
theorem d_M_depth_66 : decode b_M_depth 66 = .ok (.iload 6, 2) := by decide +kernel
theorem d_M_depth_68 : decode b_M_depth 68 = .ok (.iaload, 1) := by decide +kernel
theorem d_M_depth_69 : decode b_M_depth 69 = .ok (.iload_n 2, 1) := by decide +kernel
theorem d_M_depth_70 : decode b_M_depth 70 = .ok (.if_icmp .ne 7, 3) := by decide +kernel
theorem d_M_depth_73 : decode b_M_depth 73 = .ok (.iconst 1, 1) := by decide +kernel
theorem d_M_depth_74 : decode b_M_depth 74 = .ok (.goto 4, 3) := by decide +kernel
theorem d_M_depth_77 : decode b_M_depth 77 = .ok (.iconst 0, 1) := by decide +kernel
theorem d_M_depth_78 : decode b_M_depth 78 = .ok (.istore 7, 2) := by decide +kernel
theorem d_M_depth_80 : decode b_M_depth 80 = .ok (.lload 4, 2) := by decide +kernel
theorem d_M_depth_82 : decode b_M_depth 82 = .ok (.iload 7, 2) := by decide +kernel
theorem d_M_depth_84 : decode b_M_depth 84 = .ok (.ifCond .ne 7, 3) := by decide +kernel
theorem d_M_depth_87 : decode b_M_depth 87 = .ok (.lconst 0, 1) := by decide +kernel
theorem d_M_depth_88 : decode b_M_depth 88 = .ok (.goto 26, 3) := by decide +kernel
theorem d_M_depth_91 : decode b_M_depth 91 = .ok (.iload_n 3, 1) := by decide +kernel
theorem d_M_depth_92 : decode b_M_depth 92 = .ok (.ifCond .eq 14, 3) := by decide +kernel
theorem d_M_depth_95 : decode b_M_depth 95 = .ok (.aload_n 0, 1) := by decide +kernel
theorem d_M_depth_96 : decode b_M_depth 96 = .ok (.getfield 24, 3) := by decide +kernel
theorem d_M_depth_99 : decode b_M_depth 99 = .ok (.iload 6, 2) := by decide +kernel
theorem d_M_depth_101 : decode b_M_depth 101 = .ok (.iaload, 1) := by decide +kernel
theorem d_M_depth_102 : decode b_M_depth 102 = .ok (.i2l, 1) := by decide +kernel
theorem d_M_depth_103 : decode b_M_depth 103 = .ok (.goto 11, 3) := by decide +kernel
theorem d_M_depth_106 : decode b_M_depth 106 = .ok (.aload_n 0, 1) := by decide +kernel
theorem d_M_depth_107 : decode b_M_depth 107 = .ok (.getfield 27, 3) := by decide +kernel
theorem d_M_depth_110 : decode b_M_depth 110 = .ok (.iload 6, 2) := by decide +kernel
theorem d_M_depth_112 : decode b_M_depth 112 = .ok (.iaload, 1) := by decide +kernel
theorem d_M_depth_113 : decode b_M_depth 113 = .ok (.i2l, 1) := by decide +kernel
theorem d_M_depth_114 : decode b_M_depth 114 = .ok (.ladd, 1) := by decide +kernel
theorem d_M_depth_115 : decode b_M_depth 115 = .ok (.lstore 4, 2) := by decide +kernel
theorem d_M_depth_117 : decode b_M_depth 117 = .ok (.iinc 6 1, 3) := by decide +kernel
theorem d_M_depth_120 : decode b_M_depth 120 = .ok (.goto (-94), 3) := by decide +kernel
theorem d_M_depth_123 : decode b_M_depth 123 = .ok (.lload 4, 2) := by decide +kernel
theorem d_M_depth_125 : decode b_M_depth 125 = .ok (.lreturn, 1) := by decide +kernel
theorem d_M_trade_0 : decode b_M_trade 0 = .ok (.aload_n 0, 1) := by decide +kernel
theorem d_M_trade_1 : decode b_M_trade 1 = .ok (.iconst 0, 1) := by decide +kernel
theorem d_M_trade_2 : decode b_M_trade 2 = .ok (.putfield 61, 3) := by decide +kernel
theorem d_M_trade_5 : decode b_M_trade 5 = .ok (.iload_n 1, 1) := by decide +kernel
theorem d_M_trade_6 : decode b_M_trade 6 = .ok (.iconst 0, 1) := by decide +kernel
theorem d_M_trade_7 : decode b_M_trade 7 = .ok (.aload_n 0, 1) := by decide +kernel
theorem d_M_trade_8 : decode b_M_trade 8 = .ok (.getfield 86, 3) := by decide +kernel
theorem d_M_trade_11 : decode b_M_trade 11 = .ok (.iconst 1, 1) := by decide +kernel
theorem d_M_trade_12 : decode b_M_trade 12 = .ok (.isub, 1) := by decide +kernel
theorem d_M_trade_13 : decode b_M_trade 13 = .ok (.invokestatic 67, 3) := by decide +kernel
theorem d_M_trade_16 : decode b_M_trade 16 = .ok (.ifCond .ne 5, 3) := by decide +kernel
theorem d_M_trade_19 : decode b_M_trade 19 = .ok (.iconst (-1), 1) := by decide +kernel
theorem d_M_trade_20 : decode b_M_trade 20 = .ok (.ireturn, 1) := by decide +kernel
theorem d_M_trade_21 : decode b_M_trade 21 = .ok (.iload_n 2, 1) := by decide +kernel
theorem d_M_trade_22 : decode b_M_trade 22 = .ok (.tableswitch 58 0 3 #[30, 37, 44, 51], 30) := by decide +kernel
theorem d_M_trade_52 : decode b_M_trade 52 = .ok (.aload_n 0, 1) := by decide +kernel
theorem d_M_trade_53 : decode b_M_trade 53 = .ok (.getfield 42, 3) := by decide +kernel
theorem d_M_trade_56 : decode b_M_trade 56 = .ok (.iload_n 1, 1) := by decide +kernel
theorem d_M_trade_57 : decode b_M_trade 57 = .ok (.iaload, 1) := by decide +kernel
theorem d_M_trade_58 : decode b_M_trade 58 = .ok (.ireturn, 1) := by decide +kernel
theorem d_M_trade_59 : decode b_M_trade 59 = .ok (.aload_n 0, 1) := by decide +kernel
theorem d_M_trade_60 : decode b_M_trade 60 = .ok (.getfield 45, 3) := by decide +kernel
theorem d_M_trade_63 : decode b_M_trade 63 = .ok (.iload_n 1, 1) := by decide +kernel
theorem d_M_trade_64 : decode b_M_trade 64 = .ok (.iaload, 1) := by decide +kernel
theorem d_M_trade_65 : decode b_M_trade 65 = .ok (.ireturn, 1) := by decide +kernel
theorem d_M_trade_66 : decode b_M_trade 66 = .ok (.aload_n 0, 1) := by decide +kernel
theorem d_M_trade_67 : decode b_M_trade 67 = .ok (.getfield 48, 3) := by decide +kernel
theorem d_M_trade_70 : decode b_M_trade 70 = .ok (.iload_n 1, 1) := by decide +kernel
theorem d_M_trade_71 : decode b_M_trade 71 = .ok (.iaload, 1) := by decide +kernel
theorem d_M_trade_72 : decode b_M_trade 72 = .ok (.ireturn, 1) := by decide +kernel
theorem d_M_trade_73 : decode b_M_trade 73 = .ok (.aload_n 0, 1) := by decide +kernel
theorem d_M_trade_74 : decode b_M_trade 74 = .ok (.getfield 51, 3) := by decide +kernel
theorem d_M_trade_77 : decode b_M_trade 77 = .ok (.iload_n 1, 1) := by decide +kernel
theorem d_M_trade_78 : decode b_M_trade 78 = .ok (.iaload, 1) := by decide +kernel
theorem d_M_trade_79 : decode b_M_trade 79 = .ok (.ireturn, 1) := by decide +kernel
theorem d_M_trade_80 : decode b_M_trade 80 = .ok (.iconst (-1), 1) := by decide +kernel
theorem d_M_trade_81 : decode b_M_trade 81 = .ok (.ireturn, 1) := by decide +kernel
theorem d_M_told_0 : decode b_M_told 0 = .ok (.aload_n 0, 1) := by decide +kernel
theorem d_M_told_1 : decode b_M_told 1 = .ok (.iconst 0, 1) := by decide +kernel
theorem d_M_told_2 : decode b_M_told 2 = .ok (.putfield 61, 3) := by decide +kernel
theorem d_M_told_5 : decode b_M_told 5 = .ok (.iconst 0, 1) := by decide +kernel
theorem d_M_told_6 : decode b_M_told 6 = .ok (.istore_n 2, 1) := by decide +kernel
theorem d_M_told_7 : decode b_M_told 7 = .ok (.iconst 0, 1) := by decide +kernel
theorem d_M_told_8 : decode b_M_told 8 = .ok (.istore_n 3, 1) := by decide +kernel
theorem d_M_told_9 : decode b_M_told 9 = .ok (.iconst 0, 1) := by decide +kernel
theorem d_M_told_10 : decode b_M_told 10 = .ok (.istore 4, 2) := by decide +kernel
theorem d_M_told_12 : decode b_M_told 12 = .ok (.iload 4, 2) := by decide +kernel
theorem d_M_told_14 : decode b_M_told 14 = .ok (.aload_n 0, 1) := by decide +kernel
theorem d_M_told_15 : decode b_M_told 15 = .ok (.getfield 64, 3) := by decide +kernel
theorem d_M_told_18 : decode b_M_told 18 = .ok (.if_icmp .ge 63, 3) := by decide +kernel
theorem d_M_told_21 : decode b_M_told 21 = .ok (.iload_n 2, 1) := by decide +kernel
theorem d_M_told_22 : decode b_M_told 22 = .ok (.aload_n 0, 1) := by decide +kernel
theorem d_M_told_23 : decode b_M_told 23 = .ok (.iload 4, 2) := by decide +kernel
theorem d_M_told_25 : decode b_M_told 25 = .ok (.invokevirtual 71, 3) := by decide +kernel
theorem d_M_told_28 : decode b_M_told 28 = .ok (.ifCond .eq 17, 3) := by decide +kernel
theorem d_M_told_31 : decode b_M_told 31 = .ok (.aload_n 0, 1) := by decide +kernel
theorem d_M_told_32 : decode b_M_told 32 = .ok (.getfield 17, 3) := by decide +kernel
theorem d_M_told_35 : decode b_M_told 35 = .ok (.iload 4, 2) := by decide +kernel
theorem d_M_told_37 : decode b_M_told 37 = .ok (.baload, 1) := by decide +kernel
theorem d_M_told_38 : decode b_M_told 38 = .ok (.ifCond .eq 7, 3) := by decide +kernel
theorem d_M_told_41 : decode b_M_told 41 = .ok (.iconst 1, 1) := by decide +kernel
theorem d_M_told_42 : decode b_M_told 42 = .ok (.goto 4, 3) := by decide +kernel
theorem d_M_told_45 : decode b_M_told 45 = .ok (.iconst 0, 1) := by decide +kernel
theorem d_M_told_46 : decode b_M_told 46 = .ok (.iadd, 1) := by decide +kernel
theorem d_M_told_47 : decode b_M_told 47 = .ok (.istore_n 2, 1) := by decide +kernel
theorem d_M_told_48 : decode b_M_told 48 = .ok (.iload_n 3, 1) := by decide +kernel
theorem d_M_told_49 : decode b_M_told 49 = .ok (.aload_n 0, 1) := by decide +kernel
theorem d_M_told_50 : decode b_M_told 50 = .ok (.iload 4, 2) := by decide +kernel
theorem d_M_told_52 : decode b_M_told 52 = .ok (.invokevirtual 71, 3) := by decide +kernel
theorem d_M_told_55 : decode b_M_told 55 = .ok (.ifCond .eq 17, 3) := by decide +kernel
theorem d_M_told_58 : decode b_M_told 58 = .ok (.aload_n 0, 1) := by decide +kernel
theorem d_M_told_59 : decode b_M_told 59 = .ok (.getfield 17, 3) := by decide +kernel
theorem d_M_told_62 : decode b_M_told 62 = .ok (.iload 4, 2) := by decide +kernel
theorem d_M_told_64 : decode b_M_told 64 = .ok (.baload, 1) := by decide +kernel
theorem d_M_told_65 : decode b_M_told 65 = .ok (.ifCond .ne 7, 3) := by decide +kernel
theorem d_M_told_68 : decode b_M_told 68 = .ok (.iconst 1, 1) := by decide +kernel
theorem d_M_told_69 : decode b_M_told 69 = .ok (.goto 4, 3) := by decide +kernel
theorem d_M_told_72 : decode b_M_told 72 = .ok (.iconst 0, 1) := by decide +kernel
theorem d_M_told_73 : decode b_M_told 73 = .ok (.iadd, 1) := by decide +kernel
theorem d_M_told_74 : decode b_M_told 74 = .ok (.istore_n 3, 1) := by decide +kernel
theorem d_M_told_75 : decode b_M_told 75 = .ok (.iinc 4 1, 3) := by decide +kernel
theorem d_M_told_78 : decode b_M_told 78 = .ok (.goto (-66), 3) := by decide +kernel
theorem d_M_told_81 : decode b_M_told 81 = .ok (.iload_n 1, 1) := by decide +kernel
theorem d_M_told_82 : decode b_M_told 82 = .ok (.tableswitch 87 0 7 #[46, 52, 58, 64, 70, 73, 76, 82], 46) := by decide +kernel
theorem d_M_told_128 : decode b_M_told 128 = .ok (.aload_n 0, 1) := by decide +kernel
theorem d_M_told_129 : decode b_M_told 129 = .ok (.getfield 113, 3) := by decide +kernel
theorem d_M_told_132 : decode b_M_told 132 = .ok (.i2l, 1) := by decide +kernel
theorem d_M_told_133 : decode b_M_told 133 = .ok (.lreturn, 1) := by decide +kernel
theorem d_M_told_134 : decode b_M_told 134 = .ok (.aload_n 0, 1) := by decide +kernel
theorem d_M_told_135 : decode b_M_told 135 = .ok (.getfield 7, 3) := by decide +kernel
theorem d_M_told_138 : decode b_M_told 138 = .ok (.i2l, 1) := by decide +kernel
theorem d_M_told_139 : decode b_M_told 139 = .ok (.lreturn, 1) := by decide +kernel
theorem d_M_told_140 : decode b_M_told 140 = .ok (.aload_n 0, 1) := by decide +kernel
theorem d_M_told_141 : decode b_M_told 141 = .ok (.getfield 93, 3) := by decide +kernel
theorem d_M_told_144 : decode b_M_told 144 = .ok (.i2l, 1) := by decide +kernel
theorem d_M_told_145 : decode b_M_told 145 = .ok (.lreturn, 1) := by decide +kernel
theorem d_M_told_146 : decode b_M_told 146 = .ok (.aload_n 0, 1) := by decide +kernel
theorem d_M_told_147 : decode b_M_told 147 = .ok (.getfield 64, 3) := by decide +kernel
theorem d_M_told_150 : decode b_M_told 150 = .ok (.i2l, 1) := by decide +kernel
theorem d_M_told_151 : decode b_M_told 151 = .ok (.lreturn, 1) := by decide +kernel
theorem d_M_told_152 : decode b_M_told 152 = .ok (.iload_n 2, 1) := by decide +kernel
theorem d_M_told_153 : decode b_M_told 153 = .ok (.i2l, 1) := by decide +kernel
theorem d_M_told_154 : decode b_M_told 154 = .ok (.lreturn, 1) := by decide +kernel
theorem d_M_told_155 : decode b_M_told 155 = .ok (.iload_n 3, 1) := by decide +kernel
theorem d_M_told_156 : decode b_M_told 156 = .ok (.i2l, 1) := by decide +kernel
theorem d_M_told_157 : decode b_M_told 157 = .ok (.lreturn, 1) := by decide +kernel
theorem d_M_told_158 : decode b_M_told 158 = .ok (.aload_n 0, 1) := by decide +kernel
theorem d_M_told_159 : decode b_M_told 159 = .ok (.getfield 86, 3) := by decide +kernel
theorem d_M_told_162 : decode b_M_told 162 = .ok (.i2l, 1) := by decide +kernel
theorem d_M_told_163 : decode b_M_told 163 = .ok (.lreturn, 1) := by decide +kernel
theorem d_M_told_164 : decode b_M_told 164 = .ok (.aload_n 0, 1) := by decide +kernel
theorem d_M_told_165 : decode b_M_told 165 = .ok (.getfield 89, 3) := by decide +kernel
theorem d_M_told_168 : decode b_M_told 168 = .ok (.lreturn, 1) := by decide +kernel
theorem d_M_told_169 : decode b_M_told 169 = .ok (.ldc2_w 157, 3) := by decide +kernel
theorem d_M_told_172 : decode b_M_told 172 = .ok (.lreturn, 1) := by decide +kernel
theorem d_M_astray_0 : decode b_M_astray 0 = .ok (.aload_n 0, 1) := by decide +kernel
theorem d_M_astray_1 : decode b_M_astray 1 = .ok (.iconst 0, 1) := by decide +kernel
theorem d_M_astray_2 : decode b_M_astray 2 = .ok (.putfield 61, 3) := by decide +kernel
theorem d_M_astray_5 : decode b_M_astray 5 = .ok (.iconst 0, 1) := by decide +kernel
theorem d_M_astray_6 : decode b_M_astray 6 = .ok (.ireturn, 1) := by decide +kernel
