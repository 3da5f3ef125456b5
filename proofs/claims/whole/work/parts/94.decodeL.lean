/-! decode rows -/
theorem d_L_place_0 : decode b_L_place 0 = .ok (.aload 7, 2) := by decide +kernel
theorem d_L_place_2 : decode b_L_place 2 = .ok (.iconst 0, 1) := by decide +kernel
theorem d_L_place_3 : decode b_L_place 3 = .ok (.aload_n 0, 1) := by decide +kernel
theorem d_L_place_4 : decode b_L_place 4 = .ok (.iload_n 1, 1) := by decide +kernel
theorem d_L_place_5 : decode b_L_place 5 = .ok (.iload_n 2, 1) := by decide +kernel
theorem d_L_place_6 : decode b_L_place 6 = .ok (.iload_n 3, 1) := by decide +kernel
theorem d_L_place_7 : decode b_L_place 7 = .ok (.iload 4, 2) := by decide +kernel
theorem d_L_place_9 : decode b_L_place 9 = .ok (.iload 5, 2) := by decide +kernel
theorem d_L_place_11 : decode b_L_place 11 = .ok (.iload 6, 2) := by decide +kernel
theorem d_L_place_13 : decode b_L_place 13 = .ok (.invokevirtual 7, 3) := by decide +kernel
theorem d_L_place_16 : decode b_L_place 16 = .ok (.i2l, 1) := by decide +kernel
theorem d_L_place_17 : decode b_L_place 17 = .ok (.lastore, 1) := by decide +kernel
theorem d_L_place_18 : decode b_L_place 18 = .ok (.goto 11, 3) := by decide +kernel
theorem d_L_place_21 : decode b_L_place 21 = .ok (.astore 8, 2) := by decide +kernel
theorem d_L_place_23 : decode b_L_place 23 = .ok (.iconst 1, 1) := by decide +kernel
theorem d_L_place_24 : decode b_L_place 24 = .ok (.ireturn, 1) := by decide +kernel
theorem d_L_place_25 : decode b_L_place 25 = .ok (.astore 8, 2) := by decide +kernel
theorem d_L_place_27 : decode b_L_place 27 = .ok (.iconst 2, 1) := by decide +kernel
theorem d_L_place_28 : decode b_L_place 28 = .ok (.ireturn, 1) := by decide +kernel
theorem d_L_place_29 : decode b_L_place 29 = .ok (.iconst 0, 1) := by decide +kernel
theorem d_L_place_30 : decode b_L_place 30 = .ok (.ireturn, 1) := by decide +kernel
theorem d_L_cancel_0 : decode b_L_cancel 0 = .ok (.aload_n 2, 1) := by decide +kernel
theorem d_L_cancel_1 : decode b_L_cancel 1 = .ok (.iconst 0, 1) := by decide +kernel
theorem d_L_cancel_2 : decode b_L_cancel 2 = .ok (.aload_n 0, 1) := by decide +kernel
theorem d_L_cancel_3 : decode b_L_cancel 3 = .ok (.iload_n 1, 1) := by decide +kernel
theorem d_L_cancel_4 : decode b_L_cancel 4 = .ok (.invokevirtual 17, 3) := by decide +kernel
theorem d_L_cancel_7 : decode b_L_cancel 7 = .ok (.i2l, 1) := by decide +kernel
theorem d_L_cancel_8 : decode b_L_cancel 8 = .ok (.lastore, 1) := by decide +kernel
theorem d_L_cancel_9 : decode b_L_cancel 9 = .ok (.goto 9, 3) := by decide +kernel
theorem d_L_cancel_12 : decode b_L_cancel 12 = .ok (.astore_n 3, 1) := by decide +kernel
theorem d_L_cancel_13 : decode b_L_cancel 13 = .ok (.iconst 1, 1) := by decide +kernel
theorem d_L_cancel_14 : decode b_L_cancel 14 = .ok (.ireturn, 1) := by decide +kernel
theorem d_L_cancel_15 : decode b_L_cancel 15 = .ok (.astore_n 3, 1) := by decide +kernel
theorem d_L_cancel_16 : decode b_L_cancel 16 = .ok (.iconst 2, 1) := by decide +kernel
theorem d_L_cancel_17 : decode b_L_cancel 17 = .ok (.ireturn, 1) := by decide +kernel
theorem d_L_cancel_18 : decode b_L_cancel 18 = .ok (.iconst 0, 1) := by decide +kernel
theorem d_L_cancel_19 : decode b_L_cancel 19 = .ok (.ireturn, 1) := by decide +kernel
theorem d_L_cancelAll_0 : decode b_L_cancelAll 0 = .ok (.aload_n 2, 1) := by decide +kernel
theorem d_L_cancelAll_1 : decode b_L_cancelAll 1 = .ok (.iconst 0, 1) := by decide +kernel
theorem d_L_cancelAll_2 : decode b_L_cancelAll 2 = .ok (.aload_n 0, 1) := by decide +kernel
theorem d_L_cancelAll_3 : decode b_L_cancelAll 3 = .ok (.iload_n 1, 1) := by decide +kernel
theorem d_L_cancelAll_4 : decode b_L_cancelAll 4 = .ok (.invokevirtual 21, 3) := by decide +kernel
theorem d_L_cancelAll_7 : decode b_L_cancelAll 7 = .ok (.i2l, 1) := by decide +kernel
theorem d_L_cancelAll_8 : decode b_L_cancelAll 8 = .ok (.lastore, 1) := by decide +kernel
theorem d_L_cancelAll_9 : decode b_L_cancelAll 9 = .ok (.goto 6, 3) := by decide +kernel
theorem d_L_cancelAll_12 : decode b_L_cancelAll 12 = .ok (.astore_n 3, 1) := by decide +kernel
theorem d_L_cancelAll_13 : decode b_L_cancelAll 13 = .ok (.iconst 1, 1) := by decide +kernel
theorem d_L_cancelAll_14 : decode b_L_cancelAll 14 = .ok (.ireturn, 1) := by decide +kernel
theorem d_L_cancelAll_15 : decode b_L_cancelAll 15 = .ok (.iconst 0, 1) := by decide +kernel
theorem d_L_cancelAll_16 : decode b_L_cancelAll 16 = .ok (.ireturn, 1) := by decide +kernel
theorem d_L_amend_0 : decode b_L_amend 0 = .ok (.aload 4, 2) := by decide +kernel
theorem d_L_amend_2 : decode b_L_amend 2 = .ok (.iconst 0, 1) := by decide +kernel
theorem d_L_amend_3 : decode b_L_amend 3 = .ok (.aload_n 0, 1) := by decide +kernel
theorem d_L_amend_4 : decode b_L_amend 4 = .ok (.iload_n 1, 1) := by decide +kernel
theorem d_L_amend_5 : decode b_L_amend 5 = .ok (.iload_n 2, 1) := by decide +kernel
theorem d_L_amend_6 : decode b_L_amend 6 = .ok (.iload_n 3, 1) := by decide +kernel
theorem d_L_amend_7 : decode b_L_amend 7 = .ok (.invokevirtual 24, 3) := by decide +kernel
theorem d_L_amend_10 : decode b_L_amend 10 = .ok (.ifCond .eq 7, 3) := by decide +kernel
theorem d_L_amend_13 : decode b_L_amend 13 = .ok (.lconst 1, 1) := by decide +kernel
theorem d_L_amend_14 : decode b_L_amend 14 = .ok (.goto 4, 3) := by decide +kernel
theorem d_L_amend_17 : decode b_L_amend 17 = .ok (.lconst 0, 1) := by decide +kernel
theorem d_L_amend_18 : decode b_L_amend 18 = .ok (.lastore, 1) := by decide +kernel
theorem d_L_amend_19 : decode b_L_amend 19 = .ok (.goto 11, 3) := by decide +kernel
theorem d_L_amend_22 : decode b_L_amend 22 = .ok (.astore 5, 2) := by decide +kernel
theorem d_L_amend_24 : decode b_L_amend 24 = .ok (.iconst 1, 1) := by decide +kernel
theorem d_L_amend_25 : decode b_L_amend 25 = .ok (.ireturn, 1) := by decide +kernel
theorem d_L_amend_26 : decode b_L_amend 26 = .ok (.astore 5, 2) := by decide +kernel
theorem d_L_amend_28 : decode b_L_amend 28 = .ok (.iconst 2, 1) := by decide +kernel
theorem d_L_amend_29 : decode b_L_amend 29 = .ok (.ireturn, 1) := by decide +kernel
theorem d_L_amend_30 : decode b_L_amend 30 = .ok (.iconst 0, 1) := by decide +kernel
theorem d_L_amend_31 : decode b_L_amend 31 = .ok (.ireturn, 1) := by decide +kernel
theorem d_L_open_0 : decode b_L_open 0 = .ok (.aload_n 1, 1) := by decide +kernel
theorem d_L_open_1 : decode b_L_open 1 = .ok (.iconst 0, 1) := by decide +kernel
theorem d_L_open_2 : decode b_L_open 2 = .ok (.aload_n 0, 1) := by decide +kernel
theorem d_L_open_3 : decode b_L_open 3 = .ok (.invokevirtual 28, 3) := by decide +kernel
theorem d_L_open_6 : decode b_L_open 6 = .ok (.lastore, 1) := by decide +kernel
theorem d_L_open_7 : decode b_L_open 7 = .ok (.goto 6, 3) := by decide +kernel
theorem d_L_open_10 : decode b_L_open 10 = .ok (.astore_n 2, 1) := by decide +kernel
theorem d_L_open_11 : decode b_L_open 11 = .ok (.iconst 1, 1) := by decide +kernel
theorem d_L_open_12 : decode b_L_open 12 = .ok (.ireturn, 1) := by decide +kernel
theorem d_L_open_13 : decode b_L_open 13 = .ok (.iconst 0, 1) := by decide +kernel
theorem d_L_open_14 : decode b_L_open 14 = .ok (.ireturn, 1) := by decide +kernel
theorem d_L_band_0 : decode b_L_band 0 = .ok (.aload_n 3, 1) := by decide +kernel
theorem d_L_band_1 : decode b_L_band 1 = .ok (.iconst 0, 1) := by decide +kernel
theorem d_L_band_2 : decode b_L_band 2 = .ok (.aload_n 0, 1) := by decide +kernel
theorem d_L_band_3 : decode b_L_band 3 = .ok (.iload_n 1, 1) := by decide +kernel
theorem d_L_band_4 : decode b_L_band 4 = .ok (.iload_n 2, 1) := by decide +kernel
theorem d_L_band_5 : decode b_L_band 5 = .ok (.invokevirtual 32, 3) := by decide +kernel
theorem d_L_band_8 : decode b_L_band 8 = .ok (.i2l, 1) := by decide +kernel
theorem d_L_band_9 : decode b_L_band 9 = .ok (.lastore, 1) := by decide +kernel
theorem d_L_band_10 : decode b_L_band 10 = .ok (.goto 7, 3) := by decide +kernel
theorem d_L_band_13 : decode b_L_band 13 = .ok (.astore 4, 2) := by decide +kernel
theorem d_L_band_15 : decode b_L_band 15 = .ok (.iconst 1, 1) := by decide +kernel
theorem d_L_band_16 : decode b_L_band 16 = .ok (.ireturn, 1) := by decide +kernel
theorem d_L_band_17 : decode b_L_band 17 = .ok (.iconst 0, 1) := by decide +kernel
theorem d_L_band_18 : decode b_L_band 18 = .ok (.ireturn, 1) := by decide +kernel
theorem d_L_clearing_0 : decode b_L_clearing 0 = .ok (.aload_n 2, 1) := by decide +kernel
theorem d_L_clearing_1 : decode b_L_clearing 1 = .ok (.iconst 0, 1) := by decide +kernel
theorem d_L_clearing_2 : decode b_L_clearing 2 = .ok (.aload_n 0, 1) := by decide +kernel
theorem d_L_clearing_3 : decode b_L_clearing 3 = .ok (.iload_n 1, 1) := by decide +kernel
theorem d_L_clearing_4 : decode b_L_clearing 4 = .ok (.invokevirtual 36, 3) := by decide +kernel
theorem d_L_clearing_7 : decode b_L_clearing 7 = .ok (.lastore, 1) := by decide +kernel
theorem d_L_clearing_8 : decode b_L_clearing 8 = .ok (.goto 6, 3) := by decide +kernel
theorem d_L_clearing_11 : decode b_L_clearing 11 = .ok (.astore_n 3, 1) := by decide +kernel
theorem d_L_clearing_12 : decode b_L_clearing 12 = .ok (.iconst 1, 1) := by decide +kernel
theorem d_L_clearing_13 : decode b_L_clearing 13 = .ok (.ireturn, 1) := by decide +kernel
theorem d_L_clearing_14 : decode b_L_clearing 14 = .ok (.iconst 0, 1) := by decide +kernel
theorem d_L_clearing_15 : decode b_L_clearing 15 = .ok (.ireturn, 1) := by decide +kernel
theorem d_L_order_0 : decode b_L_order 0 = .ok (.aload_n 3, 1) := by decide +kernel
theorem d_L_order_1 : decode b_L_order 1 = .ok (.iconst 0, 1) := by decide +kernel
theorem d_L_order_2 : decode b_L_order 2 = .ok (.aload_n 0, 1) := by decide +kernel
theorem d_L_order_3 : decode b_L_order 3 = .ok (.iload_n 1, 1) := by decide +kernel
theorem d_L_order_4 : decode b_L_order 4 = .ok (.iload_n 2, 1) := by decide +kernel
theorem d_L_order_5 : decode b_L_order 5 = .ok (.invokevirtual 40, 3) := by decide +kernel
theorem d_L_order_8 : decode b_L_order 8 = .ok (.i2l, 1) := by decide +kernel
theorem d_L_order_9 : decode b_L_order 9 = .ok (.lastore, 1) := by decide +kernel
theorem d_L_order_10 : decode b_L_order 10 = .ok (.goto 7, 3) := by decide +kernel
theorem d_L_order_13 : decode b_L_order 13 = .ok (.astore 4, 2) := by decide +kernel
theorem d_L_order_15 : decode b_L_order 15 = .ok (.iconst 1, 1) := by decide +kernel
theorem d_L_order_16 : decode b_L_order 16 = .ok (.ireturn, 1) := by decide +kernel
theorem d_L_order_17 : decode b_L_order 17 = .ok (.iconst 0, 1) := by decide +kernel
theorem d_L_order_18 : decode b_L_order 18 = .ok (.ireturn, 1) := by decide +kernel
theorem d_L_depth_0 : decode b_L_depth 0 = .ok (.aload 4, 2) := by decide +kernel
theorem d_L_depth_2 : decode b_L_depth 2 = .ok (.iconst 0, 1) := by decide +kernel
theorem d_L_depth_3 : decode b_L_depth 3 = .ok (.aload_n 0, 1) := by decide +kernel
theorem d_L_depth_4 : decode b_L_depth 4 = .ok (.iload_n 1, 1) := by decide +kernel
theorem d_L_depth_5 : decode b_L_depth 5 = .ok (.iload_n 2, 1) := by decide +kernel
theorem d_L_depth_6 : decode b_L_depth 6 = .ok (.iload_n 3, 1) := by decide +kernel
theorem d_L_depth_7 : decode b_L_depth 7 = .ok (.invokevirtual 43, 3) := by decide +kernel
theorem d_L_depth_10 : decode b_L_depth 10 = .ok (.lastore, 1) := by decide +kernel
theorem d_L_depth_11 : decode b_L_depth 11 = .ok (.goto 7, 3) := by decide +kernel
theorem d_L_depth_14 : decode b_L_depth 14 = .ok (.astore 5, 2) := by decide +kernel
theorem d_L_depth_16 : decode b_L_depth 16 = .ok (.iconst 1, 1) := by decide +kernel
theorem d_L_depth_17 : decode b_L_depth 17 = .ok (.ireturn, 1) := by decide +kernel
theorem d_L_depth_18 : decode b_L_depth 18 = .ok (.iconst 0, 1) := by decide +kernel
theorem d_L_depth_19 : decode b_L_depth 19 = .ok (.ireturn, 1) := by decide +kernel
theorem d_L_law_0 : decode code 0 = .ok (.new 8, 3) := by decide +kernel
theorem d_L_law_3 : decode code 3 = .ok (.dup, 1) := by decide +kernel
theorem d_L_law_4 : decode code 4 = .ok (.invokespecial 47, 3) := by decide +kernel
theorem d_L_law_7 : decode code 7 = .ok (.astore_n 1, 1) := by decide +kernel
theorem d_L_law_8 : decode code 8 = .ok (.new 48, 3) := by decide +kernel
theorem d_L_law_11 : decode code 11 = .ok (.dup, 1) := by decide +kernel
theorem d_L_law_12 : decode code 12 = .ok (.invokespecial 50, 3) := by decide +kernel
theorem d_L_law_15 : decode code 15 = .ok (.astore_n 2, 1) := by decide +kernel
theorem d_L_law_16 : decode code 16 = .ok (.iconst 1, 1) := by decide +kernel
theorem d_L_law_17 : decode code 17 = .ok (.newarray .long, 2) := by decide +kernel
theorem d_L_law_19 : decode code 19 = .ok (.astore_n 3, 1) := by decide +kernel
theorem d_L_law_20 : decode code 20 = .ok (.iconst 0, 1) := by decide +kernel
theorem d_L_law_21 : decode code 21 = .ok (.istore 4, 2) := by decide +kernel
theorem d_L_law_23 : decode code 23 = .ok (.iload 4, 2) := by decide +kernel
theorem d_L_law_25 : decode code 25 = .ok (.aload_n 0, 1) := by decide +kernel
theorem d_L_law_26 : decode code 26 = .ok (.arraylength, 1) := by decide +kernel
theorem d_L_law_27 : decode code 27 = .ok (.bipush 7, 2) := by decide +kernel
theorem d_L_law_29 : decode code 29 = .ok (.isub, 1) := by decide +kernel
theorem d_L_law_30 : decode code 30 = .ok (.if_icmp .gt 908, 3) := by decide +kernel
theorem d_L_law_33 : decode code 33 = .ok (.aload_n 0, 1) := by decide +kernel
theorem d_L_law_34 : decode code 34 = .ok (.iload 4, 2) := by decide +kernel
theorem d_L_law_36 : decode code 36 = .ok (.iaload, 1) := by decide +kernel
theorem d_L_law_37 : decode code 37 = .ok (.bipush 15, 2) := by decide +kernel
theorem d_L_law_39 : decode code 39 = .ok (.iand, 1) := by decide +kernel
theorem d_L_law_40 : decode code 40 = .ok (.tableswitch 892 0 13 #[72, 206, 262, 318, 405, 448, 461, 529, 584, 652, 705, 816, 853, 879], 72) := by decide +kernel
theorem d_L_law_112 : decode code 112 = .ok (.aload_n 1, 1) := by decide +kernel
theorem d_L_law_113 : decode code 113 = .ok (.aload_n 0, 1) := by decide +kernel
theorem d_L_law_114 : decode code 114 = .ok (.iload 4, 2) := by decide +kernel
theorem d_L_law_116 : decode code 116 = .ok (.iconst 1, 1) := by decide +kernel
theorem d_L_law_117 : decode code 117 = .ok (.iadd, 1) := by decide +kernel
theorem d_L_law_118 : decode code 118 = .ok (.iaload, 1) := by decide +kernel
theorem d_L_law_119 : decode code 119 = .ok (.aload_n 0, 1) := by decide +kernel
theorem d_L_law_120 : decode code 120 = .ok (.iload 4, 2) := by decide +kernel
theorem d_L_law_122 : decode code 122 = .ok (.iconst 2, 1) := by decide +kernel
theorem d_L_law_123 : decode code 123 = .ok (.iadd, 1) := by decide +kernel
theorem d_L_law_124 : decode code 124 = .ok (.iaload, 1) := by decide +kernel
theorem d_L_law_125 : decode code 125 = .ok (.ifCond .eq 7, 3) := by decide +kernel
theorem d_L_law_128 : decode code 128 = .ok (.iconst 1, 1) := by decide +kernel
theorem d_L_law_129 : decode code 129 = .ok (.goto 4, 3) := by decide +kernel
theorem d_L_law_132 : decode code 132 = .ok (.iconst 0, 1) := by decide +kernel
theorem d_L_law_133 : decode code 133 = .ok (.aload_n 0, 1) := by decide +kernel
theorem d_L_law_134 : decode code 134 = .ok (.iload 4, 2) := by decide +kernel
theorem d_L_law_136 : decode code 136 = .ok (.iconst 3, 1) := by decide +kernel
theorem d_L_law_137 : decode code 137 = .ok (.iadd, 1) := by decide +kernel
theorem d_L_law_138 : decode code 138 = .ok (.iaload, 1) := by decide +kernel
theorem d_L_law_139 : decode code 139 = .ok (.aload_n 0, 1) := by decide +kernel
theorem d_L_law_140 : decode code 140 = .ok (.iload 4, 2) := by decide +kernel
theorem d_L_law_142 : decode code 142 = .ok (.iconst 4, 1) := by decide +kernel
theorem d_L_law_143 : decode code 143 = .ok (.iadd, 1) := by decide +kernel
theorem d_L_law_144 : decode code 144 = .ok (.iaload, 1) := by decide +kernel
theorem d_L_law_145 : decode code 145 = .ok (.aload_n 0, 1) := by decide +kernel
theorem d_L_law_146 : decode code 146 = .ok (.iload 4, 2) := by decide +kernel
theorem d_L_law_148 : decode code 148 = .ok (.iconst 5, 1) := by decide +kernel
theorem d_L_law_149 : decode code 149 = .ok (.iadd, 1) := by decide +kernel
theorem d_L_law_150 : decode code 150 = .ok (.iaload, 1) := by decide +kernel
theorem d_L_law_151 : decode code 151 = .ok (.aload_n 0, 1) := by decide +kernel
theorem d_L_law_152 : decode code 152 = .ok (.iload 4, 2) := by decide +kernel
theorem d_L_law_154 : decode code 154 = .ok (.bipush 6, 2) := by decide +kernel
theorem d_L_law_156 : decode code 156 = .ok (.iadd, 1) := by decide +kernel
theorem d_L_law_157 : decode code 157 = .ok (.iaload, 1) := by decide +kernel
theorem d_L_law_158 : decode code 158 = .ok (.aload_n 3, 1) := by decide +kernel
theorem d_L_law_159 : decode code 159 = .ok (.invokestatic 51, 3) := by decide +kernel
theorem d_L_law_162 : decode code 162 = .ok (.istore 5, 2) := by decide +kernel
theorem d_L_law_164 : decode code 164 = .ok (.aload_n 2, 1) := by decide +kernel
theorem d_L_law_165 : decode code 165 = .ok (.aload_n 0, 1) := by decide +kernel
theorem d_L_law_166 : decode code 166 = .ok (.iload 4, 2) := by decide +kernel
theorem d_L_law_168 : decode code 168 = .ok (.iconst 1, 1) := by decide +kernel
theorem d_L_law_169 : decode code 169 = .ok (.iadd, 1) := by decide +kernel
theorem d_L_law_170 : decode code 170 = .ok (.iaload, 1) := by decide +kernel
theorem d_L_law_171 : decode code 171 = .ok (.aload_n 0, 1) := by decide +kernel
theorem d_L_law_172 : decode code 172 = .ok (.iload 4, 2) := by decide +kernel
theorem d_L_law_174 : decode code 174 = .ok (.iconst 2, 1) := by decide +kernel
theorem d_L_law_175 : decode code 175 = .ok (.iadd, 1) := by decide +kernel
theorem d_L_law_176 : decode code 176 = .ok (.iaload, 1) := by decide +kernel
theorem d_L_law_177 : decode code 177 = .ok (.ifCond .eq 7, 3) := by decide +kernel
theorem d_L_law_180 : decode code 180 = .ok (.iconst 1, 1) := by decide +kernel
theorem d_L_law_181 : decode code 181 = .ok (.goto 4, 3) := by decide +kernel
theorem d_L_law_184 : decode code 184 = .ok (.iconst 0, 1) := by decide +kernel
theorem d_L_law_185 : decode code 185 = .ok (.aload_n 0, 1) := by decide +kernel
theorem d_L_law_186 : decode code 186 = .ok (.iload 4, 2) := by decide +kernel
theorem d_L_law_188 : decode code 188 = .ok (.iconst 3, 1) := by decide +kernel
theorem d_L_law_189 : decode code 189 = .ok (.iadd, 1) := by decide +kernel
theorem d_L_law_190 : decode code 190 = .ok (.iaload, 1) := by decide +kernel
theorem d_L_law_191 : decode code 191 = .ok (.aload_n 0, 1) := by decide +kernel
theorem d_L_law_192 : decode code 192 = .ok (.iload 4, 2) := by decide +kernel
theorem d_L_law_194 : decode code 194 = .ok (.iconst 4, 1) := by decide +kernel
theorem d_L_law_195 : decode code 195 = .ok (.iadd, 1) := by decide +kernel
theorem d_L_law_196 : decode code 196 = .ok (.iaload, 1) := by decide +kernel
theorem d_L_law_197 : decode code 197 = .ok (.aload_n 0, 1) := by decide +kernel
theorem d_L_law_198 : decode code 198 = .ok (.iload 4, 2) := by decide +kernel
theorem d_L_law_200 : decode code 200 = .ok (.iconst 5, 1) := by decide +kernel
theorem d_L_law_201 : decode code 201 = .ok (.iadd, 1) := by decide +kernel
theorem d_L_law_202 : decode code 202 = .ok (.iaload, 1) := by decide +kernel
theorem d_L_law_203 : decode code 203 = .ok (.aload_n 0, 1) := by decide +kernel
theorem d_L_law_204 : decode code 204 = .ok (.iload 4, 2) := by decide +kernel
theorem d_L_law_206 : decode code 206 = .ok (.bipush 6, 2) := by decide +kernel
theorem d_L_law_208 : decode code 208 = .ok (.iadd, 1) := by decide +kernel
theorem d_L_law_209 : decode code 209 = .ok (.iaload, 1) := by decide +kernel
theorem d_L_law_210 : decode code 210 = .ok (.invokevirtual 56, 3) := by decide +kernel
theorem d_L_law_213 : decode code 213 = .ok (.istore 6, 2) := by decide +kernel
theorem d_L_law_215 : decode code 215 = .ok (.aload_n 2, 1) := by decide +kernel
theorem d_L_law_216 : decode code 216 = .ok (.invokevirtual 57, 3) := by decide +kernel
theorem d_L_law_219 : decode code 219 = .ok (.iload 5, 2) := by decide +kernel
theorem d_L_law_221 : decode code 221 = .ok (.if_icmp .eq 5, 3) := by decide +kernel
theorem d_L_law_224 : decode code 224 = .ok (.iconst 0, 1) := by decide +kernel
theorem d_L_law_225 : decode code 225 = .ok (.ireturn, 1) := by decide +kernel
theorem d_L_law_226 : decode code 226 = .ok (.iload 5, 2) := by decide +kernel
theorem d_L_law_228 : decode code 228 = .ok (.ifCond .ne 15, 3) := by decide +kernel
theorem d_L_law_231 : decode code 231 = .ok (.aload_n 3, 1) := by decide +kernel
theorem d_L_law_232 : decode code 232 = .ok (.iconst 0, 1) := by decide +kernel
theorem d_L_law_233 : decode code 233 = .ok (.laload, 1) := by decide +kernel
theorem d_L_law_234 : decode code 234 = .ok (.iload 6, 2) := by decide +kernel
theorem d_L_law_236 : decode code 236 = .ok (.i2l, 1) := by decide +kernel
theorem d_L_law_237 : decode code 237 = .ok (.lcmp, 1) := by decide +kernel
theorem d_L_law_238 : decode code 238 = .ok (.ifCond .eq 5, 3) := by decide +kernel
theorem d_L_law_241 : decode code 241 = .ok (.iconst 0, 1) := by decide +kernel
theorem d_L_law_242 : decode code 242 = .ok (.ireturn, 1) := by decide +kernel
theorem d_L_law_243 : decode code 243 = .ok (.goto 689, 3) := by decide +kernel
theorem d_L_law_246 : decode code 246 = .ok (.aload_n 1, 1) := by decide +kernel
theorem d_L_law_247 : decode code 247 = .ok (.aload_n 0, 1) := by decide +kernel
theorem d_L_law_248 : decode code 248 = .ok (.iload 4, 2) := by decide +kernel
theorem d_L_law_250 : decode code 250 = .ok (.iconst 1, 1) := by decide +kernel
theorem d_L_law_251 : decode code 251 = .ok (.iadd, 1) := by decide +kernel
theorem d_L_law_252 : decode code 252 = .ok (.iaload, 1) := by decide +kernel
theorem d_L_law_253 : decode code 253 = .ok (.aload_n 3, 1) := by decide +kernel
theorem d_L_law_254 : decode code 254 = .ok (.invokestatic 61, 3) := by decide +kernel
theorem d_L_law_257 : decode code 257 = .ok (.istore 5, 2) := by decide +kernel
theorem d_L_law_259 : decode code 259 = .ok (.aload_n 2, 1) := by decide +kernel
theorem d_L_law_260 : decode code 260 = .ok (.aload_n 0, 1) := by decide +kernel
theorem d_L_law_261 : decode code 261 = .ok (.iload 4, 2) := by decide +kernel
theorem d_L_law_263 : decode code 263 = .ok (.iconst 1, 1) := by decide +kernel
theorem d_L_law_264 : decode code 264 = .ok (.iadd, 1) := by decide +kernel
theorem d_L_law_265 : decode code 265 = .ok (.iaload, 1) := by decide +kernel
theorem d_L_law_266 : decode code 266 = .ok (.invokevirtual 64, 3) := by decide +kernel
theorem d_L_law_269 : decode code 269 = .ok (.istore 6, 2) := by decide +kernel
theorem d_L_law_271 : decode code 271 = .ok (.aload_n 2, 1) := by decide +kernel
theorem d_L_law_272 : decode code 272 = .ok (.invokevirtual 57, 3) := by decide +kernel
theorem d_L_law_275 : decode code 275 = .ok (.iload 5, 2) := by decide +kernel
theorem d_L_law_277 : decode code 277 = .ok (.if_icmp .eq 5, 3) := by decide +kernel
theorem d_L_law_280 : decode code 280 = .ok (.iconst 0, 1) := by decide +kernel
theorem d_L_law_281 : decode code 281 = .ok (.ireturn, 1) := by decide +kernel
theorem d_L_law_282 : decode code 282 = .ok (.iload 5, 2) := by decide +kernel
theorem d_L_law_284 : decode code 284 = .ok (.ifCond .ne 15, 3) := by decide +kernel
theorem d_L_law_287 : decode code 287 = .ok (.aload_n 3, 1) := by decide +kernel
theorem d_L_law_288 : decode code 288 = .ok (.iconst 0, 1) := by decide +kernel
theorem d_L_law_289 : decode code 289 = .ok (.laload, 1) := by decide +kernel
theorem d_L_law_290 : decode code 290 = .ok (.iload 6, 2) := by decide +kernel
theorem d_L_law_292 : decode code 292 = .ok (.i2l, 1) := by decide +kernel
theorem d_L_law_293 : decode code 293 = .ok (.lcmp, 1) := by decide +kernel
theorem d_L_law_294 : decode code 294 = .ok (.ifCond .eq 5, 3) := by decide +kernel
theorem d_L_law_297 : decode code 297 = .ok (.iconst 0, 1) := by decide +kernel
theorem d_L_law_298 : decode code 298 = .ok (.ireturn, 1) := by decide +kernel
theorem d_L_law_299 : decode code 299 = .ok (.goto 633, 3) := by decide +kernel
theorem d_L_law_302 : decode code 302 = .ok (.aload_n 1, 1) := by decide +kernel
theorem d_L_law_303 : decode code 303 = .ok (.aload_n 0, 1) := by decide +kernel
theorem d_L_law_304 : decode code 304 = .ok (.iload 4, 2) := by decide +kernel
theorem d_L_law_306 : decode code 306 = .ok (.iconst 1, 1) := by decide +kernel
theorem d_L_law_307 : decode code 307 = .ok (.iadd, 1) := by decide +kernel
theorem d_L_law_308 : decode code 308 = .ok (.iaload, 1) := by decide +kernel
theorem d_L_law_309 : decode code 309 = .ok (.aload_n 3, 1) := by decide +kernel
theorem d_L_law_310 : decode code 310 = .ok (.invokestatic 65, 3) := by decide +kernel
theorem d_L_law_313 : decode code 313 = .ok (.istore 5, 2) := by decide +kernel
theorem d_L_law_315 : decode code 315 = .ok (.aload_n 2, 1) := by decide +kernel
theorem d_L_law_316 : decode code 316 = .ok (.aload_n 0, 1) := by decide +kernel
theorem d_L_law_317 : decode code 317 = .ok (.iload 4, 2) := by decide +kernel
theorem d_L_law_319 : decode code 319 = .ok (.iconst 1, 1) := by decide +kernel
theorem d_L_law_320 : decode code 320 = .ok (.iadd, 1) := by decide +kernel
theorem d_L_law_321 : decode code 321 = .ok (.iaload, 1) := by decide +kernel
theorem d_L_law_322 : decode code 322 = .ok (.invokevirtual 67, 3) := by decide +kernel
theorem d_L_law_325 : decode code 325 = .ok (.istore 6, 2) := by decide +kernel
theorem d_L_law_327 : decode code 327 = .ok (.aload_n 2, 1) := by decide +kernel
theorem d_L_law_328 : decode code 328 = .ok (.invokevirtual 57, 3) := by decide +kernel
theorem d_L_law_331 : decode code 331 = .ok (.iload 5, 2) := by decide +kernel
theorem d_L_law_333 : decode code 333 = .ok (.if_icmp .eq 5, 3) := by decide +kernel
theorem d_L_law_336 : decode code 336 = .ok (.iconst 0, 1) := by decide +kernel
theorem d_L_law_337 : decode code 337 = .ok (.ireturn, 1) := by decide +kernel
theorem d_L_law_338 : decode code 338 = .ok (.iload 5, 2) := by decide +kernel
theorem d_L_law_340 : decode code 340 = .ok (.ifCond .ne 15, 3) := by decide +kernel
theorem d_L_law_343 : decode code 343 = .ok (.aload_n 3, 1) := by decide +kernel
theorem d_L_law_344 : decode code 344 = .ok (.iconst 0, 1) := by decide +kernel
theorem d_L_law_345 : decode code 345 = .ok (.laload, 1) := by decide +kernel
theorem d_L_law_346 : decode code 346 = .ok (.iload 6, 2) := by decide +kernel
theorem d_L_law_348 : decode code 348 = .ok (.i2l, 1) := by decide +kernel
theorem d_L_law_349 : decode code 349 = .ok (.lcmp, 1) := by decide +kernel
theorem d_L_law_350 : decode code 350 = .ok (.ifCond .eq 5, 3) := by decide +kernel
theorem d_L_law_353 : decode code 353 = .ok (.iconst 0, 1) := by decide +kernel
theorem d_L_law_354 : decode code 354 = .ok (.ireturn, 1) := by decide +kernel
theorem d_L_law_355 : decode code 355 = .ok (.goto 577, 3) := by decide +kernel
theorem d_L_law_358 : decode code 358 = .ok (.aload_n 1, 1) := by decide +kernel
theorem d_L_law_359 : decode code 359 = .ok (.aload_n 0, 1) := by decide +kernel
theorem d_L_law_360 : decode code 360 = .ok (.iload 4, 2) := by decide +kernel
theorem d_L_law_362 : decode code 362 = .ok (.iconst 1, 1) := by decide +kernel
theorem d_L_law_363 : decode code 363 = .ok (.iadd, 1) := by decide +kernel
theorem d_L_law_364 : decode code 364 = .ok (.iaload, 1) := by decide +kernel
theorem d_L_law_365 : decode code 365 = .ok (.aload_n 0, 1) := by decide +kernel
theorem d_L_law_366 : decode code 366 = .ok (.iload 4, 2) := by decide +kernel
theorem d_L_law_368 : decode code 368 = .ok (.iconst 2, 1) := by decide +kernel
theorem d_L_law_369 : decode code 369 = .ok (.iadd, 1) := by decide +kernel
theorem d_L_law_370 : decode code 370 = .ok (.iaload, 1) := by decide +kernel
theorem d_L_law_371 : decode code 371 = .ok (.aload_n 0, 1) := by decide +kernel
theorem d_L_law_372 : decode code 372 = .ok (.iload 4, 2) := by decide +kernel
theorem d_L_law_374 : decode code 374 = .ok (.iconst 3, 1) := by decide +kernel
theorem d_L_law_375 : decode code 375 = .ok (.iadd, 1) := by decide +kernel
theorem d_L_law_376 : decode code 376 = .ok (.iaload, 1) := by decide +kernel
theorem d_L_law_377 : decode code 377 = .ok (.aload_n 3, 1) := by decide +kernel
theorem d_L_law_378 : decode code 378 = .ok (.invokestatic 68, 3) := by decide +kernel
theorem d_L_law_381 : decode code 381 = .ok (.istore 5, 2) := by decide +kernel
theorem d_L_law_383 : decode code 383 = .ok (.aload_n 2, 1) := by decide +kernel
theorem d_L_law_384 : decode code 384 = .ok (.aload_n 0, 1) := by decide +kernel
theorem d_L_law_385 : decode code 385 = .ok (.iload 4, 2) := by decide +kernel
theorem d_L_law_387 : decode code 387 = .ok (.iconst 1, 1) := by decide +kernel
theorem d_L_law_388 : decode code 388 = .ok (.iadd, 1) := by decide +kernel
theorem d_L_law_389 : decode code 389 = .ok (.iaload, 1) := by decide +kernel
theorem d_L_law_390 : decode code 390 = .ok (.aload_n 0, 1) := by decide +kernel
theorem d_L_law_391 : decode code 391 = .ok (.iload 4, 2) := by decide +kernel
theorem d_L_law_393 : decode code 393 = .ok (.iconst 2, 1) := by decide +kernel
theorem d_L_law_394 : decode code 394 = .ok (.iadd, 1) := by decide +kernel
theorem d_L_law_395 : decode code 395 = .ok (.iaload, 1) := by decide +kernel
theorem d_L_law_396 : decode code 396 = .ok (.aload_n 0, 1) := by decide +kernel
theorem d_L_law_397 : decode code 397 = .ok (.iload 4, 2) := by decide +kernel
theorem d_L_law_399 : decode code 399 = .ok (.iconst 3, 1) := by decide +kernel
theorem d_L_law_400 : decode code 400 = .ok (.iadd, 1) := by decide +kernel
theorem d_L_law_401 : decode code 401 = .ok (.iaload, 1) := by decide +kernel
theorem d_L_law_402 : decode code 402 = .ok (.invokevirtual 71, 3) := by decide +kernel
theorem d_L_law_405 : decode code 405 = .ok (.istore 6, 2) := by decide +kernel
theorem d_L_law_407 : decode code 407 = .ok (.aload_n 2, 1) := by decide +kernel
theorem d_L_law_408 : decode code 408 = .ok (.invokevirtual 57, 3) := by decide +kernel
theorem d_L_law_411 : decode code 411 = .ok (.iload 5, 2) := by decide +kernel
theorem d_L_law_413 : decode code 413 = .ok (.if_icmp .eq 5, 3) := by decide +kernel
theorem d_L_law_416 : decode code 416 = .ok (.iconst 0, 1) := by decide +kernel
theorem d_L_law_417 : decode code 417 = .ok (.ireturn, 1) := by decide +kernel
theorem d_L_law_418 : decode code 418 = .ok (.iload 5, 2) := by decide +kernel
theorem d_L_law_420 : decode code 420 = .ok (.ifCond .ne 22, 3) := by decide +kernel
theorem d_L_law_423 : decode code 423 = .ok (.aload_n 3, 1) := by decide +kernel
theorem d_L_law_424 : decode code 424 = .ok (.iconst 0, 1) := by decide +kernel
theorem d_L_law_425 : decode code 425 = .ok (.laload, 1) := by decide +kernel
theorem d_L_law_426 : decode code 426 = .ok (.iload 6, 2) := by decide +kernel
theorem d_L_law_428 : decode code 428 = .ok (.ifCond .eq 7, 3) := by decide +kernel
theorem d_L_law_431 : decode code 431 = .ok (.lconst 1, 1) := by decide +kernel
theorem d_L_law_432 : decode code 432 = .ok (.goto 4, 3) := by decide +kernel
theorem d_L_law_435 : decode code 435 = .ok (.lconst 0, 1) := by decide +kernel
theorem d_L_law_436 : decode code 436 = .ok (.lcmp, 1) := by decide +kernel
theorem d_L_law_437 : decode code 437 = .ok (.ifCond .eq 5, 3) := by decide +kernel
theorem d_L_law_440 : decode code 440 = .ok (.iconst 0, 1) := by decide +kernel
theorem d_L_law_441 : decode code 441 = .ok (.ireturn, 1) := by decide +kernel
theorem d_L_law_442 : decode code 442 = .ok (.goto 490, 3) := by decide +kernel
theorem d_L_law_445 : decode code 445 = .ok (.aload_n 1, 1) := by decide +kernel
theorem d_L_law_446 : decode code 446 = .ok (.aload_n 3, 1) := by decide +kernel
theorem d_L_law_447 : decode code 447 = .ok (.invokestatic 72, 3) := by decide +kernel
theorem d_L_law_450 : decode code 450 = .ok (.istore 5, 2) := by decide +kernel
theorem d_L_law_452 : decode code 452 = .ok (.aload_n 2, 1) := by decide +kernel
theorem d_L_law_453 : decode code 453 = .ok (.invokevirtual 75, 3) := by decide +kernel
theorem d_L_law_456 : decode code 456 = .ok (.lstore 6, 2) := by decide +kernel
theorem d_L_law_458 : decode code 458 = .ok (.aload_n 2, 1) := by decide +kernel
theorem d_L_law_459 : decode code 459 = .ok (.invokevirtual 57, 3) := by decide +kernel
theorem d_L_law_462 : decode code 462 = .ok (.iload 5, 2) := by decide +kernel
theorem d_L_law_464 : decode code 464 = .ok (.if_icmp .eq 5, 3) := by decide +kernel
theorem d_L_law_467 : decode code 467 = .ok (.iconst 0, 1) := by decide +kernel
theorem d_L_law_468 : decode code 468 = .ok (.ireturn, 1) := by decide +kernel
theorem d_L_law_469 : decode code 469 = .ok (.iload 5, 2) := by decide +kernel
theorem d_L_law_471 : decode code 471 = .ok (.ifCond .ne 14, 3) := by decide +kernel
theorem d_L_law_474 : decode code 474 = .ok (.aload_n 3, 1) := by decide +kernel
theorem d_L_law_475 : decode code 475 = .ok (.iconst 0, 1) := by decide +kernel
theorem d_L_law_476 : decode code 476 = .ok (.laload, 1) := by decide +kernel
theorem d_L_law_477 : decode code 477 = .ok (.lload 6, 2) := by decide +kernel
theorem d_L_law_479 : decode code 479 = .ok (.lcmp, 1) := by decide +kernel
theorem d_L_law_480 : decode code 480 = .ok (.ifCond .eq 5, 3) := by decide +kernel
theorem d_L_law_483 : decode code 483 = .ok (.iconst 0, 1) := by decide +kernel
theorem d_L_law_484 : decode code 484 = .ok (.ireturn, 1) := by decide +kernel
theorem d_L_law_485 : decode code 485 = .ok (.goto 447, 3) := by decide +kernel
theorem d_L_law_488 : decode code 488 = .ok (.aload_n 1, 1) := by decide +kernel
theorem d_L_law_489 : decode code 489 = .ok (.invokevirtual 76, 3) := by decide +kernel
theorem d_L_law_492 : decode code 492 = .ok (.aload_n 2, 1) := by decide +kernel
theorem d_L_law_493 : decode code 493 = .ok (.invokevirtual 79, 3) := by decide +kernel
theorem d_L_law_496 : decode code 496 = .ok (.if_icmp .eq 436, 3) := by decide +kernel
theorem d_L_law_499 : decode code 499 = .ok (.iconst 0, 1) := by decide +kernel
theorem d_L_law_500 : decode code 500 = .ok (.ireturn, 1) := by decide +kernel
theorem d_L_law_501 : decode code 501 = .ok (.aload_n 1, 1) := by decide +kernel
theorem d_L_law_502 : decode code 502 = .ok (.aload_n 0, 1) := by decide +kernel
theorem d_L_law_503 : decode code 503 = .ok (.iload 4, 2) := by decide +kernel
theorem d_L_law_505 : decode code 505 = .ok (.iconst 1, 1) := by decide +kernel
theorem d_L_law_506 : decode code 506 = .ok (.iadd, 1) := by decide +kernel
theorem d_L_law_507 : decode code 507 = .ok (.iaload, 1) := by decide +kernel
theorem d_L_law_508 : decode code 508 = .ok (.aload_n 0, 1) := by decide +kernel
theorem d_L_law_509 : decode code 509 = .ok (.iload 4, 2) := by decide +kernel
theorem d_L_law_511 : decode code 511 = .ok (.iconst 2, 1) := by decide +kernel
theorem d_L_law_512 : decode code 512 = .ok (.iadd, 1) := by decide +kernel
theorem d_L_law_513 : decode code 513 = .ok (.iaload, 1) := by decide +kernel
theorem d_L_law_514 : decode code 514 = .ok (.aload_n 3, 1) := by decide +kernel
theorem d_L_law_515 : decode code 515 = .ok (.invokestatic 80, 3) := by decide +kernel
theorem d_L_law_518 : decode code 518 = .ok (.istore 5, 2) := by decide +kernel
theorem d_L_law_520 : decode code 520 = .ok (.aload_n 2, 1) := by decide +kernel
theorem d_L_law_521 : decode code 521 = .ok (.aload_n 0, 1) := by decide +kernel
theorem d_L_law_522 : decode code 522 = .ok (.iload 4, 2) := by decide +kernel
theorem d_L_law_524 : decode code 524 = .ok (.iconst 1, 1) := by decide +kernel
theorem d_L_law_525 : decode code 525 = .ok (.iadd, 1) := by decide +kernel
theorem d_L_law_526 : decode code 526 = .ok (.iaload, 1) := by decide +kernel
theorem d_L_law_527 : decode code 527 = .ok (.aload_n 0, 1) := by decide +kernel
theorem d_L_law_528 : decode code 528 = .ok (.iload 4, 2) := by decide +kernel
theorem d_L_law_530 : decode code 530 = .ok (.iconst 2, 1) := by decide +kernel
theorem d_L_law_531 : decode code 531 = .ok (.iadd, 1) := by decide +kernel
theorem d_L_law_532 : decode code 532 = .ok (.iaload, 1) := by decide +kernel
theorem d_L_law_533 : decode code 533 = .ok (.invokevirtual 83, 3) := by decide +kernel
theorem d_L_law_536 : decode code 536 = .ok (.istore 6, 2) := by decide +kernel
theorem d_L_law_538 : decode code 538 = .ok (.aload_n 2, 1) := by decide +kernel
theorem d_L_law_539 : decode code 539 = .ok (.invokevirtual 57, 3) := by decide +kernel
theorem d_L_law_542 : decode code 542 = .ok (.iload 5, 2) := by decide +kernel
theorem d_L_law_544 : decode code 544 = .ok (.if_icmp .eq 5, 3) := by decide +kernel
theorem d_L_law_547 : decode code 547 = .ok (.iconst 0, 1) := by decide +kernel
theorem d_L_law_548 : decode code 548 = .ok (.ireturn, 1) := by decide +kernel
theorem d_L_law_549 : decode code 549 = .ok (.iload 5, 2) := by decide +kernel
theorem d_L_law_551 : decode code 551 = .ok (.ifCond .ne 15, 3) := by decide +kernel
theorem d_L_law_554 : decode code 554 = .ok (.aload_n 3, 1) := by decide +kernel
theorem d_L_law_555 : decode code 555 = .ok (.iconst 0, 1) := by decide +kernel
theorem d_L_law_556 : decode code 556 = .ok (.laload, 1) := by decide +kernel
theorem d_L_law_557 : decode code 557 = .ok (.iload 6, 2) := by decide +kernel
theorem d_L_law_559 : decode code 559 = .ok (.i2l, 1) := by decide +kernel
theorem d_L_law_560 : decode code 560 = .ok (.lcmp, 1) := by decide +kernel
theorem d_L_law_561 : decode code 561 = .ok (.ifCond .eq 5, 3) := by decide +kernel
theorem d_L_law_564 : decode code 564 = .ok (.iconst 0, 1) := by decide +kernel
theorem d_L_law_565 : decode code 565 = .ok (.ireturn, 1) := by decide +kernel
theorem d_L_law_566 : decode code 566 = .ok (.goto 366, 3) := by decide +kernel
theorem d_L_law_569 : decode code 569 = .ok (.aload_n 1, 1) := by decide +kernel
theorem d_L_law_570 : decode code 570 = .ok (.aload_n 0, 1) := by decide +kernel
theorem d_L_law_571 : decode code 571 = .ok (.iload 4, 2) := by decide +kernel
theorem d_L_law_573 : decode code 573 = .ok (.iconst 1, 1) := by decide +kernel
theorem d_L_law_574 : decode code 574 = .ok (.iadd, 1) := by decide +kernel
theorem d_L_law_575 : decode code 575 = .ok (.iaload, 1) := by decide +kernel
theorem d_L_law_576 : decode code 576 = .ok (.aload_n 3, 1) := by decide +kernel
theorem d_L_law_577 : decode code 577 = .ok (.invokestatic 84, 3) := by decide +kernel
theorem d_L_law_580 : decode code 580 = .ok (.istore 5, 2) := by decide +kernel
theorem d_L_law_582 : decode code 582 = .ok (.aload_n 2, 1) := by decide +kernel
theorem d_L_law_583 : decode code 583 = .ok (.aload_n 0, 1) := by decide +kernel
theorem d_L_law_584 : decode code 584 = .ok (.iload 4, 2) := by decide +kernel
theorem d_L_law_586 : decode code 586 = .ok (.iconst 1, 1) := by decide +kernel
theorem d_L_law_587 : decode code 587 = .ok (.iadd, 1) := by decide +kernel
theorem d_L_law_588 : decode code 588 = .ok (.iaload, 1) := by decide +kernel
theorem d_L_law_589 : decode code 589 = .ok (.invokevirtual 86, 3) := by decide +kernel
theorem d_L_law_592 : decode code 592 = .ok (.lstore 6, 2) := by decide +kernel
theorem d_L_law_594 : decode code 594 = .ok (.aload_n 2, 1) := by decide +kernel
theorem d_L_law_595 : decode code 595 = .ok (.invokevirtual 57, 3) := by decide +kernel
theorem d_L_law_598 : decode code 598 = .ok (.iload 5, 2) := by decide +kernel
theorem d_L_law_600 : decode code 600 = .ok (.if_icmp .eq 5, 3) := by decide +kernel
theorem d_L_law_603 : decode code 603 = .ok (.iconst 0, 1) := by decide +kernel
theorem d_L_law_604 : decode code 604 = .ok (.ireturn, 1) := by decide +kernel
theorem d_L_law_605 : decode code 605 = .ok (.iload 5, 2) := by decide +kernel
theorem d_L_law_607 : decode code 607 = .ok (.ifCond .ne 14, 3) := by decide +kernel
theorem d_L_law_610 : decode code 610 = .ok (.aload_n 3, 1) := by decide +kernel
theorem d_L_law_611 : decode code 611 = .ok (.iconst 0, 1) := by decide +kernel
theorem d_L_law_612 : decode code 612 = .ok (.laload, 1) := by decide +kernel
theorem d_L_law_613 : decode code 613 = .ok (.lload 6, 2) := by decide +kernel
theorem d_L_law_615 : decode code 615 = .ok (.lcmp, 1) := by decide +kernel
theorem d_L_law_616 : decode code 616 = .ok (.ifCond .eq 5, 3) := by decide +kernel
theorem d_L_law_619 : decode code 619 = .ok (.iconst 0, 1) := by decide +kernel
theorem d_L_law_620 : decode code 620 = .ok (.ireturn, 1) := by decide +kernel
theorem d_L_law_621 : decode code 621 = .ok (.goto 311, 3) := by decide +kernel
theorem d_L_law_624 : decode code 624 = .ok (.aload_n 1, 1) := by decide +kernel
theorem d_L_law_625 : decode code 625 = .ok (.aload_n 0, 1) := by decide +kernel
theorem d_L_law_626 : decode code 626 = .ok (.iload 4, 2) := by decide +kernel
theorem d_L_law_628 : decode code 628 = .ok (.iconst 1, 1) := by decide +kernel
theorem d_L_law_629 : decode code 629 = .ok (.iadd, 1) := by decide +kernel
theorem d_L_law_630 : decode code 630 = .ok (.iaload, 1) := by decide +kernel
theorem d_L_law_631 : decode code 631 = .ok (.aload_n 0, 1) := by decide +kernel
theorem d_L_law_632 : decode code 632 = .ok (.iload 4, 2) := by decide +kernel
theorem d_L_law_634 : decode code 634 = .ok (.iconst 2, 1) := by decide +kernel
theorem d_L_law_635 : decode code 635 = .ok (.iadd, 1) := by decide +kernel
theorem d_L_law_636 : decode code 636 = .ok (.iaload, 1) := by decide +kernel
theorem d_L_law_637 : decode code 637 = .ok (.aload_n 3, 1) := by decide +kernel
theorem d_L_law_638 : decode code 638 = .ok (.invokestatic 87, 3) := by decide +kernel
theorem d_L_law_641 : decode code 641 = .ok (.istore 5, 2) := by decide +kernel
theorem d_L_law_643 : decode code 643 = .ok (.aload_n 2, 1) := by decide +kernel
theorem d_L_law_644 : decode code 644 = .ok (.aload_n 0, 1) := by decide +kernel
theorem d_L_law_645 : decode code 645 = .ok (.iload 4, 2) := by decide +kernel
theorem d_L_law_647 : decode code 647 = .ok (.iconst 1, 1) := by decide +kernel
theorem d_L_law_648 : decode code 648 = .ok (.iadd, 1) := by decide +kernel
theorem d_L_law_649 : decode code 649 = .ok (.iaload, 1) := by decide +kernel
theorem d_L_law_650 : decode code 650 = .ok (.aload_n 0, 1) := by decide +kernel
theorem d_L_law_651 : decode code 651 = .ok (.iload 4, 2) := by decide +kernel
theorem d_L_law_653 : decode code 653 = .ok (.iconst 2, 1) := by decide +kernel
theorem d_L_law_654 : decode code 654 = .ok (.iadd, 1) := by decide +kernel
theorem d_L_law_655 : decode code 655 = .ok (.iaload, 1) := by decide +kernel
theorem d_L_law_656 : decode code 656 = .ok (.invokevirtual 89, 3) := by decide +kernel
theorem d_L_law_659 : decode code 659 = .ok (.istore 6, 2) := by decide +kernel
theorem d_L_law_661 : decode code 661 = .ok (.aload_n 2, 1) := by decide +kernel
theorem d_L_law_662 : decode code 662 = .ok (.invokevirtual 57, 3) := by decide +kernel
theorem d_L_law_665 : decode code 665 = .ok (.iload 5, 2) := by decide +kernel
theorem d_L_law_667 : decode code 667 = .ok (.if_icmp .eq 5, 3) := by decide +kernel
theorem d_L_law_670 : decode code 670 = .ok (.iconst 0, 1) := by decide +kernel
theorem d_L_law_671 : decode code 671 = .ok (.ireturn, 1) := by decide +kernel
theorem d_L_law_672 : decode code 672 = .ok (.iload 5, 2) := by decide +kernel
theorem d_L_law_674 : decode code 674 = .ok (.ifCond .ne 15, 3) := by decide +kernel
theorem d_L_law_677 : decode code 677 = .ok (.aload_n 3, 1) := by decide +kernel
theorem d_L_law_678 : decode code 678 = .ok (.iconst 0, 1) := by decide +kernel
theorem d_L_law_679 : decode code 679 = .ok (.laload, 1) := by decide +kernel
theorem d_L_law_680 : decode code 680 = .ok (.iload 6, 2) := by decide +kernel
theorem d_L_law_682 : decode code 682 = .ok (.i2l, 1) := by decide +kernel
theorem d_L_law_683 : decode code 683 = .ok (.lcmp, 1) := by decide +kernel
theorem d_L_law_684 : decode code 684 = .ok (.ifCond .eq 5, 3) := by decide +kernel
theorem d_L_law_687 : decode code 687 = .ok (.iconst 0, 1) := by decide +kernel
theorem d_L_law_688 : decode code 688 = .ok (.ireturn, 1) := by decide +kernel
theorem d_L_law_689 : decode code 689 = .ok (.goto 243, 3) := by decide +kernel
theorem d_L_law_692 : decode code 692 = .ok (.aload_n 1, 1) := by decide +kernel
theorem d_L_law_693 : decode code 693 = .ok (.aload_n 0, 1) := by decide +kernel
theorem d_L_law_694 : decode code 694 = .ok (.iload 4, 2) := by decide +kernel
theorem d_L_law_696 : decode code 696 = .ok (.iconst 1, 1) := by decide +kernel
theorem d_L_law_697 : decode code 697 = .ok (.iadd, 1) := by decide +kernel
theorem d_L_law_698 : decode code 698 = .ok (.iaload, 1) := by decide +kernel
theorem d_L_law_699 : decode code 699 = .ok (.ifCond .eq 7, 3) := by decide +kernel
theorem d_L_law_702 : decode code 702 = .ok (.iconst 1, 1) := by decide +kernel
theorem d_L_law_703 : decode code 703 = .ok (.goto 4, 3) := by decide +kernel
theorem d_L_law_706 : decode code 706 = .ok (.iconst 0, 1) := by decide +kernel
theorem d_L_law_707 : decode code 707 = .ok (.aload_n 0, 1) := by decide +kernel
theorem d_L_law_708 : decode code 708 = .ok (.iload 4, 2) := by decide +kernel
theorem d_L_law_710 : decode code 710 = .ok (.iconst 2, 1) := by decide +kernel
theorem d_L_law_711 : decode code 711 = .ok (.iadd, 1) := by decide +kernel
theorem d_L_law_712 : decode code 712 = .ok (.iaload, 1) := by decide +kernel
theorem d_L_law_713 : decode code 713 = .ok (.invokevirtual 90, 3) := by decide +kernel
theorem d_L_law_716 : decode code 716 = .ok (.aload_n 2, 1) := by decide +kernel
theorem d_L_law_717 : decode code 717 = .ok (.aload_n 0, 1) := by decide +kernel
theorem d_L_law_718 : decode code 718 = .ok (.iload 4, 2) := by decide +kernel
theorem d_L_law_720 : decode code 720 = .ok (.iconst 1, 1) := by decide +kernel
theorem d_L_law_721 : decode code 721 = .ok (.iadd, 1) := by decide +kernel
theorem d_L_law_722 : decode code 722 = .ok (.iaload, 1) := by decide +kernel
theorem d_L_law_723 : decode code 723 = .ok (.ifCond .eq 7, 3) := by decide +kernel
theorem d_L_law_726 : decode code 726 = .ok (.iconst 1, 1) := by decide +kernel
theorem d_L_law_727 : decode code 727 = .ok (.goto 4, 3) := by decide +kernel
theorem d_L_law_730 : decode code 730 = .ok (.iconst 0, 1) := by decide +kernel
theorem d_L_law_731 : decode code 731 = .ok (.aload_n 0, 1) := by decide +kernel
theorem d_L_law_732 : decode code 732 = .ok (.iload 4, 2) := by decide +kernel
theorem d_L_law_734 : decode code 734 = .ok (.iconst 2, 1) := by decide +kernel
theorem d_L_law_735 : decode code 735 = .ok (.iadd, 1) := by decide +kernel
theorem d_L_law_736 : decode code 736 = .ok (.iaload, 1) := by decide +kernel
theorem d_L_law_737 : decode code 737 = .ok (.invokevirtual 94, 3) := by decide +kernel
theorem d_L_law_740 : decode code 740 = .ok (.if_icmp .eq 192, 3) := by decide +kernel
theorem d_L_law_743 : decode code 743 = .ok (.iconst 0, 1) := by decide +kernel
theorem d_L_law_744 : decode code 744 = .ok (.ireturn, 1) := by decide +kernel
theorem d_L_law_745 : decode code 745 = .ok (.aload_n 1, 1) := by decide +kernel
theorem d_L_law_746 : decode code 746 = .ok (.aload_n 0, 1) := by decide +kernel
theorem d_L_law_747 : decode code 747 = .ok (.iload 4, 2) := by decide +kernel
theorem d_L_law_749 : decode code 749 = .ok (.iconst 1, 1) := by decide +kernel
theorem d_L_law_750 : decode code 750 = .ok (.iadd, 1) := by decide +kernel
theorem d_L_law_751 : decode code 751 = .ok (.iaload, 1) := by decide +kernel
theorem d_L_law_752 : decode code 752 = .ok (.ifCond .eq 7, 3) := by decide +kernel
theorem d_L_law_755 : decode code 755 = .ok (.iconst 1, 1) := by decide +kernel
theorem d_L_law_756 : decode code 756 = .ok (.goto 4, 3) := by decide +kernel
theorem d_L_law_759 : decode code 759 = .ok (.iconst 0, 1) := by decide +kernel
theorem d_L_law_760 : decode code 760 = .ok (.aload_n 0, 1) := by decide +kernel
theorem d_L_law_761 : decode code 761 = .ok (.iload 4, 2) := by decide +kernel
theorem d_L_law_763 : decode code 763 = .ok (.iconst 2, 1) := by decide +kernel
theorem d_L_law_764 : decode code 764 = .ok (.iadd, 1) := by decide +kernel
theorem d_L_law_765 : decode code 765 = .ok (.iaload, 1) := by decide +kernel
theorem d_L_law_766 : decode code 766 = .ok (.aload_n 0, 1) := by decide +kernel
theorem d_L_law_767 : decode code 767 = .ok (.iload 4, 2) := by decide +kernel
theorem d_L_law_769 : decode code 769 = .ok (.iconst 3, 1) := by decide +kernel
theorem d_L_law_770 : decode code 770 = .ok (.iadd, 1) := by decide +kernel
theorem d_L_law_771 : decode code 771 = .ok (.iaload, 1) := by decide +kernel
theorem d_L_law_772 : decode code 772 = .ok (.ifCond .eq 7, 3) := by decide +kernel
theorem d_L_law_775 : decode code 775 = .ok (.iconst 1, 1) := by decide +kernel
theorem d_L_law_776 : decode code 776 = .ok (.goto 4, 3) := by decide +kernel
theorem d_L_law_779 : decode code 779 = .ok (.iconst 0, 1) := by decide +kernel
theorem d_L_law_780 : decode code 780 = .ok (.aload_n 3, 1) := by decide +kernel
theorem d_L_law_781 : decode code 781 = .ok (.invokestatic 95, 3) := by decide +kernel
theorem d_L_law_784 : decode code 784 = .ok (.istore 5, 2) := by decide +kernel
theorem d_L_law_786 : decode code 786 = .ok (.aload_n 2, 1) := by decide +kernel
theorem d_L_law_787 : decode code 787 = .ok (.aload_n 0, 1) := by decide +kernel
theorem d_L_law_788 : decode code 788 = .ok (.iload 4, 2) := by decide +kernel
theorem d_L_law_790 : decode code 790 = .ok (.iconst 1, 1) := by decide +kernel
theorem d_L_law_791 : decode code 791 = .ok (.iadd, 1) := by decide +kernel
theorem d_L_law_792 : decode code 792 = .ok (.iaload, 1) := by decide +kernel
theorem d_L_law_793 : decode code 793 = .ok (.ifCond .eq 7, 3) := by decide +kernel
theorem d_L_law_796 : decode code 796 = .ok (.iconst 1, 1) := by decide +kernel
theorem d_L_law_797 : decode code 797 = .ok (.goto 4, 3) := by decide +kernel
theorem d_L_law_800 : decode code 800 = .ok (.iconst 0, 1) := by decide +kernel
theorem d_L_law_801 : decode code 801 = .ok (.aload_n 0, 1) := by decide +kernel
theorem d_L_law_802 : decode code 802 = .ok (.iload 4, 2) := by decide +kernel
theorem d_L_law_804 : decode code 804 = .ok (.iconst 2, 1) := by decide +kernel
theorem d_L_law_805 : decode code 805 = .ok (.iadd, 1) := by decide +kernel
theorem d_L_law_806 : decode code 806 = .ok (.iaload, 1) := by decide +kernel
theorem d_L_law_807 : decode code 807 = .ok (.aload_n 0, 1) := by decide +kernel
theorem d_L_law_808 : decode code 808 = .ok (.iload 4, 2) := by decide +kernel
theorem d_L_law_810 : decode code 810 = .ok (.iconst 3, 1) := by decide +kernel
theorem d_L_law_811 : decode code 811 = .ok (.iadd, 1) := by decide +kernel
theorem d_L_law_812 : decode code 812 = .ok (.iaload, 1) := by decide +kernel
theorem d_L_law_813 : decode code 813 = .ok (.ifCond .eq 7, 3) := by decide +kernel
theorem d_L_law_816 : decode code 816 = .ok (.iconst 1, 1) := by decide +kernel
theorem d_L_law_817 : decode code 817 = .ok (.goto 4, 3) := by decide +kernel
theorem d_L_law_820 : decode code 820 = .ok (.iconst 0, 1) := by decide +kernel
theorem d_L_law_821 : decode code 821 = .ok (.invokevirtual 98, 3) := by decide +kernel
theorem d_L_law_824 : decode code 824 = .ok (.lstore 6, 2) := by decide +kernel
theorem d_L_law_826 : decode code 826 = .ok (.aload_n 2, 1) := by decide +kernel
theorem d_L_law_827 : decode code 827 = .ok (.invokevirtual 57, 3) := by decide +kernel
theorem d_L_law_830 : decode code 830 = .ok (.iload 5, 2) := by decide +kernel
theorem d_L_law_832 : decode code 832 = .ok (.if_icmp .eq 5, 3) := by decide +kernel
theorem d_L_law_835 : decode code 835 = .ok (.iconst 0, 1) := by decide +kernel
theorem d_L_law_836 : decode code 836 = .ok (.ireturn, 1) := by decide +kernel
theorem d_L_law_837 : decode code 837 = .ok (.iload 5, 2) := by decide +kernel
theorem d_L_law_839 : decode code 839 = .ok (.ifCond .ne 14, 3) := by decide +kernel
theorem d_L_law_842 : decode code 842 = .ok (.aload_n 3, 1) := by decide +kernel
theorem d_L_law_843 : decode code 843 = .ok (.iconst 0, 1) := by decide +kernel
theorem d_L_law_844 : decode code 844 = .ok (.laload, 1) := by decide +kernel
theorem d_L_law_845 : decode code 845 = .ok (.lload 6, 2) := by decide +kernel
theorem d_L_law_847 : decode code 847 = .ok (.lcmp, 1) := by decide +kernel
theorem d_L_law_848 : decode code 848 = .ok (.ifCond .eq 5, 3) := by decide +kernel
theorem d_L_law_851 : decode code 851 = .ok (.iconst 0, 1) := by decide +kernel
theorem d_L_law_852 : decode code 852 = .ok (.ireturn, 1) := by decide +kernel
theorem d_L_law_853 : decode code 853 = .ok (.goto 79, 3) := by decide +kernel
theorem d_L_law_856 : decode code 856 = .ok (.aload_n 1, 1) := by decide +kernel
theorem d_L_law_857 : decode code 857 = .ok (.aload_n 0, 1) := by decide +kernel
theorem d_L_law_858 : decode code 858 = .ok (.iload 4, 2) := by decide +kernel
theorem d_L_law_860 : decode code 860 = .ok (.iconst 1, 1) := by decide +kernel
theorem d_L_law_861 : decode code 861 = .ok (.iadd, 1) := by decide +kernel
theorem d_L_law_862 : decode code 862 = .ok (.iaload, 1) := by decide +kernel
theorem d_L_law_863 : decode code 863 = .ok (.aload_n 0, 1) := by decide +kernel
theorem d_L_law_864 : decode code 864 = .ok (.iload 4, 2) := by decide +kernel
theorem d_L_law_866 : decode code 866 = .ok (.iconst 2, 1) := by decide +kernel
theorem d_L_law_867 : decode code 867 = .ok (.iadd, 1) := by decide +kernel
theorem d_L_law_868 : decode code 868 = .ok (.iaload, 1) := by decide +kernel
theorem d_L_law_869 : decode code 869 = .ok (.invokevirtual 99, 3) := by decide +kernel
theorem d_L_law_872 : decode code 872 = .ok (.aload_n 2, 1) := by decide +kernel
theorem d_L_law_873 : decode code 873 = .ok (.aload_n 0, 1) := by decide +kernel
theorem d_L_law_874 : decode code 874 = .ok (.iload 4, 2) := by decide +kernel
theorem d_L_law_876 : decode code 876 = .ok (.iconst 1, 1) := by decide +kernel
theorem d_L_law_877 : decode code 877 = .ok (.iadd, 1) := by decide +kernel
theorem d_L_law_878 : decode code 878 = .ok (.iaload, 1) := by decide +kernel
theorem d_L_law_879 : decode code 879 = .ok (.aload_n 0, 1) := by decide +kernel
theorem d_L_law_880 : decode code 880 = .ok (.iload 4, 2) := by decide +kernel
theorem d_L_law_882 : decode code 882 = .ok (.iconst 2, 1) := by decide +kernel
theorem d_L_law_883 : decode code 883 = .ok (.iadd, 1) := by decide +kernel
theorem d_L_law_884 : decode code 884 = .ok (.iaload, 1) := by decide +kernel
theorem d_L_law_885 : decode code 885 = .ok (.invokevirtual 102, 3) := by decide +kernel
theorem d_L_law_888 : decode code 888 = .ok (.if_icmp .eq 44, 3) := by decide +kernel
theorem d_L_law_891 : decode code 891 = .ok (.iconst 0, 1) := by decide +kernel
theorem d_L_law_892 : decode code 892 = .ok (.ireturn, 1) := by decide +kernel
theorem d_L_law_893 : decode code 893 = .ok (.aload_n 1, 1) := by decide +kernel
theorem d_L_law_894 : decode code 894 = .ok (.aload_n 0, 1) := by decide +kernel
theorem d_L_law_895 : decode code 895 = .ok (.iload 4, 2) := by decide +kernel
theorem d_L_law_897 : decode code 897 = .ok (.iconst 1, 1) := by decide +kernel
theorem d_L_law_898 : decode code 898 = .ok (.iadd, 1) := by decide +kernel
theorem d_L_law_899 : decode code 899 = .ok (.iaload, 1) := by decide +kernel
theorem d_L_law_900 : decode code 900 = .ok (.invokevirtual 103, 3) := by decide +kernel
theorem d_L_law_903 : decode code 903 = .ok (.aload_n 2, 1) := by decide +kernel
theorem d_L_law_904 : decode code 904 = .ok (.aload_n 0, 1) := by decide +kernel
theorem d_L_law_905 : decode code 905 = .ok (.iload 4, 2) := by decide +kernel
theorem d_L_law_907 : decode code 907 = .ok (.iconst 1, 1) := by decide +kernel
theorem d_L_law_908 : decode code 908 = .ok (.iadd, 1) := by decide +kernel
theorem d_L_law_909 : decode code 909 = .ok (.iaload, 1) := by decide +kernel
theorem d_L_law_910 : decode code 910 = .ok (.invokevirtual 106, 3) := by decide +kernel
theorem d_L_law_913 : decode code 913 = .ok (.lcmp, 1) := by decide +kernel
theorem d_L_law_914 : decode code 914 = .ok (.ifCond .eq 18, 3) := by decide +kernel
theorem d_L_law_917 : decode code 917 = .ok (.iconst 0, 1) := by decide +kernel
theorem d_L_law_918 : decode code 918 = .ok (.ireturn, 1) := by decide +kernel
theorem d_L_law_919 : decode code 919 = .ok (.aload_n 1, 1) := by decide +kernel
theorem d_L_law_920 : decode code 920 = .ok (.invokevirtual 107, 3) := by decide +kernel
theorem d_L_law_923 : decode code 923 = .ok (.aload_n 2, 1) := by decide +kernel
theorem d_L_law_924 : decode code 924 = .ok (.invokevirtual 110, 3) := by decide +kernel
theorem d_L_law_927 : decode code 927 = .ok (.if_icmp .eq 5, 3) := by decide +kernel
theorem d_L_law_930 : decode code 930 = .ok (.iconst 0, 1) := by decide +kernel
theorem d_L_law_931 : decode code 931 = .ok (.ireturn, 1) := by decide +kernel
theorem d_L_law_932 : decode code 932 = .ok (.iinc 4 7, 3) := by decide +kernel
theorem d_L_law_935 : decode code 935 = .ok (.goto (-912), 3) := by decide +kernel
theorem d_L_law_938 : decode code 938 = .ok (.iconst 1, 1) := by decide +kernel
theorem d_L_law_939 : decode code 939 = .ok (.ireturn, 1) := by decide +kernel
