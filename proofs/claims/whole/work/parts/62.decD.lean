/-! printed by wip/tools/names.py: decode rows -/
theorem d_Model_init_0 : decode b_Model_init 0 = .ok (.aload_n 0, 1) := by decide +kernel
theorem d_Model_init_1 : decode b_Model_init 1 = .ok (.invokespecial 1, 3) := by decide +kernel
theorem d_Model_init_4 : decode b_Model_init 4 = .ok (.aload_n 0, 1) := by decide +kernel
theorem d_Model_init_5 : decode b_Model_init 5 = .ok (.bipush 8, 2) := by decide +kernel
theorem d_Model_init_7 : decode b_Model_init 7 = .ok (.newarray .int, 2) := by decide +kernel
theorem d_Model_init_9 : decode b_Model_init 9 = .ok (.putfield 7, 3) := by decide +kernel
theorem d_Model_init_12 : decode b_Model_init 12 = .ok (.aload_n 0, 1) := by decide +kernel
theorem d_Model_init_13 : decode b_Model_init 13 = .ok (.iconst 3, 1) := by decide +kernel
theorem d_Model_init_14 : decode b_Model_init 14 = .ok (.newarray .int, 2) := by decide +kernel
theorem d_Model_init_16 : decode b_Model_init 16 = .ok (.putfield 13, 3) := by decide +kernel
theorem d_Model_init_19 : decode b_Model_init 19 = .ok (.aload_n 0, 1) := by decide +kernel
theorem d_Model_init_20 : decode b_Model_init 20 = .ok (.iconst 3, 1) := by decide +kernel
theorem d_Model_init_21 : decode b_Model_init 21 = .ok (.newarray .int, 2) := by decide +kernel
theorem d_Model_init_23 : decode b_Model_init 23 = .ok (.putfield 16, 3) := by decide +kernel
theorem d_Model_init_26 : decode b_Model_init 26 = .ok (.aload_n 0, 1) := by decide +kernel
theorem d_Model_init_27 : decode b_Model_init 27 = .ok (.sipush 1536, 3) := by decide +kernel
theorem d_Model_init_30 : decode b_Model_init 30 = .ok (.newarray .int, 2) := by decide +kernel
theorem d_Model_init_32 : decode b_Model_init 32 = .ok (.putfield 19, 3) := by decide +kernel
theorem d_Model_init_35 : decode b_Model_init 35 = .ok (.aload_n 0, 1) := by decide +kernel
theorem d_Model_init_36 : decode b_Model_init 36 = .ok (.sipush 192, 3) := by decide +kernel
theorem d_Model_init_39 : decode b_Model_init 39 = .ok (.newarray .int, 2) := by decide +kernel
theorem d_Model_init_41 : decode b_Model_init 41 = .ok (.putfield 22, 3) := by decide +kernel
theorem d_Model_init_44 : decode b_Model_init 44 = .ok (.aload_n 0, 1) := by decide +kernel
theorem d_Model_init_45 : decode b_Model_init 45 = .ok (.sipush 192, 3) := by decide +kernel
theorem d_Model_init_48 : decode b_Model_init 48 = .ok (.newarray .int, 2) := by decide +kernel
theorem d_Model_init_50 : decode b_Model_init 50 = .ok (.putfield 25, 3) := by decide +kernel
theorem d_Model_init_53 : decode b_Model_init 53 = .ok (.aload_n 0, 1) := by decide +kernel
theorem d_Model_init_54 : decode b_Model_init 54 = .ok (.iconst 3, 1) := by decide +kernel
theorem d_Model_init_55 : decode b_Model_init 55 = .ok (.putfield 28, 3) := by decide +kernel
theorem d_Model_init_58 : decode b_Model_init 58 = .ok (.aload_n 0, 1) := by decide +kernel
theorem d_Model_init_59 : decode b_Model_init 59 = .ok (.bipush 12, 2) := by decide +kernel
theorem d_Model_init_61 : decode b_Model_init 61 = .ok (.newarray .int, 2) := by decide +kernel
theorem d_Model_init_63 : decode b_Model_init 63 = .ok (.putfield 32, 3) := by decide +kernel
theorem d_Model_init_66 : decode b_Model_init 66 = .ok (.aload_n 0, 1) := by decide +kernel
theorem d_Model_init_67 : decode b_Model_init 67 = .ok (.bipush 12, 2) := by decide +kernel
theorem d_Model_init_69 : decode b_Model_init 69 = .ok (.newarray .int, 2) := by decide +kernel
theorem d_Model_init_71 : decode b_Model_init 71 = .ok (.putfield 35, 3) := by decide +kernel
theorem d_Model_init_74 : decode b_Model_init 74 = .ok (.aload_n 0, 1) := by decide +kernel
theorem d_Model_init_75 : decode b_Model_init 75 = .ok (.bipush 12, 2) := by decide +kernel
theorem d_Model_init_77 : decode b_Model_init 77 = .ok (.newarray .int, 2) := by decide +kernel
theorem d_Model_init_79 : decode b_Model_init 79 = .ok (.putfield 38, 3) := by decide +kernel
theorem d_Model_init_82 : decode b_Model_init 82 = .ok (.aload_n 0, 1) := by decide +kernel
theorem d_Model_init_83 : decode b_Model_init 83 = .ok (.bipush 96, 2) := by decide +kernel
theorem d_Model_init_85 : decode b_Model_init 85 = .ok (.newarray .int, 2) := by decide +kernel
theorem d_Model_init_87 : decode b_Model_init 87 = .ok (.putfield 41, 3) := by decide +kernel
theorem d_Model_init_90 : decode b_Model_init 90 = .ok (.aload_n 0, 1) := by decide +kernel
theorem d_Model_init_91 : decode b_Model_init 91 = .ok (.bipush 12, 2) := by decide +kernel
theorem d_Model_init_93 : decode b_Model_init 93 = .ok (.newarray .boolean, 2) := by decide +kernel
theorem d_Model_init_95 : decode b_Model_init 95 = .ok (.putfield 44, 3) := by decide +kernel
theorem d_Model_init_98 : decode b_Model_init 98 = .ok (.aload_n 0, 1) := by decide +kernel
theorem d_Model_init_99 : decode b_Model_init 99 = .ok (.bipush 12, 2) := by decide +kernel
theorem d_Model_init_101 : decode b_Model_init 101 = .ok (.newarray .boolean, 2) := by decide +kernel
theorem d_Model_init_103 : decode b_Model_init 103 = .ok (.putfield 48, 3) := by decide +kernel
theorem d_Model_init_106 : decode b_Model_init 106 = .ok (.aload_n 0, 1) := by decide +kernel
theorem d_Model_init_107 : decode b_Model_init 107 = .ok (.bipush 12, 2) := by decide +kernel
theorem d_Model_init_109 : decode b_Model_init 109 = .ok (.newarray .boolean, 2) := by decide +kernel
theorem d_Model_init_111 : decode b_Model_init 111 = .ok (.putfield 51, 3) := by decide +kernel
theorem d_Model_init_114 : decode b_Model_init 114 = .ok (.aload_n 0, 1) := by decide +kernel
theorem d_Model_init_115 : decode b_Model_init 115 = .ok (.bipush 12, 2) := by decide +kernel
theorem d_Model_init_117 : decode b_Model_init 117 = .ok (.newarray .int, 2) := by decide +kernel
theorem d_Model_init_119 : decode b_Model_init 119 = .ok (.putfield 54, 3) := by decide +kernel
theorem d_Model_init_122 : decode b_Model_init 122 = .ok (.aload_n 0, 1) := by decide +kernel
theorem d_Model_init_123 : decode b_Model_init 123 = .ok (.bipush 12, 2) := by decide +kernel
theorem d_Model_init_125 : decode b_Model_init 125 = .ok (.newarray .int, 2) := by decide +kernel
theorem d_Model_init_127 : decode b_Model_init 127 = .ok (.putfield 57, 3) := by decide +kernel
theorem d_Model_init_130 : decode b_Model_init 130 = .ok (.aload_n 0, 1) := by decide +kernel
theorem d_Model_init_131 : decode b_Model_init 131 = .ok (.bipush 96, 2) := by decide +kernel
theorem d_Model_init_133 : decode b_Model_init 133 = .ok (.newarray .int, 2) := by decide +kernel
theorem d_Model_init_135 : decode b_Model_init 135 = .ok (.putfield 60, 3) := by decide +kernel
theorem d_Model_init_138 : decode b_Model_init 138 = .ok (.aload_n 0, 1) := by decide +kernel
theorem d_Model_init_139 : decode b_Model_init 139 = .ok (.bipush 8, 2) := by decide +kernel
theorem d_Model_init_141 : decode b_Model_init 141 = .ok (.newarray .int, 2) := by decide +kernel
theorem d_Model_init_143 : decode b_Model_init 143 = .ok (.putfield 63, 3) := by decide +kernel
theorem d_Model_init_146 : decode b_Model_init 146 = .ok (.aload_n 0, 1) := by decide +kernel
theorem d_Model_init_147 : decode b_Model_init 147 = .ok (.sipush 140, 3) := by decide +kernel
theorem d_Model_init_150 : decode b_Model_init 150 = .ok (.newarray .boolean, 2) := by decide +kernel
theorem d_Model_init_152 : decode b_Model_init 152 = .ok (.putfield 66, 3) := by decide +kernel
theorem d_Model_init_155 : decode b_Model_init 155 = .ok (.aload_n 0, 1) := by decide +kernel
theorem d_Model_init_156 : decode b_Model_init 156 = .ok (.sipush 580, 3) := by decide +kernel
theorem d_Model_init_159 : decode b_Model_init 159 = .ok (.newarray .int, 2) := by decide +kernel
theorem d_Model_init_161 : decode b_Model_init 161 = .ok (.putfield 69, 3) := by decide +kernel
theorem d_Model_init_164 : decode b_Model_init 164 = .ok (.aload_n 0, 1) := by decide +kernel
theorem d_Model_init_165 : decode b_Model_init 165 = .ok (.sipush 580, 3) := by decide +kernel
theorem d_Model_init_168 : decode b_Model_init 168 = .ok (.newarray .int, 2) := by decide +kernel
theorem d_Model_init_170 : decode b_Model_init 170 = .ok (.putfield 72, 3) := by decide +kernel
theorem d_Model_init_173 : decode b_Model_init 173 = .ok (.aload_n 0, 1) := by decide +kernel
theorem d_Model_init_174 : decode b_Model_init 174 = .ok (.sipush 580, 3) := by decide +kernel
theorem d_Model_init_177 : decode b_Model_init 177 = .ok (.newarray .int, 2) := by decide +kernel
theorem d_Model_init_179 : decode b_Model_init 179 = .ok (.putfield 75, 3) := by decide +kernel
theorem d_Model_init_182 : decode b_Model_init 182 = .ok (.aload_n 0, 1) := by decide +kernel
theorem d_Model_init_183 : decode b_Model_init 183 = .ok (.sipush 580, 3) := by decide +kernel
theorem d_Model_init_186 : decode b_Model_init 186 = .ok (.newarray .boolean, 2) := by decide +kernel
theorem d_Model_init_188 : decode b_Model_init 188 = .ok (.putfield 78, 3) := by decide +kernel
theorem d_Model_init_191 : decode b_Model_init 191 = .ok (.aload_n 0, 1) := by decide +kernel
theorem d_Model_init_192 : decode b_Model_init 192 = .ok (.sipush 580, 3) := by decide +kernel
theorem d_Model_init_195 : decode b_Model_init 195 = .ok (.newarray .int, 2) := by decide +kernel
theorem d_Model_init_197 : decode b_Model_init 197 = .ok (.putfield 81, 3) := by decide +kernel
theorem d_Model_init_200 : decode b_Model_init 200 = .ok (.aload_n 0, 1) := by decide +kernel
theorem d_Model_init_201 : decode b_Model_init 201 = .ok (.sipush 580, 3) := by decide +kernel
theorem d_Model_init_204 : decode b_Model_init 204 = .ok (.newarray .int, 2) := by decide +kernel
theorem d_Model_init_206 : decode b_Model_init 206 = .ok (.putfield 84, 3) := by decide +kernel
theorem d_Model_init_209 : decode b_Model_init 209 = .ok (.aload_n 0, 1) := by decide +kernel
theorem d_Model_init_210 : decode b_Model_init 210 = .ok (.sipush 580, 3) := by decide +kernel
theorem d_Model_init_213 : decode b_Model_init 213 = .ok (.newarray .int, 2) := by decide +kernel
theorem d_Model_init_215 : decode b_Model_init 215 = .ok (.putfield 87, 3) := by decide +kernel
theorem d_Model_init_218 : decode b_Model_init 218 = .ok (.aload_n 0, 1) := by decide +kernel
theorem d_Model_init_219 : decode b_Model_init 219 = .ok (.bipush 120, 2) := by decide +kernel
theorem d_Model_init_221 : decode b_Model_init 221 = .ok (.newarray .int, 2) := by decide +kernel
theorem d_Model_init_223 : decode b_Model_init 223 = .ok (.putfield 90, 3) := by decide +kernel
theorem d_Model_init_226 : decode b_Model_init 226 = .ok (.aload_n 0, 1) := by decide +kernel
theorem d_Model_init_227 : decode b_Model_init 227 = .ok (.sipush 2520, 3) := by decide +kernel
theorem d_Model_init_230 : decode b_Model_init 230 = .ok (.newarray .int, 2) := by decide +kernel
theorem d_Model_init_232 : decode b_Model_init 232 = .ok (.putfield 93, 3) := by decide +kernel
theorem d_Model_init_235 : decode b_Model_init 235 = .ok (.aload_n 0, 1) := by decide +kernel
theorem d_Model_init_236 : decode b_Model_init 236 = .ok (.bipush 21, 2) := by decide +kernel
theorem d_Model_init_238 : decode b_Model_init 238 = .ok (.newarray .int, 2) := by decide +kernel
theorem d_Model_init_240 : decode b_Model_init 240 = .ok (.putfield 96, 3) := by decide +kernel
theorem d_Model_init_243 : decode b_Model_init 243 = .ok (.iconst 0, 1) := by decide +kernel
theorem d_Model_init_244 : decode b_Model_init 244 = .ok (.istore_n 1, 1) := by decide +kernel
theorem d_Model_init_245 : decode b_Model_init 245 = .ok (.iload_n 1, 1) := by decide +kernel
theorem d_Model_init_246 : decode b_Model_init 246 = .ok (.iconst 3, 1) := by decide +kernel
theorem d_Model_init_247 : decode b_Model_init 247 = .ok (.if_icmp .ge 16, 3) := by decide +kernel
theorem d_Model_init_250 : decode b_Model_init 250 = .ok (.aload_n 0, 1) := by decide +kernel
theorem d_Model_init_251 : decode b_Model_init 251 = .ok (.getfield 32, 3) := by decide +kernel
theorem d_Model_init_254 : decode b_Model_init 254 = .ok (.iload_n 1, 1) := by decide +kernel
theorem d_Model_init_255 : decode b_Model_init 255 = .ok (.iconst (-1), 1) := by decide +kernel
theorem d_Model_init_256 : decode b_Model_init 256 = .ok (.iastore, 1) := by decide +kernel
theorem d_Model_init_257 : decode b_Model_init 257 = .ok (.iinc 1 1, 3) := by decide +kernel
theorem d_Model_init_260 : decode b_Model_init 260 = .ok (.goto (-15), 3) := by decide +kernel
theorem d_Model_init_263 : decode b_Model_init 263 = .ok (.return_, 1) := by decide +kernel
theorem d_Model_thrown_0 : decode b_Model_thrown 0 = .ok (.aload_n 0, 1) := by decide +kernel
theorem d_Model_thrown_1 : decode b_Model_thrown 1 = .ok (.getfield 99, 3) := by decide +kernel
theorem d_Model_thrown_4 : decode b_Model_thrown 4 = .ok (.ireturn, 1) := by decide +kernel
theorem d_Model_raise_0 : decode b_Model_raise 0 = .ok (.aload_n 0, 1) := by decide +kernel
theorem d_Model_raise_1 : decode b_Model_raise 1 = .ok (.iload_n 1, 1) := by decide +kernel
theorem d_Model_raise_2 : decode b_Model_raise 2 = .ok (.putfield 99, 3) := by decide +kernel
theorem d_Model_raise_5 : decode b_Model_raise 5 = .ok (.iconst 0, 1) := by decide +kernel
theorem d_Model_raise_6 : decode b_Model_raise 6 = .ok (.ireturn, 1) := by decide +kernel
theorem d_Model_type_0 : decode b_Model_type 0 = .ok (.aload_n 0, 1) := by decide +kernel
theorem d_Model_type_1 : decode b_Model_type 1 = .ok (.iconst 0, 1) := by decide +kernel
theorem d_Model_type_2 : decode b_Model_type 2 = .ok (.putfield 99, 3) := by decide +kernel
theorem d_Model_type_5 : decode b_Model_type 5 = .ok (.iload_n 3, 1) := by decide +kernel
theorem d_Model_type_6 : decode b_Model_type 6 = .ok (.iconst 1, 1) := by decide +kernel
theorem d_Model_type_7 : decode b_Model_type 7 = .ok (.if_icmp .lt 19, 3) := by decide +kernel
theorem d_Model_type_10 : decode b_Model_type 10 = .ok (.iload_n 3, 1) := by decide +kernel
theorem d_Model_type_11 : decode b_Model_type 11 = .ok (.iconst 4, 1) := by decide +kernel
theorem d_Model_type_12 : decode b_Model_type 12 = .ok (.if_icmp .gt 14, 3) := by decide +kernel
theorem d_Model_type_15 : decode b_Model_type 15 = .ok (.aload_n 0, 1) := by decide +kernel
theorem d_Model_type_16 : decode b_Model_type 16 = .ok (.getfield 102, 3) := by decide +kernel
theorem d_Model_type_19 : decode b_Model_type 19 = .ok (.iload_n 3, 1) := by decide +kernel
theorem d_Model_type_20 : decode b_Model_type 20 = .ok (.iadd, 1) := by decide +kernel
theorem d_Model_type_21 : decode b_Model_type 21 = .ok (.bipush 8, 2) := by decide +kernel
theorem d_Model_type_23 : decode b_Model_type 23 = .ok (.if_icmp .le 5, 3) := by decide +kernel
theorem d_Model_type_26 : decode b_Model_type 26 = .ok (.iconst 0, 1) := by decide +kernel
theorem d_Model_type_27 : decode b_Model_type 27 = .ok (.ireturn, 1) := by decide +kernel
theorem d_Model_type_28 : decode b_Model_type 28 = .ok (.iload_n 3, 1) := by decide +kernel
theorem d_Model_type_29 : decode b_Model_type 29 = .ok (.iconst 1, 1) := by decide +kernel
theorem d_Model_type_30 : decode b_Model_type 30 = .ok (.isub, 1) := by decide +kernel
theorem d_Model_type_31 : decode b_Model_type 31 = .ok (.istore 4, 2) := by decide +kernel
theorem d_Model_type_33 : decode b_Model_type 33 = .ok (.iload 4, 2) := by decide +kernel
theorem d_Model_type_35 : decode b_Model_type 35 = .ok (.ifCond .lt 39, 3) := by decide +kernel
theorem d_Model_type_38 : decode b_Model_type 38 = .ok (.aload_n 0, 1) := by decide +kernel
theorem d_Model_type_39 : decode b_Model_type 39 = .ok (.getfield 7, 3) := by decide +kernel
theorem d_Model_type_42 : decode b_Model_type 42 = .ok (.aload_n 0, 1) := by decide +kernel
theorem d_Model_type_43 : decode b_Model_type 43 = .ok (.getfield 102, 3) := by decide +kernel
theorem d_Model_type_46 : decode b_Model_type 46 = .ok (.lload_n 1, 1) := by decide +kernel
theorem d_Model_type_47 : decode b_Model_type 47 = .ok (.bipush 16, 2) := by decide +kernel
theorem d_Model_type_49 : decode b_Model_type 49 = .ok (.iload 4, 2) := by decide +kernel
theorem d_Model_type_51 : decode b_Model_type 51 = .ok (.imul, 1) := by decide +kernel
theorem d_Model_type_52 : decode b_Model_type 52 = .ok (.lshr, 1) := by decide +kernel
theorem d_Model_type_53 : decode b_Model_type 53 = .ok (.l2i, 1) := by decide +kernel
theorem d_Model_type_54 : decode b_Model_type 54 = .ok (.ldc 105, 2) := by decide +kernel
theorem d_Model_type_56 : decode b_Model_type 56 = .ok (.iand, 1) := by decide +kernel
theorem d_Model_type_57 : decode b_Model_type 57 = .ok (.iastore, 1) := by decide +kernel
theorem d_Model_type_58 : decode b_Model_type 58 = .ok (.aload_n 0, 1) := by decide +kernel
theorem d_Model_type_59 : decode b_Model_type 59 = .ok (.dup, 1) := by decide +kernel
theorem d_Model_type_60 : decode b_Model_type 60 = .ok (.getfield 102, 3) := by decide +kernel
theorem d_Model_type_63 : decode b_Model_type 63 = .ok (.iconst 1, 1) := by decide +kernel
theorem d_Model_type_64 : decode b_Model_type 64 = .ok (.iadd, 1) := by decide +kernel
theorem d_Model_type_65 : decode b_Model_type 65 = .ok (.putfield 102, 3) := by decide +kernel
theorem d_Model_type_68 : decode b_Model_type 68 = .ok (.iinc 4 (-1), 3) := by decide +kernel
theorem d_Model_type_71 : decode b_Model_type 71 = .ok (.goto (-38), 3) := by decide +kernel
theorem d_Model_type_74 : decode b_Model_type 74 = .ok (.iconst 1, 1) := by decide +kernel
theorem d_Model_type_75 : decode b_Model_type 75 = .ok (.ireturn, 1) := by decide +kernel
theorem d_Model_order_0 : decode b_Model_order 0 = .ok (.iconst 0, 1) := by decide +kernel
theorem d_Model_order_1 : decode b_Model_order 1 = .ok (.istore 6, 2) := by decide +kernel
theorem d_Model_order_3 : decode b_Model_order 3 = .ok (.iload 6, 2) := by decide +kernel
theorem d_Model_order_5 : decode b_Model_order 5 = .ok (.iload_n 2, 1) := by decide +kernel
theorem d_Model_order_6 : decode b_Model_order 6 = .ok (.if_icmp .ge 47, 3) := by decide +kernel
theorem d_Model_order_9 : decode b_Model_order 9 = .ok (.iload 6, 2) := by decide +kernel
theorem d_Model_order_11 : decode b_Model_order 11 = .ok (.iload 5, 2) := by decide +kernel
theorem d_Model_order_13 : decode b_Model_order 13 = .ok (.if_icmp .ge 40, 3) := by decide +kernel
theorem d_Model_order_16 : decode b_Model_order 16 = .ok (.aload_n 0, 1) := by decide +kernel
theorem d_Model_order_17 : decode b_Model_order 17 = .ok (.iload_n 1, 1) := by decide +kernel
theorem d_Model_order_18 : decode b_Model_order 18 = .ok (.iload 6, 2) := by decide +kernel
theorem d_Model_order_20 : decode b_Model_order 20 = .ok (.iadd, 1) := by decide +kernel
theorem d_Model_order_21 : decode b_Model_order 21 = .ok (.iaload, 1) := by decide +kernel
theorem d_Model_order_22 : decode b_Model_order 22 = .ok (.aload_n 3, 1) := by decide +kernel
theorem d_Model_order_23 : decode b_Model_order 23 = .ok (.iload 4, 2) := by decide +kernel
theorem d_Model_order_25 : decode b_Model_order 25 = .ok (.iload 6, 2) := by decide +kernel
theorem d_Model_order_27 : decode b_Model_order 27 = .ok (.iadd, 1) := by decide +kernel
theorem d_Model_order_28 : decode b_Model_order 28 = .ok (.iaload, 1) := by decide +kernel
theorem d_Model_order_29 : decode b_Model_order 29 = .ok (.if_icmp .eq 18, 3) := by decide +kernel
theorem d_Model_order_32 : decode b_Model_order 32 = .ok (.aload_n 0, 1) := by decide +kernel
theorem d_Model_order_33 : decode b_Model_order 33 = .ok (.iload_n 1, 1) := by decide +kernel
theorem d_Model_order_34 : decode b_Model_order 34 = .ok (.iload 6, 2) := by decide +kernel
theorem d_Model_order_36 : decode b_Model_order 36 = .ok (.iadd, 1) := by decide +kernel
theorem d_Model_order_37 : decode b_Model_order 37 = .ok (.iaload, 1) := by decide +kernel
theorem d_Model_order_38 : decode b_Model_order 38 = .ok (.aload_n 3, 1) := by decide +kernel
theorem d_Model_order_39 : decode b_Model_order 39 = .ok (.iload 4, 2) := by decide +kernel
theorem d_Model_order_41 : decode b_Model_order 41 = .ok (.iload 6, 2) := by decide +kernel
theorem d_Model_order_43 : decode b_Model_order 43 = .ok (.iadd, 1) := by decide +kernel
theorem d_Model_order_44 : decode b_Model_order 44 = .ok (.iaload, 1) := by decide +kernel
theorem d_Model_order_45 : decode b_Model_order 45 = .ok (.isub, 1) := by decide +kernel
theorem d_Model_order_46 : decode b_Model_order 46 = .ok (.ireturn, 1) := by decide +kernel
theorem d_Model_order_47 : decode b_Model_order 47 = .ok (.iinc 6 1, 3) := by decide +kernel
theorem d_Model_order_50 : decode b_Model_order 50 = .ok (.goto (-47), 3) := by decide +kernel
theorem d_Model_order_53 : decode b_Model_order 53 = .ok (.iload_n 2, 1) := by decide +kernel
theorem d_Model_order_54 : decode b_Model_order 54 = .ok (.iload 5, 2) := by decide +kernel
theorem d_Model_order_56 : decode b_Model_order 56 = .ok (.isub, 1) := by decide +kernel
theorem d_Model_order_57 : decode b_Model_order 57 = .ok (.ireturn, 1) := by decide +kernel
theorem d_Model_begins_0 : decode b_Model_begins 0 = .ok (.iload 5, 2) := by decide +kernel
theorem d_Model_begins_2 : decode b_Model_begins 2 = .ok (.iload_n 2, 1) := by decide +kernel
theorem d_Model_begins_3 : decode b_Model_begins 3 = .ok (.if_icmp .gt 22, 3) := by decide +kernel
theorem d_Model_begins_6 : decode b_Model_begins 6 = .ok (.aload_n 0, 1) := by decide +kernel
theorem d_Model_begins_7 : decode b_Model_begins 7 = .ok (.iload_n 1, 1) := by decide +kernel
theorem d_Model_begins_8 : decode b_Model_begins 8 = .ok (.iload 5, 2) := by decide +kernel
theorem d_Model_begins_10 : decode b_Model_begins 10 = .ok (.aload_n 3, 1) := by decide +kernel
theorem d_Model_begins_11 : decode b_Model_begins 11 = .ok (.iload 4, 2) := by decide +kernel
theorem d_Model_begins_13 : decode b_Model_begins 13 = .ok (.iload 5, 2) := by decide +kernel
theorem d_Model_begins_15 : decode b_Model_begins 15 = .ok (.invokestatic 106, 3) := by decide +kernel
theorem d_Model_begins_18 : decode b_Model_begins 18 = .ok (.ifCond .ne 7, 3) := by decide +kernel
theorem d_Model_begins_21 : decode b_Model_begins 21 = .ok (.iconst 1, 1) := by decide +kernel
theorem d_Model_begins_22 : decode b_Model_begins 22 = .ok (.goto 4, 3) := by decide +kernel
theorem d_Model_begins_25 : decode b_Model_begins 25 = .ok (.iconst 0, 1) := by decide +kernel
theorem d_Model_begins_26 : decode b_Model_begins 26 = .ok (.ireturn, 1) := by decide +kernel
theorem d_Model_orderOf_0 : decode b_Model_orderOf 0 = .ok (.aload_n 0, 1) := by decide +kernel
theorem d_Model_orderOf_1 : decode b_Model_orderOf 1 = .ok (.getfield 19, 3) := by decide +kernel
theorem d_Model_orderOf_4 : decode b_Model_orderOf 4 = .ok (.bipush 8, 2) := by decide +kernel
theorem d_Model_orderOf_6 : decode b_Model_orderOf 6 = .ok (.iload_n 1, 1) := by decide +kernel
theorem d_Model_orderOf_7 : decode b_Model_orderOf 7 = .ok (.imul, 1) := by decide +kernel
theorem d_Model_orderOf_8 : decode b_Model_orderOf 8 = .ok (.aload_n 0, 1) := by decide +kernel
theorem d_Model_orderOf_9 : decode b_Model_orderOf 9 = .ok (.getfield 22, 3) := by decide +kernel
theorem d_Model_orderOf_12 : decode b_Model_orderOf 12 = .ok (.iload_n 1, 1) := by decide +kernel
theorem d_Model_orderOf_13 : decode b_Model_orderOf 13 = .ok (.iaload, 1) := by decide +kernel
theorem d_Model_orderOf_14 : decode b_Model_orderOf 14 = .ok (.aload_n 2, 1) := by decide +kernel
theorem d_Model_orderOf_15 : decode b_Model_orderOf 15 = .ok (.iload_n 3, 1) := by decide +kernel
theorem d_Model_orderOf_16 : decode b_Model_orderOf 16 = .ok (.iload 4, 2) := by decide +kernel
theorem d_Model_orderOf_18 : decode b_Model_orderOf 18 = .ok (.invokestatic 106, 3) := by decide +kernel
theorem d_Model_orderOf_21 : decode b_Model_orderOf 21 = .ok (.ireturn, 1) := by decide +kernel
theorem d_Model_isView_0 : decode b_Model_isView 0 = .ok (.iload_n 1, 1) := by decide +kernel
theorem d_Model_isView_1 : decode b_Model_isView 1 = .ok (.ifCond .lt 15, 3) := by decide +kernel
theorem d_Model_isView_4 : decode b_Model_isView 4 = .ok (.iload_n 1, 1) := by decide +kernel
theorem d_Model_isView_5 : decode b_Model_isView 5 = .ok (.aload_n 0, 1) := by decide +kernel
theorem d_Model_isView_6 : decode b_Model_isView 6 = .ok (.getfield 28, 3) := by decide +kernel
theorem d_Model_isView_9 : decode b_Model_isView 9 = .ok (.if_icmp .ge 7, 3) := by decide +kernel
theorem d_Model_isView_12 : decode b_Model_isView 12 = .ok (.iconst 1, 1) := by decide +kernel
theorem d_Model_isView_13 : decode b_Model_isView 13 = .ok (.goto 4, 3) := by decide +kernel
theorem d_Model_isView_16 : decode b_Model_isView 16 = .ok (.iconst 0, 1) := by decide +kernel
theorem d_Model_isView_17 : decode b_Model_isView 17 = .ok (.ireturn, 1) := by decide +kernel
theorem d_Model_mapOf_0 : decode b_Model_mapOf 0 = .ok (.iload_n 1, 1) := by decide +kernel
theorem d_Model_mapOf_1 : decode b_Model_mapOf 1 = .ok (.istore_n 2, 1) := by decide +kernel
theorem d_Model_mapOf_2 : decode b_Model_mapOf 2 = .ok (.aload_n 0, 1) := by decide +kernel
theorem d_Model_mapOf_3 : decode b_Model_mapOf 3 = .ok (.getfield 32, 3) := by decide +kernel
theorem d_Model_mapOf_6 : decode b_Model_mapOf 6 = .ok (.iload_n 2, 1) := by decide +kernel
theorem d_Model_mapOf_7 : decode b_Model_mapOf 7 = .ok (.iaload, 1) := by decide +kernel
theorem d_Model_mapOf_8 : decode b_Model_mapOf 8 = .ok (.iconst (-1), 1) := by decide +kernel
theorem d_Model_mapOf_9 : decode b_Model_mapOf 9 = .ok (.if_icmp .eq 13, 3) := by decide +kernel
theorem d_Model_mapOf_12 : decode b_Model_mapOf 12 = .ok (.aload_n 0, 1) := by decide +kernel
theorem d_Model_mapOf_13 : decode b_Model_mapOf 13 = .ok (.getfield 32, 3) := by decide +kernel
theorem d_Model_mapOf_16 : decode b_Model_mapOf 16 = .ok (.iload_n 2, 1) := by decide +kernel
theorem d_Model_mapOf_17 : decode b_Model_mapOf 17 = .ok (.iaload, 1) := by decide +kernel
theorem d_Model_mapOf_18 : decode b_Model_mapOf 18 = .ok (.istore_n 2, 1) := by decide +kernel
theorem d_Model_mapOf_19 : decode b_Model_mapOf 19 = .ok (.goto (-17), 3) := by decide +kernel
theorem d_Model_mapOf_22 : decode b_Model_mapOf 22 = .ok (.iload_n 2, 1) := by decide +kernel
theorem d_Model_mapOf_23 : decode b_Model_mapOf 23 = .ok (.ireturn, 1) := by decide +kernel
theorem d_Model_isTurned_0 : decode b_Model_isTurned 0 = .ok (.iconst 0, 1) := by decide +kernel
theorem d_Model_isTurned_1 : decode b_Model_isTurned 1 = .ok (.istore_n 2, 1) := by decide +kernel
theorem d_Model_isTurned_2 : decode b_Model_isTurned 2 = .ok (.iload_n 1, 1) := by decide +kernel
theorem d_Model_isTurned_3 : decode b_Model_isTurned 3 = .ok (.istore_n 3, 1) := by decide +kernel
theorem d_Model_isTurned_4 : decode b_Model_isTurned 4 = .ok (.aload_n 0, 1) := by decide +kernel
theorem d_Model_isTurned_5 : decode b_Model_isTurned 5 = .ok (.getfield 32, 3) := by decide +kernel
theorem d_Model_isTurned_8 : decode b_Model_isTurned 8 = .ok (.iload_n 3, 1) := by decide +kernel
theorem d_Model_isTurned_9 : decode b_Model_isTurned 9 = .ok (.iaload, 1) := by decide +kernel
theorem d_Model_isTurned_10 : decode b_Model_isTurned 10 = .ok (.iconst (-1), 1) := by decide +kernel
theorem d_Model_isTurned_11 : decode b_Model_isTurned 11 = .ok (.if_icmp .eq 37, 3) := by decide +kernel
theorem d_Model_isTurned_14 : decode b_Model_isTurned 14 = .ok (.aload_n 0, 1) := by decide +kernel
theorem d_Model_isTurned_15 : decode b_Model_isTurned 15 = .ok (.getfield 35, 3) := by decide +kernel
theorem d_Model_isTurned_18 : decode b_Model_isTurned 18 = .ok (.iload_n 3, 1) := by decide +kernel
theorem d_Model_isTurned_19 : decode b_Model_isTurned 19 = .ok (.iaload, 1) := by decide +kernel
theorem d_Model_isTurned_20 : decode b_Model_isTurned 20 = .ok (.iconst 3, 1) := by decide +kernel
theorem d_Model_isTurned_21 : decode b_Model_isTurned 21 = .ok (.if_icmp .ne 15, 3) := by decide +kernel
theorem d_Model_isTurned_24 : decode b_Model_isTurned 24 = .ok (.iload_n 2, 1) := by decide +kernel
theorem d_Model_isTurned_25 : decode b_Model_isTurned 25 = .ok (.ifCond .ne 7, 3) := by decide +kernel
theorem d_Model_isTurned_28 : decode b_Model_isTurned 28 = .ok (.iconst 1, 1) := by decide +kernel
theorem d_Model_isTurned_29 : decode b_Model_isTurned 29 = .ok (.goto 8, 3) := by decide +kernel
theorem d_Model_isTurned_32 : decode b_Model_isTurned 32 = .ok (.iconst 0, 1) := by decide +kernel
theorem d_Model_isTurned_33 : decode b_Model_isTurned 33 = .ok (.goto 4, 3) := by decide +kernel
theorem d_Model_isTurned_36 : decode b_Model_isTurned 36 = .ok (.iload_n 2, 1) := by decide +kernel
theorem d_Model_isTurned_37 : decode b_Model_isTurned 37 = .ok (.istore_n 2, 1) := by decide +kernel
theorem d_Model_isTurned_38 : decode b_Model_isTurned 38 = .ok (.aload_n 0, 1) := by decide +kernel
theorem d_Model_isTurned_39 : decode b_Model_isTurned 39 = .ok (.getfield 32, 3) := by decide +kernel
theorem d_Model_isTurned_42 : decode b_Model_isTurned 42 = .ok (.iload_n 3, 1) := by decide +kernel
theorem d_Model_isTurned_43 : decode b_Model_isTurned 43 = .ok (.iaload, 1) := by decide +kernel
theorem d_Model_isTurned_44 : decode b_Model_isTurned 44 = .ok (.istore_n 3, 1) := by decide +kernel
theorem d_Model_isTurned_45 : decode b_Model_isTurned 45 = .ok (.goto (-41), 3) := by decide +kernel
theorem d_Model_isTurned_48 : decode b_Model_isTurned 48 = .ok (.iload_n 2, 1) := by decide +kernel
theorem d_Model_isTurned_49 : decode b_Model_isTurned 49 = .ok (.ireturn, 1) := by decide +kernel
theorem d_Model_within_0 : decode b_Model_within 0 = .ok (.iconst 1, 1) := by decide +kernel
theorem d_Model_within_1 : decode b_Model_within 1 = .ok (.istore 5, 2) := by decide +kernel
theorem d_Model_within_3 : decode b_Model_within 3 = .ok (.iload_n 1, 1) := by decide +kernel
theorem d_Model_within_4 : decode b_Model_within 4 = .ok (.istore 6, 2) := by decide +kernel
theorem d_Model_within_6 : decode b_Model_within 6 = .ok (.aload_n 0, 1) := by decide +kernel
theorem d_Model_within_7 : decode b_Model_within 7 = .ok (.getfield 32, 3) := by decide +kernel
theorem d_Model_within_10 : decode b_Model_within 10 = .ok (.iload 6, 2) := by decide +kernel
theorem d_Model_within_12 : decode b_Model_within 12 = .ok (.iaload, 1) := by decide +kernel
theorem d_Model_within_13 : decode b_Model_within 13 = .ok (.iconst (-1), 1) := by decide +kernel
theorem d_Model_within_14 : decode b_Model_within 14 = .ok (.if_icmp .eq 161, 3) := by decide +kernel
theorem d_Model_within_17 : decode b_Model_within 17 = .ok (.aload_n 0, 1) := by decide +kernel
theorem d_Model_within_18 : decode b_Model_within 18 = .ok (.getfield 35, 3) := by decide +kernel
theorem d_Model_within_21 : decode b_Model_within 21 = .ok (.iload 6, 2) := by decide +kernel
theorem d_Model_within_23 : decode b_Model_within 23 = .ok (.iaload, 1) := by decide +kernel
theorem d_Model_within_24 : decode b_Model_within 24 = .ok (.ifCond .ne 41, 3) := by decide +kernel
theorem d_Model_within_27 : decode b_Model_within 27 = .ok (.iload 5, 2) := by decide +kernel
theorem d_Model_within_29 : decode b_Model_within 29 = .ok (.ifCond .eq 33, 3) := by decide +kernel
theorem d_Model_within_32 : decode b_Model_within 32 = .ok (.aload_n 2, 1) := by decide +kernel
theorem d_Model_within_33 : decode b_Model_within 33 = .ok (.iload_n 3, 1) := by decide +kernel
theorem d_Model_within_34 : decode b_Model_within 34 = .ok (.iload 4, 2) := by decide +kernel
theorem d_Model_within_36 : decode b_Model_within 36 = .ok (.aload_n 0, 1) := by decide +kernel
theorem d_Model_within_37 : decode b_Model_within 37 = .ok (.getfield 41, 3) := by decide +kernel
theorem d_Model_within_40 : decode b_Model_within 40 = .ok (.bipush 8, 2) := by decide +kernel
theorem d_Model_within_42 : decode b_Model_within 42 = .ok (.iload 6, 2) := by decide +kernel
theorem d_Model_within_44 : decode b_Model_within 44 = .ok (.imul, 1) := by decide +kernel
theorem d_Model_within_45 : decode b_Model_within 45 = .ok (.aload_n 0, 1) := by decide +kernel
theorem d_Model_within_46 : decode b_Model_within 46 = .ok (.getfield 38, 3) := by decide +kernel
theorem d_Model_within_49 : decode b_Model_within 49 = .ok (.iload 6, 2) := by decide +kernel
theorem d_Model_within_51 : decode b_Model_within 51 = .ok (.iaload, 1) := by decide +kernel
theorem d_Model_within_52 : decode b_Model_within 52 = .ok (.invokestatic 110, 3) := by decide +kernel
theorem d_Model_within_55 : decode b_Model_within 55 = .ok (.ifCond .eq 7, 3) := by decide +kernel
theorem d_Model_within_58 : decode b_Model_within 58 = .ok (.iconst 1, 1) := by decide +kernel
theorem d_Model_within_59 : decode b_Model_within 59 = .ok (.goto 4, 3) := by decide +kernel
theorem d_Model_within_62 : decode b_Model_within 62 = .ok (.iconst 0, 1) := by decide +kernel
theorem d_Model_within_63 : decode b_Model_within 63 = .ok (.istore 5, 2) := by decide +kernel
theorem d_Model_within_65 : decode b_Model_within 65 = .ok (.aload_n 0, 1) := by decide +kernel
theorem d_Model_within_66 : decode b_Model_within 66 = .ok (.getfield 35, 3) := by decide +kernel
theorem d_Model_within_69 : decode b_Model_within 69 = .ok (.iload 6, 2) := by decide +kernel
theorem d_Model_within_71 : decode b_Model_within 71 = .ok (.iaload, 1) := by decide +kernel
theorem d_Model_within_72 : decode b_Model_within 72 = .ok (.iconst 1, 1) := by decide +kernel
theorem d_Model_within_73 : decode b_Model_within 73 = .ok (.if_icmp .ne 41, 3) := by decide +kernel
theorem d_Model_within_76 : decode b_Model_within 76 = .ok (.iload 5, 2) := by decide +kernel
theorem d_Model_within_78 : decode b_Model_within 78 = .ok (.ifCond .eq 33, 3) := by decide +kernel
theorem d_Model_within_81 : decode b_Model_within 81 = .ok (.aload_n 2, 1) := by decide +kernel
theorem d_Model_within_82 : decode b_Model_within 82 = .ok (.iload_n 3, 1) := by decide +kernel
theorem d_Model_within_83 : decode b_Model_within 83 = .ok (.iload 4, 2) := by decide +kernel
theorem d_Model_within_85 : decode b_Model_within 85 = .ok (.aload_n 0, 1) := by decide +kernel
theorem d_Model_within_86 : decode b_Model_within 86 = .ok (.getfield 41, 3) := by decide +kernel
theorem d_Model_within_89 : decode b_Model_within 89 = .ok (.bipush 8, 2) := by decide +kernel
theorem d_Model_within_91 : decode b_Model_within 91 = .ok (.iload 6, 2) := by decide +kernel
theorem d_Model_within_93 : decode b_Model_within 93 = .ok (.imul, 1) := by decide +kernel
theorem d_Model_within_94 : decode b_Model_within 94 = .ok (.aload_n 0, 1) := by decide +kernel
theorem d_Model_within_95 : decode b_Model_within 95 = .ok (.getfield 38, 3) := by decide +kernel
theorem d_Model_within_98 : decode b_Model_within 98 = .ok (.iload 6, 2) := by decide +kernel
theorem d_Model_within_100 : decode b_Model_within 100 = .ok (.iaload, 1) := by decide +kernel
theorem d_Model_within_101 : decode b_Model_within 101 = .ok (.invokestatic 106, 3) := by decide +kernel
theorem d_Model_within_104 : decode b_Model_within 104 = .ok (.ifCond .ge 7, 3) := by decide +kernel
theorem d_Model_within_107 : decode b_Model_within 107 = .ok (.iconst 1, 1) := by decide +kernel
theorem d_Model_within_108 : decode b_Model_within 108 = .ok (.goto 4, 3) := by decide +kernel
theorem d_Model_within_111 : decode b_Model_within 111 = .ok (.iconst 0, 1) := by decide +kernel
theorem d_Model_within_112 : decode b_Model_within 112 = .ok (.istore 5, 2) := by decide +kernel
theorem d_Model_within_114 : decode b_Model_within 114 = .ok (.aload_n 0, 1) := by decide +kernel
theorem d_Model_within_115 : decode b_Model_within 115 = .ok (.getfield 35, 3) := by decide +kernel
theorem d_Model_within_118 : decode b_Model_within 118 = .ok (.iload 6, 2) := by decide +kernel
theorem d_Model_within_120 : decode b_Model_within 120 = .ok (.iaload, 1) := by decide +kernel
theorem d_Model_within_121 : decode b_Model_within 121 = .ok (.iconst 2, 1) := by decide +kernel
theorem d_Model_within_122 : decode b_Model_within 122 = .ok (.if_icmp .ne 41, 3) := by decide +kernel
theorem d_Model_within_125 : decode b_Model_within 125 = .ok (.iload 5, 2) := by decide +kernel
theorem d_Model_within_127 : decode b_Model_within 127 = .ok (.ifCond .eq 33, 3) := by decide +kernel
theorem d_Model_within_130 : decode b_Model_within 130 = .ok (.aload_n 2, 1) := by decide +kernel
theorem d_Model_within_131 : decode b_Model_within 131 = .ok (.iload_n 3, 1) := by decide +kernel
theorem d_Model_within_132 : decode b_Model_within 132 = .ok (.iload 4, 2) := by decide +kernel
theorem d_Model_within_134 : decode b_Model_within 134 = .ok (.aload_n 0, 1) := by decide +kernel
theorem d_Model_within_135 : decode b_Model_within 135 = .ok (.getfield 41, 3) := by decide +kernel
theorem d_Model_within_138 : decode b_Model_within 138 = .ok (.bipush 8, 2) := by decide +kernel
theorem d_Model_within_140 : decode b_Model_within 140 = .ok (.iload 6, 2) := by decide +kernel
theorem d_Model_within_142 : decode b_Model_within 142 = .ok (.imul, 1) := by decide +kernel
theorem d_Model_within_143 : decode b_Model_within 143 = .ok (.aload_n 0, 1) := by decide +kernel
theorem d_Model_within_144 : decode b_Model_within 144 = .ok (.getfield 38, 3) := by decide +kernel
theorem d_Model_within_147 : decode b_Model_within 147 = .ok (.iload 6, 2) := by decide +kernel
theorem d_Model_within_149 : decode b_Model_within 149 = .ok (.iaload, 1) := by decide +kernel
theorem d_Model_within_150 : decode b_Model_within 150 = .ok (.invokestatic 106, 3) := by decide +kernel
theorem d_Model_within_153 : decode b_Model_within 153 = .ok (.ifCond .lt 7, 3) := by decide +kernel
theorem d_Model_within_156 : decode b_Model_within 156 = .ok (.iconst 1, 1) := by decide +kernel
theorem d_Model_within_157 : decode b_Model_within 157 = .ok (.goto 4, 3) := by decide +kernel
theorem d_Model_within_160 : decode b_Model_within 160 = .ok (.iconst 0, 1) := by decide +kernel
theorem d_Model_within_161 : decode b_Model_within 161 = .ok (.istore 5, 2) := by decide +kernel
theorem d_Model_within_163 : decode b_Model_within 163 = .ok (.aload_n 0, 1) := by decide +kernel
theorem d_Model_within_164 : decode b_Model_within 164 = .ok (.getfield 32, 3) := by decide +kernel
theorem d_Model_within_167 : decode b_Model_within 167 = .ok (.iload 6, 2) := by decide +kernel
theorem d_Model_within_169 : decode b_Model_within 169 = .ok (.iaload, 1) := by decide +kernel
theorem d_Model_within_170 : decode b_Model_within 170 = .ok (.istore 6, 2) := by decide +kernel
theorem d_Model_within_172 : decode b_Model_within 172 = .ok (.goto (-166), 3) := by decide +kernel
theorem d_Model_within_175 : decode b_Model_within 175 = .ok (.iload 5, 2) := by decide +kernel
theorem d_Model_within_177 : decode b_Model_within 177 = .ok (.ireturn, 1) := by decide +kernel
theorem d_Model_has_0 : decode b_Model_has 0 = .ok (.bipush 64, 2) := by decide +kernel
theorem d_Model_has_2 : decode b_Model_has 2 = .ok (.aload_n 0, 1) := by decide +kernel
theorem d_Model_has_3 : decode b_Model_has 3 = .ok (.iload_n 1, 1) := by decide +kernel
theorem d_Model_has_4 : decode b_Model_has 4 = .ok (.invokevirtual 114, 3) := by decide +kernel
theorem d_Model_has_7 : decode b_Model_has 7 = .ok (.imul, 1) := by decide +kernel
theorem d_Model_has_8 : decode b_Model_has 8 = .ok (.iload_n 2, 1) := by decide +kernel
theorem d_Model_has_9 : decode b_Model_has 9 = .ok (.iadd, 1) := by decide +kernel
theorem d_Model_has_10 : decode b_Model_has 10 = .ok (.istore_n 3, 1) := by decide +kernel
theorem d_Model_has_11 : decode b_Model_has 11 = .ok (.aload_n 0, 1) := by decide +kernel
theorem d_Model_has_12 : decode b_Model_has 12 = .ok (.iload_n 1, 1) := by decide +kernel
theorem d_Model_has_13 : decode b_Model_has 13 = .ok (.aload_n 0, 1) := by decide +kernel
theorem d_Model_has_14 : decode b_Model_has 14 = .ok (.getfield 19, 3) := by decide +kernel
theorem d_Model_has_17 : decode b_Model_has 17 = .ok (.bipush 8, 2) := by decide +kernel
theorem d_Model_has_19 : decode b_Model_has 19 = .ok (.iload_n 3, 1) := by decide +kernel
theorem d_Model_has_20 : decode b_Model_has 20 = .ok (.imul, 1) := by decide +kernel
theorem d_Model_has_21 : decode b_Model_has 21 = .ok (.aload_n 0, 1) := by decide +kernel
theorem d_Model_has_22 : decode b_Model_has 22 = .ok (.getfield 22, 3) := by decide +kernel
theorem d_Model_has_25 : decode b_Model_has 25 = .ok (.iload_n 3, 1) := by decide +kernel
theorem d_Model_has_26 : decode b_Model_has 26 = .ok (.iaload, 1) := by decide +kernel
theorem d_Model_has_27 : decode b_Model_has 27 = .ok (.invokevirtual 118, 3) := by decide +kernel
theorem d_Model_has_30 : decode b_Model_has 30 = .ok (.ireturn, 1) := by decide +kernel
theorem d_Model_view_0 : decode b_Model_view 0 = .ok (.aload_n 0, 1) := by decide +kernel
theorem d_Model_view_1 : decode b_Model_view 1 = .ok (.iload_n 1, 1) := by decide +kernel
theorem d_Model_view_2 : decode b_Model_view 2 = .ok (.invokevirtual 122, 3) := by decide +kernel
theorem d_Model_view_5 : decode b_Model_view 5 = .ok (.ifCond .eq 12, 3) := by decide +kernel
theorem d_Model_view_8 : decode b_Model_view 8 = .ok (.iload_n 2, 1) := by decide +kernel
theorem d_Model_view_9 : decode b_Model_view 9 = .ok (.ifCond .lt 8, 3) := by decide +kernel
theorem d_Model_view_12 : decode b_Model_view 12 = .ok (.iload_n 2, 1) := by decide +kernel
theorem d_Model_view_13 : decode b_Model_view 13 = .ok (.iconst 3, 1) := by decide +kernel
theorem d_Model_view_14 : decode b_Model_view 14 = .ok (.if_icmp .le 9, 3) := by decide +kernel
theorem d_Model_view_17 : decode b_Model_view 17 = .ok (.aload_n 0, 1) := by decide +kernel
theorem d_Model_view_18 : decode b_Model_view 18 = .ok (.iconst 1, 1) := by decide +kernel
theorem d_Model_view_19 : decode b_Model_view 19 = .ok (.invokevirtual 126, 3) := by decide +kernel
theorem d_Model_view_22 : decode b_Model_view 22 = .ok (.ireturn, 1) := by decide +kernel
theorem d_Model_view_23 : decode b_Model_view 23 = .ok (.aload_n 0, 1) := by decide +kernel
theorem d_Model_view_24 : decode b_Model_view 24 = .ok (.iconst 0, 1) := by decide +kernel
theorem d_Model_view_25 : decode b_Model_view 25 = .ok (.putfield 99, 3) := by decide +kernel
theorem d_Model_view_28 : decode b_Model_view 28 = .ok (.aload_n 0, 1) := by decide +kernel
theorem d_Model_view_29 : decode b_Model_view 29 = .ok (.getfield 102, 3) := by decide +kernel
theorem d_Model_view_32 : decode b_Model_view 32 = .ok (.istore_n 3, 1) := by decide +kernel
theorem d_Model_view_33 : decode b_Model_view 33 = .ok (.aload_n 0, 1) := by decide +kernel
theorem d_Model_view_34 : decode b_Model_view 34 = .ok (.iconst 0, 1) := by decide +kernel
theorem d_Model_view_35 : decode b_Model_view 35 = .ok (.putfield 102, 3) := by decide +kernel
theorem d_Model_view_38 : decode b_Model_view 38 = .ok (.aload_n 0, 1) := by decide +kernel
theorem d_Model_view_39 : decode b_Model_view 39 = .ok (.getfield 28, 3) := by decide +kernel
theorem d_Model_view_42 : decode b_Model_view 42 = .ok (.bipush 12, 2) := by decide +kernel
theorem d_Model_view_44 : decode b_Model_view 44 = .ok (.if_icmp .ne 5, 3) := by decide +kernel
theorem d_Model_view_47 : decode b_Model_view 47 = .ok (.iconst (-1), 1) := by decide +kernel
theorem d_Model_view_48 : decode b_Model_view 48 = .ok (.ireturn, 1) := by decide +kernel
theorem d_Model_view_49 : decode b_Model_view 49 = .ok (.aload_n 0, 1) := by decide +kernel
theorem d_Model_view_50 : decode b_Model_view 50 = .ok (.getfield 28, 3) := by decide +kernel
theorem d_Model_view_53 : decode b_Model_view 53 = .ok (.istore 4, 2) := by decide +kernel
theorem d_Model_view_55 : decode b_Model_view 55 = .ok (.aload_n 0, 1) := by decide +kernel
theorem d_Model_view_56 : decode b_Model_view 56 = .ok (.dup, 1) := by decide +kernel
theorem d_Model_view_57 : decode b_Model_view 57 = .ok (.getfield 28, 3) := by decide +kernel
theorem d_Model_view_60 : decode b_Model_view 60 = .ok (.iconst 1, 1) := by decide +kernel
theorem d_Model_view_61 : decode b_Model_view 61 = .ok (.iadd, 1) := by decide +kernel
theorem d_Model_view_62 : decode b_Model_view 62 = .ok (.putfield 28, 3) := by decide +kernel
theorem d_Model_view_65 : decode b_Model_view 65 = .ok (.aload_n 0, 1) := by decide +kernel
theorem d_Model_view_66 : decode b_Model_view 66 = .ok (.getfield 32, 3) := by decide +kernel
theorem d_Model_view_69 : decode b_Model_view 69 = .ok (.iload 4, 2) := by decide +kernel
theorem d_Model_view_71 : decode b_Model_view 71 = .ok (.iload_n 1, 1) := by decide +kernel
theorem d_Model_view_72 : decode b_Model_view 72 = .ok (.iastore, 1) := by decide +kernel
theorem d_Model_view_73 : decode b_Model_view 73 = .ok (.aload_n 0, 1) := by decide +kernel
theorem d_Model_view_74 : decode b_Model_view 74 = .ok (.getfield 35, 3) := by decide +kernel
theorem d_Model_view_77 : decode b_Model_view 77 = .ok (.iload 4, 2) := by decide +kernel
theorem d_Model_view_79 : decode b_Model_view 79 = .ok (.iload_n 2, 1) := by decide +kernel
theorem d_Model_view_80 : decode b_Model_view 80 = .ok (.iastore, 1) := by decide +kernel
theorem d_Model_view_81 : decode b_Model_view 81 = .ok (.aload_n 0, 1) := by decide +kernel
theorem d_Model_view_82 : decode b_Model_view 82 = .ok (.getfield 38, 3) := by decide +kernel
theorem d_Model_view_85 : decode b_Model_view 85 = .ok (.iload 4, 2) := by decide +kernel
theorem d_Model_view_87 : decode b_Model_view 87 = .ok (.iload_n 3, 1) := by decide +kernel
theorem d_Model_view_88 : decode b_Model_view 88 = .ok (.iastore, 1) := by decide +kernel
theorem d_Model_view_89 : decode b_Model_view 89 = .ok (.iconst 0, 1) := by decide +kernel
theorem d_Model_view_90 : decode b_Model_view 90 = .ok (.istore 5, 2) := by decide +kernel
theorem d_Model_view_92 : decode b_Model_view 92 = .ok (.iload 5, 2) := by decide +kernel
theorem d_Model_view_94 : decode b_Model_view 94 = .ok (.iload_n 3, 1) := by decide +kernel
theorem d_Model_view_95 : decode b_Model_view 95 = .ok (.if_icmp .ge 29, 3) := by decide +kernel
theorem d_Model_view_98 : decode b_Model_view 98 = .ok (.aload_n 0, 1) := by decide +kernel
theorem d_Model_view_99 : decode b_Model_view 99 = .ok (.getfield 41, 3) := by decide +kernel
theorem d_Model_view_102 : decode b_Model_view 102 = .ok (.bipush 8, 2) := by decide +kernel
theorem d_Model_view_104 : decode b_Model_view 104 = .ok (.iload 4, 2) := by decide +kernel
theorem d_Model_view_106 : decode b_Model_view 106 = .ok (.imul, 1) := by decide +kernel
theorem d_Model_view_107 : decode b_Model_view 107 = .ok (.iload 5, 2) := by decide +kernel
theorem d_Model_view_109 : decode b_Model_view 109 = .ok (.iadd, 1) := by decide +kernel
theorem d_Model_view_110 : decode b_Model_view 110 = .ok (.aload_n 0, 1) := by decide +kernel
theorem d_Model_view_111 : decode b_Model_view 111 = .ok (.getfield 7, 3) := by decide +kernel
theorem d_Model_view_114 : decode b_Model_view 114 = .ok (.iload 5, 2) := by decide +kernel
theorem d_Model_view_116 : decode b_Model_view 116 = .ok (.iaload, 1) := by decide +kernel
theorem d_Model_view_117 : decode b_Model_view 117 = .ok (.iastore, 1) := by decide +kernel
theorem d_Model_view_118 : decode b_Model_view 118 = .ok (.iinc 5 1, 3) := by decide +kernel
theorem d_Model_view_121 : decode b_Model_view 121 = .ok (.goto (-29), 3) := by decide +kernel
theorem d_Model_view_124 : decode b_Model_view 124 = .ok (.iload 4, 2) := by decide +kernel
theorem d_Model_view_126 : decode b_Model_view 126 = .ok (.ireturn, 1) := by decide +kernel
theorem d_Model_keyOf_0 : decode b_Model_keyOf 0 = .ok (.iconst 0, 1) := by decide +kernel
theorem d_Model_keyOf_1 : decode b_Model_keyOf 1 = .ok (.istore 5, 2) := by decide +kernel
theorem d_Model_keyOf_3 : decode b_Model_keyOf 3 = .ok (.iload 5, 2) := by decide +kernel
theorem d_Model_keyOf_5 : decode b_Model_keyOf 5 = .ok (.aload_n 0, 1) := by decide +kernel
theorem d_Model_keyOf_6 : decode b_Model_keyOf 6 = .ok (.getfield 13, 3) := by decide +kernel
theorem d_Model_keyOf_9 : decode b_Model_keyOf 9 = .ok (.iload_n 1, 1) := by decide +kernel
theorem d_Model_keyOf_10 : decode b_Model_keyOf 10 = .ok (.iaload, 1) := by decide +kernel
theorem d_Model_keyOf_11 : decode b_Model_keyOf 11 = .ok (.if_icmp .ge 35, 3) := by decide +kernel
theorem d_Model_keyOf_14 : decode b_Model_keyOf 14 = .ok (.aload_n 0, 1) := by decide +kernel
theorem d_Model_keyOf_15 : decode b_Model_keyOf 15 = .ok (.bipush 64, 2) := by decide +kernel
theorem d_Model_keyOf_17 : decode b_Model_keyOf 17 = .ok (.iload_n 1, 1) := by decide +kernel
theorem d_Model_keyOf_18 : decode b_Model_keyOf 18 = .ok (.imul, 1) := by decide +kernel
theorem d_Model_keyOf_19 : decode b_Model_keyOf 19 = .ok (.iload 5, 2) := by decide +kernel
theorem d_Model_keyOf_21 : decode b_Model_keyOf 21 = .ok (.iadd, 1) := by decide +kernel
theorem d_Model_keyOf_22 : decode b_Model_keyOf 22 = .ok (.aload_n 2, 1) := by decide +kernel
theorem d_Model_keyOf_23 : decode b_Model_keyOf 23 = .ok (.iload_n 3, 1) := by decide +kernel
theorem d_Model_keyOf_24 : decode b_Model_keyOf 24 = .ok (.iload 4, 2) := by decide +kernel
theorem d_Model_keyOf_26 : decode b_Model_keyOf 26 = .ok (.invokevirtual 129, 3) := by decide +kernel
theorem d_Model_keyOf_29 : decode b_Model_keyOf 29 = .ok (.ifCond .ne 11, 3) := by decide +kernel
theorem d_Model_keyOf_32 : decode b_Model_keyOf 32 = .ok (.bipush 64, 2) := by decide +kernel
theorem d_Model_keyOf_34 : decode b_Model_keyOf 34 = .ok (.iload_n 1, 1) := by decide +kernel
theorem d_Model_keyOf_35 : decode b_Model_keyOf 35 = .ok (.imul, 1) := by decide +kernel
theorem d_Model_keyOf_36 : decode b_Model_keyOf 36 = .ok (.iload 5, 2) := by decide +kernel
theorem d_Model_keyOf_38 : decode b_Model_keyOf 38 = .ok (.iadd, 1) := by decide +kernel
theorem d_Model_keyOf_39 : decode b_Model_keyOf 39 = .ok (.ireturn, 1) := by decide +kernel
theorem d_Model_keyOf_40 : decode b_Model_keyOf 40 = .ok (.iinc 5 1, 3) := by decide +kernel
theorem d_Model_keyOf_43 : decode b_Model_keyOf 43 = .ok (.goto (-40), 3) := by decide +kernel
theorem d_Model_keyOf_46 : decode b_Model_keyOf 46 = .ok (.iconst (-1), 1) := by decide +kernel
theorem d_Model_keyOf_47 : decode b_Model_keyOf 47 = .ok (.ireturn, 1) := by decide +kernel
theorem d_Model_clear_0 : decode b_Model_clear 0 = .ok (.bipush 64, 2) := by decide +kernel
theorem d_Model_clear_2 : decode b_Model_clear 2 = .ok (.iload_n 1, 1) := by decide +kernel
theorem d_Model_clear_3 : decode b_Model_clear 3 = .ok (.imul, 1) := by decide +kernel
theorem d_Model_clear_4 : decode b_Model_clear 4 = .ok (.aload_n 0, 1) := by decide +kernel
theorem d_Model_clear_5 : decode b_Model_clear 5 = .ok (.getfield 13, 3) := by decide +kernel
theorem d_Model_clear_8 : decode b_Model_clear 8 = .ok (.iload_n 1, 1) := by decide +kernel
theorem d_Model_clear_9 : decode b_Model_clear 9 = .ok (.iaload, 1) := by decide +kernel
theorem d_Model_clear_10 : decode b_Model_clear 10 = .ok (.iadd, 1) := by decide +kernel
theorem d_Model_clear_11 : decode b_Model_clear 11 = .ok (.iconst 1, 1) := by decide +kernel
theorem d_Model_clear_12 : decode b_Model_clear 12 = .ok (.isub, 1) := by decide +kernel
theorem d_Model_clear_13 : decode b_Model_clear 13 = .ok (.istore_n 3, 1) := by decide +kernel
theorem d_Model_clear_14 : decode b_Model_clear 14 = .ok (.iconst 0, 1) := by decide +kernel
theorem d_Model_clear_15 : decode b_Model_clear 15 = .ok (.istore 4, 2) := by decide +kernel
theorem d_Model_clear_17 : decode b_Model_clear 17 = .ok (.iload 4, 2) := by decide +kernel
theorem d_Model_clear_19 : decode b_Model_clear 19 = .ok (.bipush 8, 2) := by decide +kernel
theorem d_Model_clear_21 : decode b_Model_clear 21 = .ok (.if_icmp .ge 33, 3) := by decide +kernel
theorem d_Model_clear_24 : decode b_Model_clear 24 = .ok (.aload_n 0, 1) := by decide +kernel
theorem d_Model_clear_25 : decode b_Model_clear 25 = .ok (.getfield 19, 3) := by decide +kernel
theorem d_Model_clear_28 : decode b_Model_clear 28 = .ok (.bipush 8, 2) := by decide +kernel
theorem d_Model_clear_30 : decode b_Model_clear 30 = .ok (.iload_n 2, 1) := by decide +kernel
theorem d_Model_clear_31 : decode b_Model_clear 31 = .ok (.imul, 1) := by decide +kernel
theorem d_Model_clear_32 : decode b_Model_clear 32 = .ok (.iload 4, 2) := by decide +kernel
theorem d_Model_clear_34 : decode b_Model_clear 34 = .ok (.iadd, 1) := by decide +kernel
theorem d_Model_clear_35 : decode b_Model_clear 35 = .ok (.aload_n 0, 1) := by decide +kernel
theorem d_Model_clear_36 : decode b_Model_clear 36 = .ok (.getfield 19, 3) := by decide +kernel
theorem d_Model_clear_39 : decode b_Model_clear 39 = .ok (.bipush 8, 2) := by decide +kernel
theorem d_Model_clear_41 : decode b_Model_clear 41 = .ok (.iload_n 3, 1) := by decide +kernel
theorem d_Model_clear_42 : decode b_Model_clear 42 = .ok (.imul, 1) := by decide +kernel
theorem d_Model_clear_43 : decode b_Model_clear 43 = .ok (.iload 4, 2) := by decide +kernel
theorem d_Model_clear_45 : decode b_Model_clear 45 = .ok (.iadd, 1) := by decide +kernel
theorem d_Model_clear_46 : decode b_Model_clear 46 = .ok (.iaload, 1) := by decide +kernel
theorem d_Model_clear_47 : decode b_Model_clear 47 = .ok (.iastore, 1) := by decide +kernel
theorem d_Model_clear_48 : decode b_Model_clear 48 = .ok (.iinc 4 1, 3) := by decide +kernel
theorem d_Model_clear_51 : decode b_Model_clear 51 = .ok (.goto (-34), 3) := by decide +kernel
theorem d_Model_clear_54 : decode b_Model_clear 54 = .ok (.aload_n 0, 1) := by decide +kernel
theorem d_Model_clear_55 : decode b_Model_clear 55 = .ok (.getfield 22, 3) := by decide +kernel
theorem d_Model_clear_58 : decode b_Model_clear 58 = .ok (.iload_n 2, 1) := by decide +kernel
theorem d_Model_clear_59 : decode b_Model_clear 59 = .ok (.aload_n 0, 1) := by decide +kernel
theorem d_Model_clear_60 : decode b_Model_clear 60 = .ok (.getfield 22, 3) := by decide +kernel
theorem d_Model_clear_63 : decode b_Model_clear 63 = .ok (.iload_n 3, 1) := by decide +kernel
theorem d_Model_clear_64 : decode b_Model_clear 64 = .ok (.iaload, 1) := by decide +kernel
theorem d_Model_clear_65 : decode b_Model_clear 65 = .ok (.iastore, 1) := by decide +kernel
theorem d_Model_clear_66 : decode b_Model_clear 66 = .ok (.aload_n 0, 1) := by decide +kernel
theorem d_Model_clear_67 : decode b_Model_clear 67 = .ok (.getfield 25, 3) := by decide +kernel
theorem d_Model_clear_70 : decode b_Model_clear 70 = .ok (.iload_n 2, 1) := by decide +kernel
theorem d_Model_clear_71 : decode b_Model_clear 71 = .ok (.aload_n 0, 1) := by decide +kernel
theorem d_Model_clear_72 : decode b_Model_clear 72 = .ok (.getfield 25, 3) := by decide +kernel
theorem d_Model_clear_75 : decode b_Model_clear 75 = .ok (.iload_n 3, 1) := by decide +kernel
theorem d_Model_clear_76 : decode b_Model_clear 76 = .ok (.iaload, 1) := by decide +kernel
theorem d_Model_clear_77 : decode b_Model_clear 77 = .ok (.iastore, 1) := by decide +kernel
theorem d_Model_clear_78 : decode b_Model_clear 78 = .ok (.aload_n 0, 1) := by decide +kernel
theorem d_Model_clear_79 : decode b_Model_clear 79 = .ok (.getfield 13, 3) := by decide +kernel
theorem d_Model_clear_82 : decode b_Model_clear 82 = .ok (.iload_n 1, 1) := by decide +kernel
theorem d_Model_clear_83 : decode b_Model_clear 83 = .ok (.dup2, 1) := by decide +kernel
theorem d_Model_clear_84 : decode b_Model_clear 84 = .ok (.iaload, 1) := by decide +kernel
theorem d_Model_clear_85 : decode b_Model_clear 85 = .ok (.iconst 1, 1) := by decide +kernel
theorem d_Model_clear_86 : decode b_Model_clear 86 = .ok (.isub, 1) := by decide +kernel
theorem d_Model_clear_87 : decode b_Model_clear 87 = .ok (.iastore, 1) := by decide +kernel
theorem d_Model_clear_88 : decode b_Model_clear 88 = .ok (.aload_n 0, 1) := by decide +kernel
theorem d_Model_clear_89 : decode b_Model_clear 89 = .ok (.getfield 16, 3) := by decide +kernel
theorem d_Model_clear_92 : decode b_Model_clear 92 = .ok (.iload_n 1, 1) := by decide +kernel
theorem d_Model_clear_93 : decode b_Model_clear 93 = .ok (.dup2, 1) := by decide +kernel
theorem d_Model_clear_94 : decode b_Model_clear 94 = .ok (.iaload, 1) := by decide +kernel
theorem d_Model_clear_95 : decode b_Model_clear 95 = .ok (.iconst 1, 1) := by decide +kernel
theorem d_Model_clear_96 : decode b_Model_clear 96 = .ok (.iadd, 1) := by decide +kernel
theorem d_Model_clear_97 : decode b_Model_clear 97 = .ok (.iastore, 1) := by decide +kernel
theorem d_Model_clear_98 : decode b_Model_clear 98 = .ok (.return_, 1) := by decide +kernel
theorem d_Model_put_0 : decode b_Model_put 0 = .ok (.aload_n 0, 1) := by decide +kernel
theorem d_Model_put_1 : decode b_Model_put 1 = .ok (.iload_n 1, 1) := by decide +kernel
theorem d_Model_put_2 : decode b_Model_put 2 = .ok (.invokevirtual 122, 3) := by decide +kernel
theorem d_Model_put_5 : decode b_Model_put 5 = .ok (.ifCond .ne 9, 3) := by decide +kernel
theorem d_Model_put_8 : decode b_Model_put 8 = .ok (.aload_n 0, 1) := by decide +kernel
theorem d_Model_put_9 : decode b_Model_put 9 = .ok (.iconst 1, 1) := by decide +kernel
theorem d_Model_put_10 : decode b_Model_put 10 = .ok (.invokevirtual 126, 3) := by decide +kernel
theorem d_Model_put_13 : decode b_Model_put 13 = .ok (.ireturn, 1) := by decide +kernel
theorem d_Model_put_14 : decode b_Model_put 14 = .ok (.aload_n 0, 1) := by decide +kernel
theorem d_Model_put_15 : decode b_Model_put 15 = .ok (.getfield 102, 3) := by decide +kernel
theorem d_Model_put_18 : decode b_Model_put 18 = .ok (.istore_n 3, 1) := by decide +kernel
theorem d_Model_put_19 : decode b_Model_put 19 = .ok (.aload_n 0, 1) := by decide +kernel
theorem d_Model_put_20 : decode b_Model_put 20 = .ok (.iconst 0, 1) := by decide +kernel
theorem d_Model_put_21 : decode b_Model_put 21 = .ok (.putfield 102, 3) := by decide +kernel
theorem d_Model_put_24 : decode b_Model_put 24 = .ok (.iload_n 2, 1) := by decide +kernel
theorem d_Model_put_25 : decode b_Model_put 25 = .ok (.ifCond .lt 17, 3) := by decide +kernel
theorem d_Model_put_28 : decode b_Model_put 28 = .ok (.aload_n 0, 1) := by decide +kernel
theorem d_Model_put_29 : decode b_Model_put 29 = .ok (.iload_n 1, 1) := by decide +kernel
theorem d_Model_put_30 : decode b_Model_put 30 = .ok (.aload_n 0, 1) := by decide +kernel
theorem d_Model_put_31 : decode b_Model_put 31 = .ok (.getfield 7, 3) := by decide +kernel
theorem d_Model_put_34 : decode b_Model_put 34 = .ok (.iconst 0, 1) := by decide +kernel
theorem d_Model_put_35 : decode b_Model_put 35 = .ok (.iload_n 3, 1) := by decide +kernel
theorem d_Model_put_36 : decode b_Model_put 36 = .ok (.invokevirtual 118, 3) := by decide +kernel
theorem d_Model_put_39 : decode b_Model_put 39 = .ok (.ifCond .ne 9, 3) := by decide +kernel
theorem d_Model_put_42 : decode b_Model_put 42 = .ok (.aload_n 0, 1) := by decide +kernel
theorem d_Model_put_43 : decode b_Model_put 43 = .ok (.iconst 2, 1) := by decide +kernel
theorem d_Model_put_44 : decode b_Model_put 44 = .ok (.invokevirtual 126, 3) := by decide +kernel
theorem d_Model_put_47 : decode b_Model_put 47 = .ok (.ireturn, 1) := by decide +kernel
theorem d_Model_put_48 : decode b_Model_put 48 = .ok (.aload_n 0, 1) := by decide +kernel
theorem d_Model_put_49 : decode b_Model_put 49 = .ok (.iload_n 1, 1) := by decide +kernel
theorem d_Model_put_50 : decode b_Model_put 50 = .ok (.invokevirtual 114, 3) := by decide +kernel
theorem d_Model_put_53 : decode b_Model_put 53 = .ok (.istore 4, 2) := by decide +kernel
theorem d_Model_put_55 : decode b_Model_put 55 = .ok (.aload_n 0, 1) := by decide +kernel
theorem d_Model_put_56 : decode b_Model_put 56 = .ok (.iload 4, 2) := by decide +kernel
theorem d_Model_put_58 : decode b_Model_put 58 = .ok (.aload_n 0, 1) := by decide +kernel
theorem d_Model_put_59 : decode b_Model_put 59 = .ok (.getfield 7, 3) := by decide +kernel
theorem d_Model_put_62 : decode b_Model_put 62 = .ok (.iconst 0, 1) := by decide +kernel
theorem d_Model_put_63 : decode b_Model_put 63 = .ok (.iload_n 3, 1) := by decide +kernel
theorem d_Model_put_64 : decode b_Model_put 64 = .ok (.invokevirtual 133, 3) := by decide +kernel
theorem d_Model_put_67 : decode b_Model_put 67 = .ok (.istore 5, 2) := by decide +kernel
theorem d_Model_put_69 : decode b_Model_put 69 = .ok (.iload 5, 2) := by decide +kernel
theorem d_Model_put_71 : decode b_Model_put 71 = .ok (.iconst (-1), 1) := by decide +kernel
theorem d_Model_put_72 : decode b_Model_put 72 = .ok (.if_icmp .ne 21, 3) := by decide +kernel
theorem d_Model_put_75 : decode b_Model_put 75 = .ok (.aload_n 0, 1) := by decide +kernel
theorem d_Model_put_76 : decode b_Model_put 76 = .ok (.getfield 13, 3) := by decide +kernel
theorem d_Model_put_79 : decode b_Model_put 79 = .ok (.iload 4, 2) := by decide +kernel
theorem d_Model_put_81 : decode b_Model_put 81 = .ok (.iaload, 1) := by decide +kernel
theorem d_Model_put_82 : decode b_Model_put 82 = .ok (.bipush 64, 2) := by decide +kernel
theorem d_Model_put_84 : decode b_Model_put 84 = .ok (.if_icmp .ne 9, 3) := by decide +kernel
theorem d_Model_put_87 : decode b_Model_put 87 = .ok (.aload_n 0, 1) := by decide +kernel
theorem d_Model_put_88 : decode b_Model_put 88 = .ok (.iconst 3, 1) := by decide +kernel
theorem d_Model_put_89 : decode b_Model_put 89 = .ok (.invokevirtual 126, 3) := by decide +kernel
theorem d_Model_put_92 : decode b_Model_put 92 = .ok (.ireturn, 1) := by decide +kernel
theorem d_Model_put_93 : decode b_Model_put 93 = .ok (.aload_n 0, 1) := by decide +kernel
theorem d_Model_put_94 : decode b_Model_put 94 = .ok (.iconst 0, 1) := by decide +kernel
theorem d_Model_put_95 : decode b_Model_put 95 = .ok (.putfield 99, 3) := by decide +kernel
theorem d_Model_put_98 : decode b_Model_put 98 = .ok (.iload 5, 2) := by decide +kernel
theorem d_Model_put_100 : decode b_Model_put 100 = .ok (.iconst (-1), 1) := by decide +kernel
theorem d_Model_put_101 : decode b_Model_put 101 = .ok (.if_icmp .eq 23, 3) := by decide +kernel
theorem d_Model_put_104 : decode b_Model_put 104 = .ok (.aload_n 0, 1) := by decide +kernel
theorem d_Model_put_105 : decode b_Model_put 105 = .ok (.getfield 25, 3) := by decide +kernel
theorem d_Model_put_108 : decode b_Model_put 108 = .ok (.iload 5, 2) := by decide +kernel
theorem d_Model_put_110 : decode b_Model_put 110 = .ok (.iaload, 1) := by decide +kernel
theorem d_Model_put_111 : decode b_Model_put 111 = .ok (.istore 6, 2) := by decide +kernel
theorem d_Model_put_113 : decode b_Model_put 113 = .ok (.aload_n 0, 1) := by decide +kernel
theorem d_Model_put_114 : decode b_Model_put 114 = .ok (.getfield 25, 3) := by decide +kernel
theorem d_Model_put_117 : decode b_Model_put 117 = .ok (.iload 5, 2) := by decide +kernel
theorem d_Model_put_119 : decode b_Model_put 119 = .ok (.iload_n 2, 1) := by decide +kernel
theorem d_Model_put_120 : decode b_Model_put 120 = .ok (.iastore, 1) := by decide +kernel
theorem d_Model_put_121 : decode b_Model_put 121 = .ok (.iload 6, 2) := by decide +kernel
theorem d_Model_put_123 : decode b_Model_put 123 = .ok (.ireturn, 1) := by decide +kernel
theorem d_Model_put_124 : decode b_Model_put 124 = .ok (.bipush 64, 2) := by decide +kernel
theorem d_Model_put_126 : decode b_Model_put 126 = .ok (.iload 4, 2) := by decide +kernel
theorem d_Model_put_128 : decode b_Model_put 128 = .ok (.imul, 1) := by decide +kernel
theorem d_Model_put_129 : decode b_Model_put 129 = .ok (.aload_n 0, 1) := by decide +kernel
theorem d_Model_put_130 : decode b_Model_put 130 = .ok (.getfield 13, 3) := by decide +kernel
theorem d_Model_put_133 : decode b_Model_put 133 = .ok (.iload 4, 2) := by decide +kernel
theorem d_Model_put_135 : decode b_Model_put 135 = .ok (.iaload, 1) := by decide +kernel
theorem d_Model_put_136 : decode b_Model_put 136 = .ok (.iadd, 1) := by decide +kernel
theorem d_Model_put_137 : decode b_Model_put 137 = .ok (.istore 5, 2) := by decide +kernel
theorem d_Model_put_139 : decode b_Model_put 139 = .ok (.iconst 0, 1) := by decide +kernel
theorem d_Model_put_140 : decode b_Model_put 140 = .ok (.istore 6, 2) := by decide +kernel
theorem d_Model_put_142 : decode b_Model_put 142 = .ok (.iload 6, 2) := by decide +kernel
theorem d_Model_put_144 : decode b_Model_put 144 = .ok (.iload_n 3, 1) := by decide +kernel
theorem d_Model_put_145 : decode b_Model_put 145 = .ok (.if_icmp .ge 29, 3) := by decide +kernel
theorem d_Model_put_148 : decode b_Model_put 148 = .ok (.aload_n 0, 1) := by decide +kernel
theorem d_Model_put_149 : decode b_Model_put 149 = .ok (.getfield 19, 3) := by decide +kernel
theorem d_Model_put_152 : decode b_Model_put 152 = .ok (.bipush 8, 2) := by decide +kernel
theorem d_Model_put_154 : decode b_Model_put 154 = .ok (.iload 5, 2) := by decide +kernel
theorem d_Model_put_156 : decode b_Model_put 156 = .ok (.imul, 1) := by decide +kernel
theorem d_Model_put_157 : decode b_Model_put 157 = .ok (.iload 6, 2) := by decide +kernel
theorem d_Model_put_159 : decode b_Model_put 159 = .ok (.iadd, 1) := by decide +kernel
theorem d_Model_put_160 : decode b_Model_put 160 = .ok (.aload_n 0, 1) := by decide +kernel
theorem d_Model_put_161 : decode b_Model_put 161 = .ok (.getfield 7, 3) := by decide +kernel
theorem d_Model_put_164 : decode b_Model_put 164 = .ok (.iload 6, 2) := by decide +kernel
theorem d_Model_put_166 : decode b_Model_put 166 = .ok (.iaload, 1) := by decide +kernel
theorem d_Model_put_167 : decode b_Model_put 167 = .ok (.iastore, 1) := by decide +kernel
theorem d_Model_put_168 : decode b_Model_put 168 = .ok (.iinc 6 1, 3) := by decide +kernel
theorem d_Model_put_171 : decode b_Model_put 171 = .ok (.goto (-29), 3) := by decide +kernel
theorem d_Model_put_174 : decode b_Model_put 174 = .ok (.aload_n 0, 1) := by decide +kernel
theorem d_Model_put_175 : decode b_Model_put 175 = .ok (.getfield 22, 3) := by decide +kernel
theorem d_Model_put_178 : decode b_Model_put 178 = .ok (.iload 5, 2) := by decide +kernel
theorem d_Model_put_180 : decode b_Model_put 180 = .ok (.iload_n 3, 1) := by decide +kernel
theorem d_Model_put_181 : decode b_Model_put 181 = .ok (.iastore, 1) := by decide +kernel
theorem d_Model_put_182 : decode b_Model_put 182 = .ok (.aload_n 0, 1) := by decide +kernel
theorem d_Model_put_183 : decode b_Model_put 183 = .ok (.getfield 25, 3) := by decide +kernel
theorem d_Model_put_186 : decode b_Model_put 186 = .ok (.iload 5, 2) := by decide +kernel
theorem d_Model_put_188 : decode b_Model_put 188 = .ok (.iload_n 2, 1) := by decide +kernel
theorem d_Model_put_189 : decode b_Model_put 189 = .ok (.iastore, 1) := by decide +kernel
theorem d_Model_put_190 : decode b_Model_put 190 = .ok (.aload_n 0, 1) := by decide +kernel
theorem d_Model_put_191 : decode b_Model_put 191 = .ok (.getfield 13, 3) := by decide +kernel
theorem d_Model_put_194 : decode b_Model_put 194 = .ok (.iload 4, 2) := by decide +kernel
theorem d_Model_put_196 : decode b_Model_put 196 = .ok (.dup2, 1) := by decide +kernel
theorem d_Model_put_197 : decode b_Model_put 197 = .ok (.iaload, 1) := by decide +kernel
theorem d_Model_put_198 : decode b_Model_put 198 = .ok (.iconst 1, 1) := by decide +kernel
theorem d_Model_put_199 : decode b_Model_put 199 = .ok (.iadd, 1) := by decide +kernel
theorem d_Model_put_200 : decode b_Model_put 200 = .ok (.iastore, 1) := by decide +kernel
theorem d_Model_put_201 : decode b_Model_put 201 = .ok (.aload_n 0, 1) := by decide +kernel
theorem d_Model_put_202 : decode b_Model_put 202 = .ok (.getfield 16, 3) := by decide +kernel
theorem d_Model_put_205 : decode b_Model_put 205 = .ok (.iload 4, 2) := by decide +kernel
theorem d_Model_put_207 : decode b_Model_put 207 = .ok (.dup2, 1) := by decide +kernel
theorem d_Model_put_208 : decode b_Model_put 208 = .ok (.iaload, 1) := by decide +kernel
theorem d_Model_put_209 : decode b_Model_put 209 = .ok (.iconst 1, 1) := by decide +kernel
theorem d_Model_put_210 : decode b_Model_put 210 = .ok (.iadd, 1) := by decide +kernel
theorem d_Model_put_211 : decode b_Model_put 211 = .ok (.iastore, 1) := by decide +kernel
theorem d_Model_put_212 : decode b_Model_put 212 = .ok (.iconst (-1), 1) := by decide +kernel
theorem d_Model_put_213 : decode b_Model_put 213 = .ok (.ireturn, 1) := by decide +kernel
theorem d_Model_used_0 : decode b_Model_used 0 = .ok (.aload_n 0, 1) := by decide +kernel
theorem d_Model_used_1 : decode b_Model_used 1 = .ok (.getfield 102, 3) := by decide +kernel
theorem d_Model_used_4 : decode b_Model_used 4 = .ok (.istore_n 2, 1) := by decide +kernel
theorem d_Model_used_5 : decode b_Model_used 5 = .ok (.aload_n 0, 1) := by decide +kernel
theorem d_Model_used_6 : decode b_Model_used 6 = .ok (.iconst 0, 1) := by decide +kernel
theorem d_Model_used_7 : decode b_Model_used 7 = .ok (.putfield 102, 3) := by decide +kernel
theorem d_Model_used_10 : decode b_Model_used 10 = .ok (.aload_n 0, 1) := by decide +kernel
theorem d_Model_used_11 : decode b_Model_used 11 = .ok (.iload_n 1, 1) := by decide +kernel
theorem d_Model_used_12 : decode b_Model_used 12 = .ok (.aload_n 0, 1) := by decide +kernel
theorem d_Model_used_13 : decode b_Model_used 13 = .ok (.getfield 7, 3) := by decide +kernel
theorem d_Model_used_16 : decode b_Model_used 16 = .ok (.iconst 0, 1) := by decide +kernel
theorem d_Model_used_17 : decode b_Model_used 17 = .ok (.iload_n 2, 1) := by decide +kernel
theorem d_Model_used_18 : decode b_Model_used 18 = .ok (.invokevirtual 118, 3) := by decide +kernel
theorem d_Model_used_21 : decode b_Model_used 21 = .ok (.ifCond .eq 21, 3) := by decide +kernel
theorem d_Model_used_24 : decode b_Model_used 24 = .ok (.aload_n 0, 1) := by decide +kernel
theorem d_Model_used_25 : decode b_Model_used 25 = .ok (.aload_n 0, 1) := by decide +kernel
theorem d_Model_used_26 : decode b_Model_used 26 = .ok (.iload_n 1, 1) := by decide +kernel
theorem d_Model_used_27 : decode b_Model_used 27 = .ok (.invokevirtual 114, 3) := by decide +kernel
theorem d_Model_used_30 : decode b_Model_used 30 = .ok (.aload_n 0, 1) := by decide +kernel
theorem d_Model_used_31 : decode b_Model_used 31 = .ok (.getfield 7, 3) := by decide +kernel
theorem d_Model_used_34 : decode b_Model_used 34 = .ok (.iconst 0, 1) := by decide +kernel
theorem d_Model_used_35 : decode b_Model_used 35 = .ok (.iload_n 2, 1) := by decide +kernel
theorem d_Model_used_36 : decode b_Model_used 36 = .ok (.invokevirtual 133, 3) := by decide +kernel
theorem d_Model_used_39 : decode b_Model_used 39 = .ok (.goto 4, 3) := by decide +kernel
theorem d_Model_used_42 : decode b_Model_used 42 = .ok (.iconst (-1), 1) := by decide +kernel
theorem d_Model_used_43 : decode b_Model_used 43 = .ok (.ireturn, 1) := by decide +kernel
theorem d_Model_get_0 : decode b_Model_get 0 = .ok (.aload_n 0, 1) := by decide +kernel
theorem d_Model_get_1 : decode b_Model_get 1 = .ok (.iload_n 1, 1) := by decide +kernel
theorem d_Model_get_2 : decode b_Model_get 2 = .ok (.invokevirtual 122, 3) := by decide +kernel
theorem d_Model_get_5 : decode b_Model_get 5 = .ok (.ifCond .ne 9, 3) := by decide +kernel
theorem d_Model_get_8 : decode b_Model_get 8 = .ok (.aload_n 0, 1) := by decide +kernel
theorem d_Model_get_9 : decode b_Model_get 9 = .ok (.iconst 1, 1) := by decide +kernel
theorem d_Model_get_10 : decode b_Model_get 10 = .ok (.invokevirtual 126, 3) := by decide +kernel
theorem d_Model_get_13 : decode b_Model_get 13 = .ok (.ireturn, 1) := by decide +kernel
theorem d_Model_get_14 : decode b_Model_get 14 = .ok (.aload_n 0, 1) := by decide +kernel
theorem d_Model_get_15 : decode b_Model_get 15 = .ok (.iconst 0, 1) := by decide +kernel
theorem d_Model_get_16 : decode b_Model_get 16 = .ok (.putfield 99, 3) := by decide +kernel
theorem d_Model_get_19 : decode b_Model_get 19 = .ok (.aload_n 0, 1) := by decide +kernel
theorem d_Model_get_20 : decode b_Model_get 20 = .ok (.iload_n 1, 1) := by decide +kernel
theorem d_Model_get_21 : decode b_Model_get 21 = .ok (.invokevirtual 136, 3) := by decide +kernel
theorem d_Model_get_24 : decode b_Model_get 24 = .ok (.istore_n 2, 1) := by decide +kernel
theorem d_Model_get_25 : decode b_Model_get 25 = .ok (.iload_n 2, 1) := by decide +kernel
theorem d_Model_get_26 : decode b_Model_get 26 = .ok (.iconst (-1), 1) := by decide +kernel
theorem d_Model_get_27 : decode b_Model_get 27 = .ok (.if_icmp .ne 7, 3) := by decide +kernel
theorem d_Model_get_30 : decode b_Model_get 30 = .ok (.iconst (-1), 1) := by decide +kernel
theorem d_Model_get_31 : decode b_Model_get 31 = .ok (.goto 9, 3) := by decide +kernel
theorem d_Model_get_34 : decode b_Model_get 34 = .ok (.aload_n 0, 1) := by decide +kernel
theorem d_Model_get_35 : decode b_Model_get 35 = .ok (.getfield 25, 3) := by decide +kernel
theorem d_Model_get_38 : decode b_Model_get 38 = .ok (.iload_n 2, 1) := by decide +kernel
theorem d_Model_get_39 : decode b_Model_get 39 = .ok (.iaload, 1) := by decide +kernel
theorem d_Model_get_40 : decode b_Model_get 40 = .ok (.ireturn, 1) := by decide +kernel
theorem d_Model_remove_0 : decode b_Model_remove 0 = .ok (.aload_n 0, 1) := by decide +kernel
theorem d_Model_remove_1 : decode b_Model_remove 1 = .ok (.iload_n 1, 1) := by decide +kernel
theorem d_Model_remove_2 : decode b_Model_remove 2 = .ok (.invokevirtual 122, 3) := by decide +kernel
theorem d_Model_remove_5 : decode b_Model_remove 5 = .ok (.ifCond .ne 9, 3) := by decide +kernel
theorem d_Model_remove_8 : decode b_Model_remove 8 = .ok (.aload_n 0, 1) := by decide +kernel
theorem d_Model_remove_9 : decode b_Model_remove 9 = .ok (.iconst 1, 1) := by decide +kernel
theorem d_Model_remove_10 : decode b_Model_remove 10 = .ok (.invokevirtual 126, 3) := by decide +kernel
theorem d_Model_remove_13 : decode b_Model_remove 13 = .ok (.ireturn, 1) := by decide +kernel
theorem d_Model_remove_14 : decode b_Model_remove 14 = .ok (.aload_n 0, 1) := by decide +kernel
theorem d_Model_remove_15 : decode b_Model_remove 15 = .ok (.iconst 0, 1) := by decide +kernel
theorem d_Model_remove_16 : decode b_Model_remove 16 = .ok (.putfield 99, 3) := by decide +kernel
theorem d_Model_remove_19 : decode b_Model_remove 19 = .ok (.aload_n 0, 1) := by decide +kernel
theorem d_Model_remove_20 : decode b_Model_remove 20 = .ok (.iload_n 1, 1) := by decide +kernel
theorem d_Model_remove_21 : decode b_Model_remove 21 = .ok (.invokevirtual 136, 3) := by decide +kernel
theorem d_Model_remove_24 : decode b_Model_remove 24 = .ok (.istore_n 2, 1) := by decide +kernel
theorem d_Model_remove_25 : decode b_Model_remove 25 = .ok (.iload_n 2, 1) := by decide +kernel
theorem d_Model_remove_26 : decode b_Model_remove 26 = .ok (.iconst (-1), 1) := by decide +kernel
theorem d_Model_remove_27 : decode b_Model_remove 27 = .ok (.if_icmp .ne 5, 3) := by decide +kernel
theorem d_Model_remove_30 : decode b_Model_remove 30 = .ok (.iconst (-1), 1) := by decide +kernel
theorem d_Model_remove_31 : decode b_Model_remove 31 = .ok (.ireturn, 1) := by decide +kernel
theorem d_Model_remove_32 : decode b_Model_remove 32 = .ok (.aload_n 0, 1) := by decide +kernel
theorem d_Model_remove_33 : decode b_Model_remove 33 = .ok (.getfield 25, 3) := by decide +kernel
theorem d_Model_remove_36 : decode b_Model_remove 36 = .ok (.iload_n 2, 1) := by decide +kernel
theorem d_Model_remove_37 : decode b_Model_remove 37 = .ok (.iaload, 1) := by decide +kernel
theorem d_Model_remove_38 : decode b_Model_remove 38 = .ok (.istore_n 3, 1) := by decide +kernel
theorem d_Model_remove_39 : decode b_Model_remove 39 = .ok (.aload_n 0, 1) := by decide +kernel
theorem d_Model_remove_40 : decode b_Model_remove 40 = .ok (.aload_n 0, 1) := by decide +kernel
theorem d_Model_remove_41 : decode b_Model_remove 41 = .ok (.iload_n 1, 1) := by decide +kernel
theorem d_Model_remove_42 : decode b_Model_remove 42 = .ok (.invokevirtual 114, 3) := by decide +kernel
theorem d_Model_remove_45 : decode b_Model_remove 45 = .ok (.iload_n 2, 1) := by decide +kernel
theorem d_Model_remove_46 : decode b_Model_remove 46 = .ok (.invokevirtual 139, 3) := by decide +kernel
theorem d_Model_remove_49 : decode b_Model_remove 49 = .ok (.iload_n 3, 1) := by decide +kernel
theorem d_Model_remove_50 : decode b_Model_remove 50 = .ok (.ireturn, 1) := by decide +kernel
theorem d_Model_size_0 : decode b_Model_size 0 = .ok (.aload_n 0, 1) := by decide +kernel
theorem d_Model_size_1 : decode b_Model_size 1 = .ok (.iconst 0, 1) := by decide +kernel
theorem d_Model_size_2 : decode b_Model_size 2 = .ok (.putfield 99, 3) := by decide +kernel
theorem d_Model_size_5 : decode b_Model_size 5 = .ok (.aload_n 0, 1) := by decide +kernel
theorem d_Model_size_6 : decode b_Model_size 6 = .ok (.iload_n 1, 1) := by decide +kernel
theorem d_Model_size_7 : decode b_Model_size 7 = .ok (.invokevirtual 122, 3) := by decide +kernel
theorem d_Model_size_10 : decode b_Model_size 10 = .ok (.ifCond .ne 5, 3) := by decide +kernel
theorem d_Model_size_13 : decode b_Model_size 13 = .ok (.iconst (-1), 1) := by decide +kernel
theorem d_Model_size_14 : decode b_Model_size 14 = .ok (.ireturn, 1) := by decide +kernel
theorem d_Model_size_15 : decode b_Model_size 15 = .ok (.iconst 0, 1) := by decide +kernel
theorem d_Model_size_16 : decode b_Model_size 16 = .ok (.istore_n 2, 1) := by decide +kernel
theorem d_Model_size_17 : decode b_Model_size 17 = .ok (.iconst 0, 1) := by decide +kernel
theorem d_Model_size_18 : decode b_Model_size 18 = .ok (.istore_n 3, 1) := by decide +kernel
theorem d_Model_size_19 : decode b_Model_size 19 = .ok (.iload_n 3, 1) := by decide +kernel
theorem d_Model_size_20 : decode b_Model_size 20 = .ok (.aload_n 0, 1) := by decide +kernel
theorem d_Model_size_21 : decode b_Model_size 21 = .ok (.getfield 13, 3) := by decide +kernel
theorem d_Model_size_24 : decode b_Model_size 24 = .ok (.aload_n 0, 1) := by decide +kernel
theorem d_Model_size_25 : decode b_Model_size 25 = .ok (.iload_n 1, 1) := by decide +kernel
theorem d_Model_size_26 : decode b_Model_size 26 = .ok (.invokevirtual 114, 3) := by decide +kernel
theorem d_Model_size_29 : decode b_Model_size 29 = .ok (.iaload, 1) := by decide +kernel
theorem d_Model_size_30 : decode b_Model_size 30 = .ok (.if_icmp .ge 26, 3) := by decide +kernel
theorem d_Model_size_33 : decode b_Model_size 33 = .ok (.iload_n 2, 1) := by decide +kernel
theorem d_Model_size_34 : decode b_Model_size 34 = .ok (.aload_n 0, 1) := by decide +kernel
theorem d_Model_size_35 : decode b_Model_size 35 = .ok (.iload_n 1, 1) := by decide +kernel
theorem d_Model_size_36 : decode b_Model_size 36 = .ok (.iload_n 3, 1) := by decide +kernel
theorem d_Model_size_37 : decode b_Model_size 37 = .ok (.invokevirtual 143, 3) := by decide +kernel
theorem d_Model_size_40 : decode b_Model_size 40 = .ok (.ifCond .eq 7, 3) := by decide +kernel
theorem d_Model_size_43 : decode b_Model_size 43 = .ok (.iconst 1, 1) := by decide +kernel
theorem d_Model_size_44 : decode b_Model_size 44 = .ok (.goto 4, 3) := by decide +kernel
theorem d_Model_size_47 : decode b_Model_size 47 = .ok (.iconst 0, 1) := by decide +kernel
theorem d_Model_size_48 : decode b_Model_size 48 = .ok (.iadd, 1) := by decide +kernel
theorem d_Model_size_49 : decode b_Model_size 49 = .ok (.istore_n 2, 1) := by decide +kernel
theorem d_Model_size_50 : decode b_Model_size 50 = .ok (.iinc 3 1, 3) := by decide +kernel
theorem d_Model_size_53 : decode b_Model_size 53 = .ok (.goto (-34), 3) := by decide +kernel
theorem d_Model_size_56 : decode b_Model_size 56 = .ok (.iload_n 2, 1) := by decide +kernel
theorem d_Model_size_57 : decode b_Model_size 57 = .ok (.ireturn, 1) := by decide +kernel
theorem d_Model_side_0 : decode b_Model_side 0 = .ok (.aload_n 0, 1) := by decide +kernel
theorem d_Model_side_1 : decode b_Model_side 1 = .ok (.iload_n 1, 1) := by decide +kernel
theorem d_Model_side_2 : decode b_Model_side 2 = .ok (.invokevirtual 147, 3) := by decide +kernel
theorem d_Model_side_5 : decode b_Model_side 5 = .ok (.ifCond .eq 17, 3) := by decide +kernel
theorem d_Model_side_8 : decode b_Model_side 8 = .ok (.aload_n 0, 1) := by decide +kernel
theorem d_Model_side_9 : decode b_Model_side 9 = .ok (.iload_n 2, 1) := by decide +kernel
theorem d_Model_side_10 : decode b_Model_side 10 = .ok (.aload_n 3, 1) := by decide +kernel
theorem d_Model_side_11 : decode b_Model_side 11 = .ok (.iload 4, 2) := by decide +kernel
theorem d_Model_side_13 : decode b_Model_side 13 = .ok (.iload 5, 2) := by decide +kernel
theorem d_Model_side_15 : decode b_Model_side 15 = .ok (.invokevirtual 129, 3) := by decide +kernel
theorem d_Model_side_18 : decode b_Model_side 18 = .ok (.ineg, 1) := by decide +kernel
theorem d_Model_side_19 : decode b_Model_side 19 = .ok (.goto 13, 3) := by decide +kernel
theorem d_Model_side_22 : decode b_Model_side 22 = .ok (.aload_n 0, 1) := by decide +kernel
theorem d_Model_side_23 : decode b_Model_side 23 = .ok (.iload_n 2, 1) := by decide +kernel
theorem d_Model_side_24 : decode b_Model_side 24 = .ok (.aload_n 3, 1) := by decide +kernel
theorem d_Model_side_25 : decode b_Model_side 25 = .ok (.iload 4, 2) := by decide +kernel
theorem d_Model_side_27 : decode b_Model_side 27 = .ok (.iload 5, 2) := by decide +kernel
theorem d_Model_side_29 : decode b_Model_side 29 = .ok (.invokevirtual 129, 3) := by decide +kernel
theorem d_Model_side_32 : decode b_Model_side 32 = .ok (.ireturn, 1) := by decide +kernel
theorem d_Model_nearest_0 : decode b_Model_nearest 0 = .ok (.aload_n 0, 1) := by decide +kernel
theorem d_Model_nearest_1 : decode b_Model_nearest 1 = .ok (.iload_n 1, 1) := by decide +kernel
theorem d_Model_nearest_2 : decode b_Model_nearest 2 = .ok (.invokevirtual 114, 3) := by decide +kernel
theorem d_Model_nearest_5 : decode b_Model_nearest 5 = .ok (.istore 7, 2) := by decide +kernel
theorem d_Model_nearest_7 : decode b_Model_nearest 7 = .ok (.iconst (-1), 1) := by decide +kernel
theorem d_Model_nearest_8 : decode b_Model_nearest 8 = .ok (.istore 8, 2) := by decide +kernel
theorem d_Model_nearest_10 : decode b_Model_nearest 10 = .ok (.iconst 0, 1) := by decide +kernel
theorem d_Model_nearest_11 : decode b_Model_nearest 11 = .ok (.istore 9, 2) := by decide +kernel
theorem d_Model_nearest_13 : decode b_Model_nearest 13 = .ok (.iload 9, 2) := by decide +kernel
theorem d_Model_nearest_15 : decode b_Model_nearest 15 = .ok (.aload_n 0, 1) := by decide +kernel
theorem d_Model_nearest_16 : decode b_Model_nearest 16 = .ok (.getfield 13, 3) := by decide +kernel
theorem d_Model_nearest_19 : decode b_Model_nearest 19 = .ok (.iload 7, 2) := by decide +kernel
theorem d_Model_nearest_21 : decode b_Model_nearest 21 = .ok (.iaload, 1) := by decide +kernel
theorem d_Model_nearest_22 : decode b_Model_nearest 22 = .ok (.if_icmp .ge 156, 3) := by decide +kernel
theorem d_Model_nearest_25 : decode b_Model_nearest 25 = .ok (.bipush 64, 2) := by decide +kernel
theorem d_Model_nearest_27 : decode b_Model_nearest 27 = .ok (.iload 7, 2) := by decide +kernel
theorem d_Model_nearest_29 : decode b_Model_nearest 29 = .ok (.imul, 1) := by decide +kernel
theorem d_Model_nearest_30 : decode b_Model_nearest 30 = .ok (.iload 9, 2) := by decide +kernel
theorem d_Model_nearest_32 : decode b_Model_nearest 32 = .ok (.iadd, 1) := by decide +kernel
theorem d_Model_nearest_33 : decode b_Model_nearest 33 = .ok (.istore 10, 2) := by decide +kernel
theorem d_Model_nearest_35 : decode b_Model_nearest 35 = .ok (.aload_n 0, 1) := by decide +kernel
theorem d_Model_nearest_36 : decode b_Model_nearest 36 = .ok (.iload_n 1, 1) := by decide +kernel
theorem d_Model_nearest_37 : decode b_Model_nearest 37 = .ok (.iload 9, 2) := by decide +kernel
theorem d_Model_nearest_39 : decode b_Model_nearest 39 = .ok (.invokevirtual 143, 3) := by decide +kernel
theorem d_Model_nearest_42 : decode b_Model_nearest 42 = .ok (.ifCond .ne 6, 3) := by decide +kernel
theorem d_Model_nearest_45 : decode b_Model_nearest 45 = .ok (.goto 127, 3) := by decide +kernel
theorem d_Model_nearest_48 : decode b_Model_nearest 48 = .ok (.iload 6, 2) := by decide +kernel
theorem d_Model_nearest_50 : decode b_Model_nearest 50 = .ok (.iconst (-1), 1) := by decide +kernel
theorem d_Model_nearest_51 : decode b_Model_nearest 51 = .ok (.if_icmp .ne 15, 3) := by decide +kernel
theorem d_Model_nearest_54 : decode b_Model_nearest 54 = .ok (.iload_n 2, 1) := by decide +kernel
theorem d_Model_nearest_55 : decode b_Model_nearest 55 = .ok (.ifCond .eq 7, 3) := by decide +kernel
theorem d_Model_nearest_58 : decode b_Model_nearest 58 = .ok (.iconst 1, 1) := by decide +kernel
theorem d_Model_nearest_59 : decode b_Model_nearest 59 = .ok (.goto 20, 3) := by decide +kernel
theorem d_Model_nearest_62 : decode b_Model_nearest 62 = .ok (.iconst (-1), 1) := by decide +kernel
theorem d_Model_nearest_63 : decode b_Model_nearest 63 = .ok (.goto 16, 3) := by decide +kernel
theorem d_Model_nearest_66 : decode b_Model_nearest 66 = .ok (.aload_n 0, 1) := by decide +kernel
theorem d_Model_nearest_67 : decode b_Model_nearest 67 = .ok (.iload_n 1, 1) := by decide +kernel
theorem d_Model_nearest_68 : decode b_Model_nearest 68 = .ok (.iload 10, 2) := by decide +kernel
theorem d_Model_nearest_70 : decode b_Model_nearest 70 = .ok (.aload 4, 2) := by decide +kernel
theorem d_Model_nearest_72 : decode b_Model_nearest 72 = .ok (.iload 5, 2) := by decide +kernel
theorem d_Model_nearest_74 : decode b_Model_nearest 74 = .ok (.iload 6, 2) := by decide +kernel
theorem d_Model_nearest_76 : decode b_Model_nearest 76 = .ok (.invokevirtual 150, 3) := by decide +kernel
theorem d_Model_nearest_79 : decode b_Model_nearest 79 = .ok (.istore 11, 2) := by decide +kernel
theorem d_Model_nearest_81 : decode b_Model_nearest 81 = .ok (.iload 11, 2) := by decide +kernel
theorem d_Model_nearest_83 : decode b_Model_nearest 83 = .ok (.ifCond .ne 10, 3) := by decide +kernel
theorem d_Model_nearest_86 : decode b_Model_nearest 86 = .ok (.iload_n 3, 1) := by decide +kernel
theorem d_Model_nearest_87 : decode b_Model_nearest 87 = .ok (.ifCond .ne 23, 3) := by decide +kernel
theorem d_Model_nearest_90 : decode b_Model_nearest 90 = .ok (.goto 82, 3) := by decide +kernel
theorem d_Model_nearest_93 : decode b_Model_nearest 93 = .ok (.iload 11, 2) := by decide +kernel
theorem d_Model_nearest_95 : decode b_Model_nearest 95 = .ok (.ifCond .le 7, 3) := by decide +kernel
theorem d_Model_nearest_98 : decode b_Model_nearest 98 = .ok (.iconst 1, 1) := by decide +kernel
theorem d_Model_nearest_99 : decode b_Model_nearest 99 = .ok (.goto 4, 3) := by decide +kernel
theorem d_Model_nearest_102 : decode b_Model_nearest 102 = .ok (.iconst 0, 1) := by decide +kernel
theorem d_Model_nearest_103 : decode b_Model_nearest 103 = .ok (.iload_n 2, 1) := by decide +kernel
theorem d_Model_nearest_104 : decode b_Model_nearest 104 = .ok (.if_icmp .eq 6, 3) := by decide +kernel
theorem d_Model_nearest_107 : decode b_Model_nearest 107 = .ok (.goto 65, 3) := by decide +kernel
theorem d_Model_nearest_110 : decode b_Model_nearest 110 = .ok (.iload 8, 2) := by decide +kernel
theorem d_Model_nearest_112 : decode b_Model_nearest 112 = .ok (.iconst (-1), 1) := by decide +kernel
theorem d_Model_nearest_113 : decode b_Model_nearest 113 = .ok (.if_icmp .ne 7, 3) := by decide +kernel
theorem d_Model_nearest_116 : decode b_Model_nearest 116 = .ok (.iconst 0, 1) := by decide +kernel
theorem d_Model_nearest_117 : decode b_Model_nearest 117 = .ok (.goto 26, 3) := by decide +kernel
theorem d_Model_nearest_120 : decode b_Model_nearest 120 = .ok (.aload_n 0, 1) := by decide +kernel
theorem d_Model_nearest_121 : decode b_Model_nearest 121 = .ok (.iload_n 1, 1) := by decide +kernel
theorem d_Model_nearest_122 : decode b_Model_nearest 122 = .ok (.iload 10, 2) := by decide +kernel
theorem d_Model_nearest_124 : decode b_Model_nearest 124 = .ok (.aload_n 0, 1) := by decide +kernel
theorem d_Model_nearest_125 : decode b_Model_nearest 125 = .ok (.getfield 19, 3) := by decide +kernel
theorem d_Model_nearest_128 : decode b_Model_nearest 128 = .ok (.bipush 8, 2) := by decide +kernel
theorem d_Model_nearest_130 : decode b_Model_nearest 130 = .ok (.iload 8, 2) := by decide +kernel
theorem d_Model_nearest_132 : decode b_Model_nearest 132 = .ok (.imul, 1) := by decide +kernel
theorem d_Model_nearest_133 : decode b_Model_nearest 133 = .ok (.aload_n 0, 1) := by decide +kernel
theorem d_Model_nearest_134 : decode b_Model_nearest 134 = .ok (.getfield 22, 3) := by decide +kernel
theorem d_Model_nearest_137 : decode b_Model_nearest 137 = .ok (.iload 8, 2) := by decide +kernel
theorem d_Model_nearest_139 : decode b_Model_nearest 139 = .ok (.iaload, 1) := by decide +kernel
theorem d_Model_nearest_140 : decode b_Model_nearest 140 = .ok (.invokevirtual 150, 3) := by decide +kernel
theorem d_Model_nearest_143 : decode b_Model_nearest 143 = .ok (.istore 12, 2) := by decide +kernel
theorem d_Model_nearest_145 : decode b_Model_nearest 145 = .ok (.iload 8, 2) := by decide +kernel
theorem d_Model_nearest_147 : decode b_Model_nearest 147 = .ok (.iconst (-1), 1) := by decide +kernel
theorem d_Model_nearest_148 : decode b_Model_nearest 148 = .ok (.if_icmp .eq 20, 3) := by decide +kernel
theorem d_Model_nearest_151 : decode b_Model_nearest 151 = .ok (.iload_n 2, 1) := by decide +kernel
theorem d_Model_nearest_152 : decode b_Model_nearest 152 = .ok (.ifCond .eq 11, 3) := by decide +kernel
theorem d_Model_nearest_155 : decode b_Model_nearest 155 = .ok (.iload 12, 2) := by decide +kernel
theorem d_Model_nearest_157 : decode b_Model_nearest 157 = .ok (.ifCond .ge 15, 3) := by decide +kernel
theorem d_Model_nearest_160 : decode b_Model_nearest 160 = .ok (.goto 8, 3) := by decide +kernel
theorem d_Model_nearest_163 : decode b_Model_nearest 163 = .ok (.iload 12, 2) := by decide +kernel
theorem d_Model_nearest_165 : decode b_Model_nearest 165 = .ok (.ifCond .le 7, 3) := by decide +kernel
theorem d_Model_nearest_168 : decode b_Model_nearest 168 = .ok (.iload 10, 2) := by decide +kernel
theorem d_Model_nearest_170 : decode b_Model_nearest 170 = .ok (.istore 8, 2) := by decide +kernel
theorem d_Model_nearest_172 : decode b_Model_nearest 172 = .ok (.iinc 9 1, 3) := by decide +kernel
theorem d_Model_nearest_175 : decode b_Model_nearest 175 = .ok (.goto (-162), 3) := by decide +kernel
theorem d_Model_nearest_178 : decode b_Model_nearest 178 = .ok (.iload 8, 2) := by decide +kernel
theorem d_Model_nearest_180 : decode b_Model_nearest 180 = .ok (.ireturn, 1) := by decide +kernel
theorem d_Model_longest_0 : decode b_Model_longest 0 = .ok (.aload_n 0, 1) := by decide +kernel
theorem d_Model_longest_1 : decode b_Model_longest 1 = .ok (.iload_n 1, 1) := by decide +kernel
theorem d_Model_longest_2 : decode b_Model_longest 2 = .ok (.invokevirtual 114, 3) := by decide +kernel
theorem d_Model_longest_5 : decode b_Model_longest 5 = .ok (.istore_n 3, 1) := by decide +kernel
theorem d_Model_longest_6 : decode b_Model_longest 6 = .ok (.iconst (-1), 1) := by decide +kernel
theorem d_Model_longest_7 : decode b_Model_longest 7 = .ok (.istore 4, 2) := by decide +kernel
theorem d_Model_longest_9 : decode b_Model_longest 9 = .ok (.iconst 0, 1) := by decide +kernel
theorem d_Model_longest_10 : decode b_Model_longest 10 = .ok (.istore 5, 2) := by decide +kernel
theorem d_Model_longest_12 : decode b_Model_longest 12 = .ok (.iload 5, 2) := by decide +kernel
theorem d_Model_longest_14 : decode b_Model_longest 14 = .ok (.aload_n 0, 1) := by decide +kernel
theorem d_Model_longest_15 : decode b_Model_longest 15 = .ok (.getfield 13, 3) := by decide +kernel
theorem d_Model_longest_18 : decode b_Model_longest 18 = .ok (.iload_n 3, 1) := by decide +kernel
theorem d_Model_longest_19 : decode b_Model_longest 19 = .ok (.iaload, 1) := by decide +kernel
theorem d_Model_longest_20 : decode b_Model_longest 20 = .ok (.if_icmp .ge 95, 3) := by decide +kernel
theorem d_Model_longest_23 : decode b_Model_longest 23 = .ok (.bipush 64, 2) := by decide +kernel
theorem d_Model_longest_25 : decode b_Model_longest 25 = .ok (.iload_n 3, 1) := by decide +kernel
theorem d_Model_longest_26 : decode b_Model_longest 26 = .ok (.imul, 1) := by decide +kernel
theorem d_Model_longest_27 : decode b_Model_longest 27 = .ok (.iload 5, 2) := by decide +kernel
theorem d_Model_longest_29 : decode b_Model_longest 29 = .ok (.iadd, 1) := by decide +kernel
theorem d_Model_longest_30 : decode b_Model_longest 30 = .ok (.istore 6, 2) := by decide +kernel
theorem d_Model_longest_32 : decode b_Model_longest 32 = .ok (.aload_n 0, 1) := by decide +kernel
theorem d_Model_longest_33 : decode b_Model_longest 33 = .ok (.iload_n 1, 1) := by decide +kernel
theorem d_Model_longest_34 : decode b_Model_longest 34 = .ok (.iload 5, 2) := by decide +kernel
theorem d_Model_longest_36 : decode b_Model_longest 36 = .ok (.invokevirtual 143, 3) := by decide +kernel
theorem d_Model_longest_39 : decode b_Model_longest 39 = .ok (.ifCond .eq 35, 3) := by decide +kernel
theorem d_Model_longest_42 : decode b_Model_longest 42 = .ok (.aload_n 0, 1) := by decide +kernel
theorem d_Model_longest_43 : decode b_Model_longest 43 = .ok (.getfield 7, 3) := by decide +kernel
theorem d_Model_longest_46 : decode b_Model_longest 46 = .ok (.iconst 0, 1) := by decide +kernel
theorem d_Model_longest_47 : decode b_Model_longest 47 = .ok (.iload_n 2, 1) := by decide +kernel
theorem d_Model_longest_48 : decode b_Model_longest 48 = .ok (.aload_n 0, 1) := by decide +kernel
theorem d_Model_longest_49 : decode b_Model_longest 49 = .ok (.getfield 19, 3) := by decide +kernel
theorem d_Model_longest_52 : decode b_Model_longest 52 = .ok (.bipush 8, 2) := by decide +kernel
theorem d_Model_longest_54 : decode b_Model_longest 54 = .ok (.iload 6, 2) := by decide +kernel
theorem d_Model_longest_56 : decode b_Model_longest 56 = .ok (.imul, 1) := by decide +kernel
theorem d_Model_longest_57 : decode b_Model_longest 57 = .ok (.aload_n 0, 1) := by decide +kernel
theorem d_Model_longest_58 : decode b_Model_longest 58 = .ok (.getfield 22, 3) := by decide +kernel
theorem d_Model_longest_61 : decode b_Model_longest 61 = .ok (.iload 6, 2) := by decide +kernel
theorem d_Model_longest_63 : decode b_Model_longest 63 = .ok (.iaload, 1) := by decide +kernel
theorem d_Model_longest_64 : decode b_Model_longest 64 = .ok (.invokestatic 110, 3) := by decide +kernel
theorem d_Model_longest_67 : decode b_Model_longest 67 = .ok (.ifCond .eq 7, 3) := by decide +kernel
theorem d_Model_longest_70 : decode b_Model_longest 70 = .ok (.iconst 1, 1) := by decide +kernel
theorem d_Model_longest_71 : decode b_Model_longest 71 = .ok (.goto 4, 3) := by decide +kernel
theorem d_Model_longest_74 : decode b_Model_longest 74 = .ok (.iconst 0, 1) := by decide +kernel
theorem d_Model_longest_75 : decode b_Model_longest 75 = .ok (.istore 7, 2) := by decide +kernel
theorem d_Model_longest_77 : decode b_Model_longest 77 = .ok (.iload 7, 2) := by decide +kernel
theorem d_Model_longest_79 : decode b_Model_longest 79 = .ok (.ifCond .eq 30, 3) := by decide +kernel
theorem d_Model_longest_82 : decode b_Model_longest 82 = .ok (.iload 4, 2) := by decide +kernel
theorem d_Model_longest_84 : decode b_Model_longest 84 = .ok (.iconst (-1), 1) := by decide +kernel
theorem d_Model_longest_85 : decode b_Model_longest 85 = .ok (.if_icmp .eq 20, 3) := by decide +kernel
theorem d_Model_longest_88 : decode b_Model_longest 88 = .ok (.aload_n 0, 1) := by decide +kernel
theorem d_Model_longest_89 : decode b_Model_longest 89 = .ok (.getfield 22, 3) := by decide +kernel
theorem d_Model_longest_92 : decode b_Model_longest 92 = .ok (.iload 6, 2) := by decide +kernel
theorem d_Model_longest_94 : decode b_Model_longest 94 = .ok (.iaload, 1) := by decide +kernel
theorem d_Model_longest_95 : decode b_Model_longest 95 = .ok (.aload_n 0, 1) := by decide +kernel
theorem d_Model_longest_96 : decode b_Model_longest 96 = .ok (.getfield 22, 3) := by decide +kernel
theorem d_Model_longest_99 : decode b_Model_longest 99 = .ok (.iload 4, 2) := by decide +kernel
theorem d_Model_longest_101 : decode b_Model_longest 101 = .ok (.iaload, 1) := by decide +kernel
theorem d_Model_longest_102 : decode b_Model_longest 102 = .ok (.if_icmp .le 7, 3) := by decide +kernel
theorem d_Model_longest_105 : decode b_Model_longest 105 = .ok (.iload 6, 2) := by decide +kernel
theorem d_Model_longest_107 : decode b_Model_longest 107 = .ok (.istore 4, 2) := by decide +kernel
theorem d_Model_longest_109 : decode b_Model_longest 109 = .ok (.iinc 5 1, 3) := by decide +kernel
theorem d_Model_longest_112 : decode b_Model_longest 112 = .ok (.goto (-100), 3) := by decide +kernel
theorem d_Model_longest_115 : decode b_Model_longest 115 = .ok (.iload 4, 2) := by decide +kernel
theorem d_Model_longest_117 : decode b_Model_longest 117 = .ok (.ireturn, 1) := by decide +kernel
theorem d_Model_tell_0 : decode b_Model_tell 0 = .ok (.iload_n 1, 1) := by decide +kernel
theorem d_Model_tell_1 : decode b_Model_tell 1 = .ok (.iconst (-1), 1) := by decide +kernel
theorem d_Model_tell_2 : decode b_Model_tell 2 = .ok (.if_icmp .ne 9, 3) := by decide +kernel
theorem d_Model_tell_5 : decode b_Model_tell 5 = .ok (.aload_n 0, 1) := by decide +kernel
theorem d_Model_tell_6 : decode b_Model_tell 6 = .ok (.iload_n 2, 1) := by decide +kernel
theorem d_Model_tell_7 : decode b_Model_tell 7 = .ok (.invokevirtual 126, 3) := by decide +kernel
theorem d_Model_tell_10 : decode b_Model_tell 10 = .ok (.ireturn, 1) := by decide +kernel
theorem d_Model_tell_11 : decode b_Model_tell 11 = .ok (.aload_n 0, 1) := by decide +kernel
theorem d_Model_tell_12 : decode b_Model_tell 12 = .ok (.iconst 0, 1) := by decide +kernel
theorem d_Model_tell_13 : decode b_Model_tell 13 = .ok (.putfield 99, 3) := by decide +kernel
theorem d_Model_tell_16 : decode b_Model_tell 16 = .ok (.aload_n 0, 1) := by decide +kernel
theorem d_Model_tell_17 : decode b_Model_tell 17 = .ok (.aload_n 0, 1) := by decide +kernel
theorem d_Model_tell_18 : decode b_Model_tell 18 = .ok (.getfield 22, 3) := by decide +kernel
theorem d_Model_tell_21 : decode b_Model_tell 21 = .ok (.iload_n 1, 1) := by decide +kernel
theorem d_Model_tell_22 : decode b_Model_tell 22 = .ok (.iaload, 1) := by decide +kernel
theorem d_Model_tell_23 : decode b_Model_tell 23 = .ok (.putfield 154, 3) := by decide +kernel
theorem d_Model_tell_26 : decode b_Model_tell 26 = .ok (.iconst 0, 1) := by decide +kernel
theorem d_Model_tell_27 : decode b_Model_tell 27 = .ok (.istore_n 3, 1) := by decide +kernel
theorem d_Model_tell_28 : decode b_Model_tell 28 = .ok (.iload_n 3, 1) := by decide +kernel
theorem d_Model_tell_29 : decode b_Model_tell 29 = .ok (.aload_n 0, 1) := by decide +kernel
theorem d_Model_tell_30 : decode b_Model_tell 30 = .ok (.getfield 154, 3) := by decide +kernel
theorem d_Model_tell_33 : decode b_Model_tell 33 = .ok (.if_icmp .ge 26, 3) := by decide +kernel
theorem d_Model_tell_36 : decode b_Model_tell 36 = .ok (.aload_n 0, 1) := by decide +kernel
theorem d_Model_tell_37 : decode b_Model_tell 37 = .ok (.getfield 63, 3) := by decide +kernel
theorem d_Model_tell_40 : decode b_Model_tell 40 = .ok (.iload_n 3, 1) := by decide +kernel
theorem d_Model_tell_41 : decode b_Model_tell 41 = .ok (.aload_n 0, 1) := by decide +kernel
theorem d_Model_tell_42 : decode b_Model_tell 42 = .ok (.getfield 19, 3) := by decide +kernel
theorem d_Model_tell_45 : decode b_Model_tell 45 = .ok (.bipush 8, 2) := by decide +kernel
theorem d_Model_tell_47 : decode b_Model_tell 47 = .ok (.iload_n 1, 1) := by decide +kernel
theorem d_Model_tell_48 : decode b_Model_tell 48 = .ok (.imul, 1) := by decide +kernel
theorem d_Model_tell_49 : decode b_Model_tell 49 = .ok (.iload_n 3, 1) := by decide +kernel
theorem d_Model_tell_50 : decode b_Model_tell 50 = .ok (.iadd, 1) := by decide +kernel
theorem d_Model_tell_51 : decode b_Model_tell 51 = .ok (.iaload, 1) := by decide +kernel
theorem d_Model_tell_52 : decode b_Model_tell 52 = .ok (.iastore, 1) := by decide +kernel
theorem d_Model_tell_53 : decode b_Model_tell 53 = .ok (.iinc 3 1, 3) := by decide +kernel
theorem d_Model_tell_56 : decode b_Model_tell 56 = .ok (.goto (-28), 3) := by decide +kernel
theorem d_Model_tell_59 : decode b_Model_tell 59 = .ok (.aload_n 0, 1) := by decide +kernel
theorem d_Model_tell_60 : decode b_Model_tell 60 = .ok (.getfield 25, 3) := by decide +kernel
theorem d_Model_tell_63 : decode b_Model_tell 63 = .ok (.iload_n 1, 1) := by decide +kernel
theorem d_Model_tell_64 : decode b_Model_tell 64 = .ok (.iaload, 1) := by decide +kernel
theorem d_Model_tell_65 : decode b_Model_tell 65 = .ok (.ireturn, 1) := by decide +kernel
theorem d_Model_find_0 : decode b_Model_find 0 = .ok (.aload_n 0, 1) := by decide +kernel
theorem d_Model_find_1 : decode b_Model_find 1 = .ok (.iload_n 1, 1) := by decide +kernel
theorem d_Model_find_2 : decode b_Model_find 2 = .ok (.invokevirtual 122, 3) := by decide +kernel
theorem d_Model_find_5 : decode b_Model_find 5 = .ok (.ifCond .eq 13, 3) := by decide +kernel
theorem d_Model_find_8 : decode b_Model_find 8 = .ok (.iload_n 2, 1) := by decide +kernel
theorem d_Model_find_9 : decode b_Model_find 9 = .ok (.ifCond .lt 9, 3) := by decide +kernel
theorem d_Model_find_12 : decode b_Model_find 12 = .ok (.iload_n 2, 1) := by decide +kernel
theorem d_Model_find_13 : decode b_Model_find 13 = .ok (.bipush 6, 2) := by decide +kernel
theorem d_Model_find_15 : decode b_Model_find 15 = .ok (.if_icmp .le 9, 3) := by decide +kernel
theorem d_Model_find_18 : decode b_Model_find 18 = .ok (.aload_n 0, 1) := by decide +kernel
theorem d_Model_find_19 : decode b_Model_find 19 = .ok (.iconst 1, 1) := by decide +kernel
theorem d_Model_find_20 : decode b_Model_find 20 = .ok (.invokevirtual 126, 3) := by decide +kernel
theorem d_Model_find_23 : decode b_Model_find 23 = .ok (.ireturn, 1) := by decide +kernel
theorem d_Model_find_24 : decode b_Model_find 24 = .ok (.aload_n 0, 1) := by decide +kernel
theorem d_Model_find_25 : decode b_Model_find 25 = .ok (.getfield 102, 3) := by decide +kernel
theorem d_Model_find_28 : decode b_Model_find 28 = .ok (.istore_n 3, 1) := by decide +kernel
theorem d_Model_find_29 : decode b_Model_find 29 = .ok (.aload_n 0, 1) := by decide +kernel
theorem d_Model_find_30 : decode b_Model_find 30 = .ok (.iconst 0, 1) := by decide +kernel
theorem d_Model_find_31 : decode b_Model_find 31 = .ok (.putfield 102, 3) := by decide +kernel
theorem d_Model_find_34 : decode b_Model_find 34 = .ok (.iload_n 2, 1) := by decide +kernel
theorem d_Model_find_35 : decode b_Model_find 35 = .ok (.tableswitch 120 0 5 #[37, 37, 64, 64, 92, 92], 37) := by decide +kernel
theorem d_Model_find_72 : decode b_Model_find 72 = .ok (.aload_n 0, 1) := by decide +kernel
theorem d_Model_find_73 : decode b_Model_find 73 = .ok (.aload_n 0, 1) := by decide +kernel
theorem d_Model_find_74 : decode b_Model_find 74 = .ok (.iload_n 1, 1) := by decide +kernel
theorem d_Model_find_75 : decode b_Model_find 75 = .ok (.iconst 0, 1) := by decide +kernel
theorem d_Model_find_76 : decode b_Model_find 76 = .ok (.iload_n 2, 1) := by decide +kernel
theorem d_Model_find_77 : decode b_Model_find 77 = .ok (.ifCond .ne 7, 3) := by decide +kernel
theorem d_Model_find_80 : decode b_Model_find 80 = .ok (.iconst 1, 1) := by decide +kernel
theorem d_Model_find_81 : decode b_Model_find 81 = .ok (.goto 4, 3) := by decide +kernel
theorem d_Model_find_84 : decode b_Model_find 84 = .ok (.iconst 0, 1) := by decide +kernel
theorem d_Model_find_85 : decode b_Model_find 85 = .ok (.aload_n 0, 1) := by decide +kernel
theorem d_Model_find_86 : decode b_Model_find 86 = .ok (.getfield 7, 3) := by decide +kernel
theorem d_Model_find_89 : decode b_Model_find 89 = .ok (.iconst 0, 1) := by decide +kernel
theorem d_Model_find_90 : decode b_Model_find 90 = .ok (.iload_n 3, 1) := by decide +kernel
theorem d_Model_find_91 : decode b_Model_find 91 = .ok (.invokevirtual 157, 3) := by decide +kernel
theorem d_Model_find_94 : decode b_Model_find 94 = .ok (.iconst 2, 1) := by decide +kernel
theorem d_Model_find_95 : decode b_Model_find 95 = .ok (.invokevirtual 161, 3) := by decide +kernel
theorem d_Model_find_98 : decode b_Model_find 98 = .ok (.ireturn, 1) := by decide +kernel
theorem d_Model_find_99 : decode b_Model_find 99 = .ok (.aload_n 0, 1) := by decide +kernel
theorem d_Model_find_100 : decode b_Model_find 100 = .ok (.aload_n 0, 1) := by decide +kernel
theorem d_Model_find_101 : decode b_Model_find 101 = .ok (.iload_n 1, 1) := by decide +kernel
theorem d_Model_find_102 : decode b_Model_find 102 = .ok (.iconst 1, 1) := by decide +kernel
theorem d_Model_find_103 : decode b_Model_find 103 = .ok (.iload_n 2, 1) := by decide +kernel
theorem d_Model_find_104 : decode b_Model_find 104 = .ok (.iconst 2, 1) := by decide +kernel
theorem d_Model_find_105 : decode b_Model_find 105 = .ok (.if_icmp .ne 7, 3) := by decide +kernel
theorem d_Model_find_108 : decode b_Model_find 108 = .ok (.iconst 1, 1) := by decide +kernel
theorem d_Model_find_109 : decode b_Model_find 109 = .ok (.goto 4, 3) := by decide +kernel
theorem d_Model_find_112 : decode b_Model_find 112 = .ok (.iconst 0, 1) := by decide +kernel
theorem d_Model_find_113 : decode b_Model_find 113 = .ok (.aload_n 0, 1) := by decide +kernel
theorem d_Model_find_114 : decode b_Model_find 114 = .ok (.getfield 7, 3) := by decide +kernel
theorem d_Model_find_117 : decode b_Model_find 117 = .ok (.iconst 0, 1) := by decide +kernel
theorem d_Model_find_118 : decode b_Model_find 118 = .ok (.iload_n 3, 1) := by decide +kernel
theorem d_Model_find_119 : decode b_Model_find 119 = .ok (.invokevirtual 157, 3) := by decide +kernel
theorem d_Model_find_122 : decode b_Model_find 122 = .ok (.iconst 2, 1) := by decide +kernel
theorem d_Model_find_123 : decode b_Model_find 123 = .ok (.invokevirtual 161, 3) := by decide +kernel
theorem d_Model_find_126 : decode b_Model_find 126 = .ok (.ireturn, 1) := by decide +kernel
theorem d_Model_find_127 : decode b_Model_find 127 = .ok (.aload_n 0, 1) := by decide +kernel
theorem d_Model_find_128 : decode b_Model_find 128 = .ok (.aload_n 0, 1) := by decide +kernel
theorem d_Model_find_129 : decode b_Model_find 129 = .ok (.iload_n 1, 1) := by decide +kernel
theorem d_Model_find_130 : decode b_Model_find 130 = .ok (.iload_n 2, 1) := by decide +kernel
theorem d_Model_find_131 : decode b_Model_find 131 = .ok (.iconst 4, 1) := by decide +kernel
theorem d_Model_find_132 : decode b_Model_find 132 = .ok (.if_icmp .ne 7, 3) := by decide +kernel
theorem d_Model_find_135 : decode b_Model_find 135 = .ok (.iconst 1, 1) := by decide +kernel
theorem d_Model_find_136 : decode b_Model_find 136 = .ok (.goto 4, 3) := by decide +kernel
theorem d_Model_find_139 : decode b_Model_find 139 = .ok (.iconst 0, 1) := by decide +kernel
theorem d_Model_find_140 : decode b_Model_find 140 = .ok (.iconst 1, 1) := by decide +kernel
theorem d_Model_find_141 : decode b_Model_find 141 = .ok (.aload_n 0, 1) := by decide +kernel
theorem d_Model_find_142 : decode b_Model_find 142 = .ok (.getfield 7, 3) := by decide +kernel
theorem d_Model_find_145 : decode b_Model_find 145 = .ok (.iconst 0, 1) := by decide +kernel
theorem d_Model_find_146 : decode b_Model_find 146 = .ok (.iconst (-1), 1) := by decide +kernel
theorem d_Model_find_147 : decode b_Model_find 147 = .ok (.invokevirtual 157, 3) := by decide +kernel
theorem d_Model_find_150 : decode b_Model_find 150 = .ok (.iconst 2, 1) := by decide +kernel
theorem d_Model_find_151 : decode b_Model_find 151 = .ok (.invokevirtual 161, 3) := by decide +kernel
theorem d_Model_find_154 : decode b_Model_find 154 = .ok (.ireturn, 1) := by decide +kernel
theorem d_Model_find_155 : decode b_Model_find 155 = .ok (.aload_n 0, 1) := by decide +kernel
theorem d_Model_find_156 : decode b_Model_find 156 = .ok (.aload_n 0, 1) := by decide +kernel
theorem d_Model_find_157 : decode b_Model_find 157 = .ok (.iload_n 1, 1) := by decide +kernel
theorem d_Model_find_158 : decode b_Model_find 158 = .ok (.iload_n 3, 1) := by decide +kernel
theorem d_Model_find_159 : decode b_Model_find 159 = .ok (.invokevirtual 165, 3) := by decide +kernel
theorem d_Model_find_162 : decode b_Model_find 162 = .ok (.iconst 2, 1) := by decide +kernel
theorem d_Model_find_163 : decode b_Model_find 163 = .ok (.invokevirtual 161, 3) := by decide +kernel
theorem d_Model_find_166 : decode b_Model_find 166 = .ok (.ireturn, 1) := by decide +kernel
theorem d_Model_at_0 : decode b_Model_at 0 = .ok (.aload_n 0, 1) := by decide +kernel
theorem d_Model_at_1 : decode b_Model_at 1 = .ok (.iload_n 1, 1) := by decide +kernel
theorem d_Model_at_2 : decode b_Model_at 2 = .ok (.invokevirtual 122, 3) := by decide +kernel
theorem d_Model_at_5 : decode b_Model_at 5 = .ok (.ifCond .ne 9, 3) := by decide +kernel
theorem d_Model_at_8 : decode b_Model_at 8 = .ok (.aload_n 0, 1) := by decide +kernel
theorem d_Model_at_9 : decode b_Model_at 9 = .ok (.iconst 1, 1) := by decide +kernel
theorem d_Model_at_10 : decode b_Model_at 10 = .ok (.invokevirtual 126, 3) := by decide +kernel
theorem d_Model_at_13 : decode b_Model_at 13 = .ok (.ireturn, 1) := by decide +kernel
theorem d_Model_at_14 : decode b_Model_at 14 = .ok (.iload_n 2, 1) := by decide +kernel
theorem d_Model_at_15 : decode b_Model_at 15 = .ok (.ifCond .lt 12, 3) := by decide +kernel
theorem d_Model_at_18 : decode b_Model_at 18 = .ok (.iload_n 2, 1) := by decide +kernel
theorem d_Model_at_19 : decode b_Model_at 19 = .ok (.aload_n 0, 1) := by decide +kernel
theorem d_Model_at_20 : decode b_Model_at 20 = .ok (.iload_n 1, 1) := by decide +kernel
theorem d_Model_at_21 : decode b_Model_at 21 = .ok (.invokevirtual 168, 3) := by decide +kernel
theorem d_Model_at_24 : decode b_Model_at 24 = .ok (.if_icmp .lt 7, 3) := by decide +kernel
theorem d_Model_at_27 : decode b_Model_at 27 = .ok (.iconst (-1), 1) := by decide +kernel
theorem d_Model_at_28 : decode b_Model_at 28 = .ok (.goto 16, 3) := by decide +kernel
theorem d_Model_at_31 : decode b_Model_at 31 = .ok (.aload_n 0, 1) := by decide +kernel
theorem d_Model_at_32 : decode b_Model_at 32 = .ok (.iload_n 1, 1) := by decide +kernel
theorem d_Model_at_33 : decode b_Model_at 33 = .ok (.iconst 1, 1) := by decide +kernel
theorem d_Model_at_34 : decode b_Model_at 34 = .ok (.iconst 1, 1) := by decide +kernel
theorem d_Model_at_35 : decode b_Model_at 35 = .ok (.aload_n 0, 1) := by decide +kernel
theorem d_Model_at_36 : decode b_Model_at 36 = .ok (.getfield 7, 3) := by decide +kernel
theorem d_Model_at_39 : decode b_Model_at 39 = .ok (.iconst 0, 1) := by decide +kernel
theorem d_Model_at_40 : decode b_Model_at 40 = .ok (.iconst (-1), 1) := by decide +kernel
theorem d_Model_at_41 : decode b_Model_at 41 = .ok (.invokevirtual 157, 3) := by decide +kernel
theorem d_Model_at_44 : decode b_Model_at 44 = .ok (.istore_n 3, 1) := by decide +kernel
theorem d_Model_at_45 : decode b_Model_at 45 = .ok (.iconst 0, 1) := by decide +kernel
theorem d_Model_at_46 : decode b_Model_at 46 = .ok (.istore 4, 2) := by decide +kernel
theorem d_Model_at_48 : decode b_Model_at 48 = .ok (.iload 4, 2) := by decide +kernel
theorem d_Model_at_50 : decode b_Model_at 50 = .ok (.iload_n 2, 1) := by decide +kernel
theorem d_Model_at_51 : decode b_Model_at 51 = .ok (.if_icmp .ge 36, 3) := by decide +kernel
theorem d_Model_at_54 : decode b_Model_at 54 = .ok (.iload_n 3, 1) := by decide +kernel
theorem d_Model_at_55 : decode b_Model_at 55 = .ok (.iconst (-1), 1) := by decide +kernel
theorem d_Model_at_56 : decode b_Model_at 56 = .ok (.if_icmp .eq 31, 3) := by decide +kernel
theorem d_Model_at_59 : decode b_Model_at 59 = .ok (.aload_n 0, 1) := by decide +kernel
theorem d_Model_at_60 : decode b_Model_at 60 = .ok (.iload_n 1, 1) := by decide +kernel
theorem d_Model_at_61 : decode b_Model_at 61 = .ok (.iconst 1, 1) := by decide +kernel
theorem d_Model_at_62 : decode b_Model_at 62 = .ok (.iconst 0, 1) := by decide +kernel
theorem d_Model_at_63 : decode b_Model_at 63 = .ok (.aload_n 0, 1) := by decide +kernel
theorem d_Model_at_64 : decode b_Model_at 64 = .ok (.getfield 19, 3) := by decide +kernel
theorem d_Model_at_67 : decode b_Model_at 67 = .ok (.bipush 8, 2) := by decide +kernel
theorem d_Model_at_69 : decode b_Model_at 69 = .ok (.iload_n 3, 1) := by decide +kernel
theorem d_Model_at_70 : decode b_Model_at 70 = .ok (.imul, 1) := by decide +kernel
theorem d_Model_at_71 : decode b_Model_at 71 = .ok (.aload_n 0, 1) := by decide +kernel
theorem d_Model_at_72 : decode b_Model_at 72 = .ok (.getfield 22, 3) := by decide +kernel
theorem d_Model_at_75 : decode b_Model_at 75 = .ok (.iload_n 3, 1) := by decide +kernel
theorem d_Model_at_76 : decode b_Model_at 76 = .ok (.iaload, 1) := by decide +kernel
theorem d_Model_at_77 : decode b_Model_at 77 = .ok (.invokevirtual 157, 3) := by decide +kernel
theorem d_Model_at_80 : decode b_Model_at 80 = .ok (.istore_n 3, 1) := by decide +kernel
theorem d_Model_at_81 : decode b_Model_at 81 = .ok (.iinc 4 1, 3) := by decide +kernel
theorem d_Model_at_84 : decode b_Model_at 84 = .ok (.goto (-36), 3) := by decide +kernel
theorem d_Model_at_87 : decode b_Model_at 87 = .ok (.aload_n 0, 1) := by decide +kernel
theorem d_Model_at_88 : decode b_Model_at 88 = .ok (.iload_n 3, 1) := by decide +kernel
theorem d_Model_at_89 : decode b_Model_at 89 = .ok (.iconst 2, 1) := by decide +kernel
theorem d_Model_at_90 : decode b_Model_at 90 = .ok (.invokevirtual 161, 3) := by decide +kernel
theorem d_Model_at_93 : decode b_Model_at 93 = .ok (.ireturn, 1) := by decide +kernel
theorem d_Model_poll_0 : decode b_Model_poll 0 = .ok (.aload_n 0, 1) := by decide +kernel
theorem d_Model_poll_1 : decode b_Model_poll 1 = .ok (.iload_n 1, 1) := by decide +kernel
theorem d_Model_poll_2 : decode b_Model_poll 2 = .ok (.invokevirtual 122, 3) := by decide +kernel
theorem d_Model_poll_5 : decode b_Model_poll 5 = .ok (.ifCond .ne 9, 3) := by decide +kernel
theorem d_Model_poll_8 : decode b_Model_poll 8 = .ok (.aload_n 0, 1) := by decide +kernel
theorem d_Model_poll_9 : decode b_Model_poll 9 = .ok (.iconst 1, 1) := by decide +kernel
theorem d_Model_poll_10 : decode b_Model_poll 10 = .ok (.invokevirtual 126, 3) := by decide +kernel
theorem d_Model_poll_13 : decode b_Model_poll 13 = .ok (.ireturn, 1) := by decide +kernel
theorem d_Model_poll_14 : decode b_Model_poll 14 = .ok (.aload_n 0, 1) := by decide +kernel
theorem d_Model_poll_15 : decode b_Model_poll 15 = .ok (.iload_n 1, 1) := by decide +kernel
theorem d_Model_poll_16 : decode b_Model_poll 16 = .ok (.iload_n 2, 1) := by decide +kernel
theorem d_Model_poll_17 : decode b_Model_poll 17 = .ok (.ifCond .ne 7, 3) := by decide +kernel
theorem d_Model_poll_20 : decode b_Model_poll 20 = .ok (.iconst 1, 1) := by decide +kernel
theorem d_Model_poll_21 : decode b_Model_poll 21 = .ok (.goto 4, 3) := by decide +kernel
theorem d_Model_poll_24 : decode b_Model_poll 24 = .ok (.iconst 0, 1) := by decide +kernel
theorem d_Model_poll_25 : decode b_Model_poll 25 = .ok (.iconst 1, 1) := by decide +kernel
theorem d_Model_poll_26 : decode b_Model_poll 26 = .ok (.aload_n 0, 1) := by decide +kernel
theorem d_Model_poll_27 : decode b_Model_poll 27 = .ok (.getfield 7, 3) := by decide +kernel
theorem d_Model_poll_30 : decode b_Model_poll 30 = .ok (.iconst 0, 1) := by decide +kernel
theorem d_Model_poll_31 : decode b_Model_poll 31 = .ok (.iconst (-1), 1) := by decide +kernel
theorem d_Model_poll_32 : decode b_Model_poll 32 = .ok (.invokevirtual 157, 3) := by decide +kernel
theorem d_Model_poll_35 : decode b_Model_poll 35 = .ok (.istore_n 3, 1) := by decide +kernel
theorem d_Model_poll_36 : decode b_Model_poll 36 = .ok (.aload_n 0, 1) := by decide +kernel
theorem d_Model_poll_37 : decode b_Model_poll 37 = .ok (.iload_n 3, 1) := by decide +kernel
theorem d_Model_poll_38 : decode b_Model_poll 38 = .ok (.iconst 2, 1) := by decide +kernel
theorem d_Model_poll_39 : decode b_Model_poll 39 = .ok (.invokevirtual 161, 3) := by decide +kernel
theorem d_Model_poll_42 : decode b_Model_poll 42 = .ok (.istore 4, 2) := by decide +kernel
theorem d_Model_poll_44 : decode b_Model_poll 44 = .ok (.aload_n 0, 1) := by decide +kernel
theorem d_Model_poll_45 : decode b_Model_poll 45 = .ok (.getfield 99, 3) := by decide +kernel
theorem d_Model_poll_48 : decode b_Model_poll 48 = .ok (.ifCond .ne 13, 3) := by decide +kernel
theorem d_Model_poll_51 : decode b_Model_poll 51 = .ok (.aload_n 0, 1) := by decide +kernel
theorem d_Model_poll_52 : decode b_Model_poll 52 = .ok (.aload_n 0, 1) := by decide +kernel
theorem d_Model_poll_53 : decode b_Model_poll 53 = .ok (.iload_n 1, 1) := by decide +kernel
theorem d_Model_poll_54 : decode b_Model_poll 54 = .ok (.invokevirtual 114, 3) := by decide +kernel
theorem d_Model_poll_57 : decode b_Model_poll 57 = .ok (.iload_n 3, 1) := by decide +kernel
theorem d_Model_poll_58 : decode b_Model_poll 58 = .ok (.invokevirtual 139, 3) := by decide +kernel
theorem d_Model_poll_61 : decode b_Model_poll 61 = .ok (.iload 4, 2) := by decide +kernel
theorem d_Model_poll_63 : decode b_Model_poll 63 = .ok (.ireturn, 1) := by decide +kernel
theorem d_Model_found_0 : decode b_Model_found 0 = .ok (.aload_n 0, 1) := by decide +kernel
theorem d_Model_found_1 : decode b_Model_found 1 = .ok (.iconst 0, 1) := by decide +kernel
theorem d_Model_found_2 : decode b_Model_found 2 = .ok (.putfield 99, 3) := by decide +kernel
theorem d_Model_found_5 : decode b_Model_found 5 = .ok (.iload_n 1, 1) := by decide +kernel
theorem d_Model_found_6 : decode b_Model_found 6 = .ok (.iconst (-1), 1) := by decide +kernel
theorem d_Model_found_7 : decode b_Model_found 7 = .ok (.if_icmp .ne 10, 3) := by decide +kernel
theorem d_Model_found_10 : decode b_Model_found 10 = .ok (.aload_n 0, 1) := by decide +kernel
theorem d_Model_found_11 : decode b_Model_found 11 = .ok (.getfield 154, 3) := by decide +kernel
theorem d_Model_found_14 : decode b_Model_found 14 = .ok (.goto 25, 3) := by decide +kernel
theorem d_Model_found_17 : decode b_Model_found 17 = .ok (.iload_n 1, 1) := by decide +kernel
theorem d_Model_found_18 : decode b_Model_found 18 = .ok (.ifCond .lt 11, 3) := by decide +kernel
theorem d_Model_found_21 : decode b_Model_found 21 = .ok (.iload_n 1, 1) := by decide +kernel
theorem d_Model_found_22 : decode b_Model_found 22 = .ok (.aload_n 0, 1) := by decide +kernel
theorem d_Model_found_23 : decode b_Model_found 23 = .ok (.getfield 154, 3) := by decide +kernel
theorem d_Model_found_26 : decode b_Model_found 26 = .ok (.if_icmp .lt 7, 3) := by decide +kernel
theorem d_Model_found_29 : decode b_Model_found 29 = .ok (.iconst (-1), 1) := by decide +kernel
theorem d_Model_found_30 : decode b_Model_found 30 = .ok (.goto 9, 3) := by decide +kernel
theorem d_Model_found_33 : decode b_Model_found 33 = .ok (.aload_n 0, 1) := by decide +kernel
theorem d_Model_found_34 : decode b_Model_found 34 = .ok (.getfield 63, 3) := by decide +kernel
theorem d_Model_found_37 : decode b_Model_found 37 = .ok (.iload_n 1, 1) := by decide +kernel
theorem d_Model_found_38 : decode b_Model_found 38 = .ok (.iaload, 1) := by decide +kernel
theorem d_Model_found_39 : decode b_Model_found 39 = .ok (.ireturn, 1) := by decide +kernel
theorem d_Model_iterate_0 : decode b_Model_iterate 0 = .ok (.aload_n 0, 1) := by decide +kernel
theorem d_Model_iterate_1 : decode b_Model_iterate 1 = .ok (.iconst 0, 1) := by decide +kernel
theorem d_Model_iterate_2 : decode b_Model_iterate 2 = .ok (.putfield 99, 3) := by decide +kernel
theorem d_Model_iterate_5 : decode b_Model_iterate 5 = .ok (.aload_n 0, 1) := by decide +kernel
theorem d_Model_iterate_6 : decode b_Model_iterate 6 = .ok (.iload_n 1, 1) := by decide +kernel
theorem d_Model_iterate_7 : decode b_Model_iterate 7 = .ok (.invokevirtual 122, 3) := by decide +kernel
theorem d_Model_iterate_10 : decode b_Model_iterate 10 = .ok (.ifCond .ne 5, 3) := by decide +kernel
theorem d_Model_iterate_13 : decode b_Model_iterate 13 = .ok (.iconst 0, 1) := by decide +kernel
theorem d_Model_iterate_14 : decode b_Model_iterate 14 = .ok (.ireturn, 1) := by decide +kernel
theorem d_Model_iterate_15 : decode b_Model_iterate 15 = .ok (.aload_n 0, 1) := by decide +kernel
theorem d_Model_iterate_16 : decode b_Model_iterate 16 = .ok (.getfield 44, 3) := by decide +kernel
theorem d_Model_iterate_19 : decode b_Model_iterate 19 = .ok (.iload_n 1, 1) := by decide +kernel
theorem d_Model_iterate_20 : decode b_Model_iterate 20 = .ok (.iconst 1, 1) := by decide +kernel
theorem d_Model_iterate_21 : decode b_Model_iterate 21 = .ok (.bastore, 1) := by decide +kernel
theorem d_Model_iterate_22 : decode b_Model_iterate 22 = .ok (.aload_n 0, 1) := by decide +kernel
theorem d_Model_iterate_23 : decode b_Model_iterate 23 = .ok (.getfield 48, 3) := by decide +kernel
theorem d_Model_iterate_26 : decode b_Model_iterate 26 = .ok (.iload_n 1, 1) := by decide +kernel
theorem d_Model_iterate_27 : decode b_Model_iterate 27 = .ok (.iconst 0, 1) := by decide +kernel
theorem d_Model_iterate_28 : decode b_Model_iterate 28 = .ok (.bastore, 1) := by decide +kernel
theorem d_Model_iterate_29 : decode b_Model_iterate 29 = .ok (.aload_n 0, 1) := by decide +kernel
theorem d_Model_iterate_30 : decode b_Model_iterate 30 = .ok (.getfield 51, 3) := by decide +kernel
theorem d_Model_iterate_33 : decode b_Model_iterate 33 = .ok (.iload_n 1, 1) := by decide +kernel
theorem d_Model_iterate_34 : decode b_Model_iterate 34 = .ok (.iconst 0, 1) := by decide +kernel
theorem d_Model_iterate_35 : decode b_Model_iterate 35 = .ok (.bastore, 1) := by decide +kernel
theorem d_Model_iterate_36 : decode b_Model_iterate 36 = .ok (.aload_n 0, 1) := by decide +kernel
theorem d_Model_iterate_37 : decode b_Model_iterate 37 = .ok (.getfield 54, 3) := by decide +kernel
theorem d_Model_iterate_40 : decode b_Model_iterate 40 = .ok (.iload_n 1, 1) := by decide +kernel
theorem d_Model_iterate_41 : decode b_Model_iterate 41 = .ok (.aload_n 0, 1) := by decide +kernel
theorem d_Model_iterate_42 : decode b_Model_iterate 42 = .ok (.getfield 16, 3) := by decide +kernel
theorem d_Model_iterate_45 : decode b_Model_iterate 45 = .ok (.aload_n 0, 1) := by decide +kernel
theorem d_Model_iterate_46 : decode b_Model_iterate 46 = .ok (.iload_n 1, 1) := by decide +kernel
theorem d_Model_iterate_47 : decode b_Model_iterate 47 = .ok (.invokevirtual 114, 3) := by decide +kernel
theorem d_Model_iterate_50 : decode b_Model_iterate 50 = .ok (.iaload, 1) := by decide +kernel
theorem d_Model_iterate_51 : decode b_Model_iterate 51 = .ok (.iastore, 1) := by decide +kernel
theorem d_Model_iterate_52 : decode b_Model_iterate 52 = .ok (.iconst 1, 1) := by decide +kernel
theorem d_Model_iterate_53 : decode b_Model_iterate 53 = .ok (.ireturn, 1) := by decide +kernel
theorem d_Model_stale_0 : decode b_Model_stale 0 = .ok (.aload_n 0, 1) := by decide +kernel
theorem d_Model_stale_1 : decode b_Model_stale 1 = .ok (.getfield 44, 3) := by decide +kernel
theorem d_Model_stale_4 : decode b_Model_stale 4 = .ok (.iload_n 1, 1) := by decide +kernel
theorem d_Model_stale_5 : decode b_Model_stale 5 = .ok (.baload, 1) := by decide +kernel
theorem d_Model_stale_6 : decode b_Model_stale 6 = .ok (.ifCond .eq 22, 3) := by decide +kernel
theorem d_Model_stale_9 : decode b_Model_stale 9 = .ok (.aload_n 0, 1) := by decide +kernel
theorem d_Model_stale_10 : decode b_Model_stale 10 = .ok (.getfield 54, 3) := by decide +kernel
theorem d_Model_stale_13 : decode b_Model_stale 13 = .ok (.iload_n 1, 1) := by decide +kernel
theorem d_Model_stale_14 : decode b_Model_stale 14 = .ok (.iaload, 1) := by decide +kernel
theorem d_Model_stale_15 : decode b_Model_stale 15 = .ok (.aload_n 0, 1) := by decide +kernel
theorem d_Model_stale_16 : decode b_Model_stale 16 = .ok (.getfield 16, 3) := by decide +kernel
theorem d_Model_stale_19 : decode b_Model_stale 19 = .ok (.aload_n 0, 1) := by decide +kernel
theorem d_Model_stale_20 : decode b_Model_stale 20 = .ok (.iload_n 1, 1) := by decide +kernel
theorem d_Model_stale_21 : decode b_Model_stale 21 = .ok (.invokevirtual 114, 3) := by decide +kernel
theorem d_Model_stale_24 : decode b_Model_stale 24 = .ok (.iaload, 1) := by decide +kernel
theorem d_Model_stale_25 : decode b_Model_stale 25 = .ok (.if_icmp .eq 7, 3) := by decide +kernel
theorem d_Model_stale_28 : decode b_Model_stale 28 = .ok (.iconst 1, 1) := by decide +kernel
theorem d_Model_stale_29 : decode b_Model_stale 29 = .ok (.goto 4, 3) := by decide +kernel
theorem d_Model_stale_32 : decode b_Model_stale 32 = .ok (.iconst 0, 1) := by decide +kernel
theorem d_Model_stale_33 : decode b_Model_stale 33 = .ok (.ireturn, 1) := by decide +kernel
theorem d_Model_next_0 : decode b_Model_next 0 = .ok (.aload_n 0, 1) := by decide +kernel
theorem d_Model_next_1 : decode b_Model_next 1 = .ok (.iload_n 1, 1) := by decide +kernel
theorem d_Model_next_2 : decode b_Model_next 2 = .ok (.invokevirtual 122, 3) := by decide +kernel
theorem d_Model_next_5 : decode b_Model_next 5 = .ok (.ifCond .ne 9, 3) := by decide +kernel
theorem d_Model_next_8 : decode b_Model_next 8 = .ok (.aload_n 0, 1) := by decide +kernel
theorem d_Model_next_9 : decode b_Model_next 9 = .ok (.iconst 1, 1) := by decide +kernel
theorem d_Model_next_10 : decode b_Model_next 10 = .ok (.invokevirtual 126, 3) := by decide +kernel
theorem d_Model_next_13 : decode b_Model_next 13 = .ok (.ireturn, 1) := by decide +kernel
theorem d_Model_next_14 : decode b_Model_next 14 = .ok (.aload_n 0, 1) := by decide +kernel
theorem d_Model_next_15 : decode b_Model_next 15 = .ok (.iload_n 1, 1) := by decide +kernel
theorem d_Model_next_16 : decode b_Model_next 16 = .ok (.invokevirtual 171, 3) := by decide +kernel
theorem d_Model_next_19 : decode b_Model_next 19 = .ok (.ifCond .eq 9, 3) := by decide +kernel
theorem d_Model_next_22 : decode b_Model_next 22 = .ok (.aload_n 0, 1) := by decide +kernel
theorem d_Model_next_23 : decode b_Model_next 23 = .ok (.iconst 2, 1) := by decide +kernel
theorem d_Model_next_24 : decode b_Model_next 24 = .ok (.invokevirtual 126, 3) := by decide +kernel
theorem d_Model_next_27 : decode b_Model_next 27 = .ok (.ireturn, 1) := by decide +kernel
theorem d_Model_next_28 : decode b_Model_next 28 = .ok (.aload_n 0, 1) := by decide +kernel
theorem d_Model_next_29 : decode b_Model_next 29 = .ok (.getfield 48, 3) := by decide +kernel
theorem d_Model_next_32 : decode b_Model_next 32 = .ok (.iload_n 1, 1) := by decide +kernel
theorem d_Model_next_33 : decode b_Model_next 33 = .ok (.baload, 1) := by decide +kernel
theorem d_Model_next_34 : decode b_Model_next 34 = .ok (.ifCond .eq 27, 3) := by decide +kernel
theorem d_Model_next_37 : decode b_Model_next 37 = .ok (.aload_n 0, 1) := by decide +kernel
theorem d_Model_next_38 : decode b_Model_next 38 = .ok (.iload_n 1, 1) := by decide +kernel
theorem d_Model_next_39 : decode b_Model_next 39 = .ok (.iconst 1, 1) := by decide +kernel
theorem d_Model_next_40 : decode b_Model_next 40 = .ok (.iconst 0, 1) := by decide +kernel
theorem d_Model_next_41 : decode b_Model_next 41 = .ok (.aload_n 0, 1) := by decide +kernel
theorem d_Model_next_42 : decode b_Model_next 42 = .ok (.getfield 60, 3) := by decide +kernel
theorem d_Model_next_45 : decode b_Model_next 45 = .ok (.bipush 8, 2) := by decide +kernel
theorem d_Model_next_47 : decode b_Model_next 47 = .ok (.iload_n 1, 1) := by decide +kernel
theorem d_Model_next_48 : decode b_Model_next 48 = .ok (.imul, 1) := by decide +kernel
theorem d_Model_next_49 : decode b_Model_next 49 = .ok (.aload_n 0, 1) := by decide +kernel
theorem d_Model_next_50 : decode b_Model_next 50 = .ok (.getfield 57, 3) := by decide +kernel
theorem d_Model_next_53 : decode b_Model_next 53 = .ok (.iload_n 1, 1) := by decide +kernel
theorem d_Model_next_54 : decode b_Model_next 54 = .ok (.iaload, 1) := by decide +kernel
theorem d_Model_next_55 : decode b_Model_next 55 = .ok (.invokevirtual 157, 3) := by decide +kernel
theorem d_Model_next_58 : decode b_Model_next 58 = .ok (.goto 16, 3) := by decide +kernel
theorem d_Model_next_61 : decode b_Model_next 61 = .ok (.aload_n 0, 1) := by decide +kernel
theorem d_Model_next_62 : decode b_Model_next 62 = .ok (.iload_n 1, 1) := by decide +kernel
theorem d_Model_next_63 : decode b_Model_next 63 = .ok (.iconst 1, 1) := by decide +kernel
theorem d_Model_next_64 : decode b_Model_next 64 = .ok (.iconst 1, 1) := by decide +kernel
theorem d_Model_next_65 : decode b_Model_next 65 = .ok (.aload_n 0, 1) := by decide +kernel
theorem d_Model_next_66 : decode b_Model_next 66 = .ok (.getfield 7, 3) := by decide +kernel
theorem d_Model_next_69 : decode b_Model_next 69 = .ok (.iconst 0, 1) := by decide +kernel
theorem d_Model_next_70 : decode b_Model_next 70 = .ok (.iconst (-1), 1) := by decide +kernel
theorem d_Model_next_71 : decode b_Model_next 71 = .ok (.invokevirtual 157, 3) := by decide +kernel
theorem d_Model_next_74 : decode b_Model_next 74 = .ok (.istore_n 2, 1) := by decide +kernel
theorem d_Model_next_75 : decode b_Model_next 75 = .ok (.aload_n 0, 1) := by decide +kernel
theorem d_Model_next_76 : decode b_Model_next 76 = .ok (.iload_n 2, 1) := by decide +kernel
theorem d_Model_next_77 : decode b_Model_next 77 = .ok (.iconst 3, 1) := by decide +kernel
theorem d_Model_next_78 : decode b_Model_next 78 = .ok (.invokevirtual 161, 3) := by decide +kernel
theorem d_Model_next_81 : decode b_Model_next 81 = .ok (.istore_n 3, 1) := by decide +kernel
theorem d_Model_next_82 : decode b_Model_next 82 = .ok (.aload_n 0, 1) := by decide +kernel
theorem d_Model_next_83 : decode b_Model_next 83 = .ok (.getfield 99, 3) := by decide +kernel
theorem d_Model_next_86 : decode b_Model_next 86 = .ok (.ifCond .eq 5, 3) := by decide +kernel
theorem d_Model_next_89 : decode b_Model_next 89 = .ok (.iconst 0, 1) := by decide +kernel
theorem d_Model_next_90 : decode b_Model_next 90 = .ok (.ireturn, 1) := by decide +kernel
theorem d_Model_next_91 : decode b_Model_next 91 = .ok (.aload_n 0, 1) := by decide +kernel
theorem d_Model_next_92 : decode b_Model_next 92 = .ok (.getfield 48, 3) := by decide +kernel
theorem d_Model_next_95 : decode b_Model_next 95 = .ok (.iload_n 1, 1) := by decide +kernel
theorem d_Model_next_96 : decode b_Model_next 96 = .ok (.iconst 1, 1) := by decide +kernel
theorem d_Model_next_97 : decode b_Model_next 97 = .ok (.bastore, 1) := by decide +kernel
theorem d_Model_next_98 : decode b_Model_next 98 = .ok (.aload_n 0, 1) := by decide +kernel
theorem d_Model_next_99 : decode b_Model_next 99 = .ok (.getfield 51, 3) := by decide +kernel
theorem d_Model_next_102 : decode b_Model_next 102 = .ok (.iload_n 1, 1) := by decide +kernel
theorem d_Model_next_103 : decode b_Model_next 103 = .ok (.iconst 1, 1) := by decide +kernel
theorem d_Model_next_104 : decode b_Model_next 104 = .ok (.bastore, 1) := by decide +kernel
theorem d_Model_next_105 : decode b_Model_next 105 = .ok (.aload_n 0, 1) := by decide +kernel
theorem d_Model_next_106 : decode b_Model_next 106 = .ok (.getfield 57, 3) := by decide +kernel
theorem d_Model_next_109 : decode b_Model_next 109 = .ok (.iload_n 1, 1) := by decide +kernel
theorem d_Model_next_110 : decode b_Model_next 110 = .ok (.aload_n 0, 1) := by decide +kernel
theorem d_Model_next_111 : decode b_Model_next 111 = .ok (.getfield 22, 3) := by decide +kernel
theorem d_Model_next_114 : decode b_Model_next 114 = .ok (.iload_n 2, 1) := by decide +kernel
theorem d_Model_next_115 : decode b_Model_next 115 = .ok (.iaload, 1) := by decide +kernel
theorem d_Model_next_116 : decode b_Model_next 116 = .ok (.iastore, 1) := by decide +kernel
theorem d_Model_next_117 : decode b_Model_next 117 = .ok (.iconst 0, 1) := by decide +kernel
theorem d_Model_next_118 : decode b_Model_next 118 = .ok (.istore 4, 2) := by decide +kernel
theorem d_Model_next_120 : decode b_Model_next 120 = .ok (.iload 4, 2) := by decide +kernel
theorem d_Model_next_122 : decode b_Model_next 122 = .ok (.aload_n 0, 1) := by decide +kernel
theorem d_Model_next_123 : decode b_Model_next 123 = .ok (.getfield 22, 3) := by decide +kernel
theorem d_Model_next_126 : decode b_Model_next 126 = .ok (.iload_n 2, 1) := by decide +kernel
theorem d_Model_next_127 : decode b_Model_next 127 = .ok (.iaload, 1) := by decide +kernel
theorem d_Model_next_128 : decode b_Model_next 128 = .ok (.if_icmp .ge 33, 3) := by decide +kernel
theorem d_Model_next_131 : decode b_Model_next 131 = .ok (.aload_n 0, 1) := by decide +kernel
theorem d_Model_next_132 : decode b_Model_next 132 = .ok (.getfield 60, 3) := by decide +kernel
theorem d_Model_next_135 : decode b_Model_next 135 = .ok (.bipush 8, 2) := by decide +kernel
theorem d_Model_next_137 : decode b_Model_next 137 = .ok (.iload_n 1, 1) := by decide +kernel
theorem d_Model_next_138 : decode b_Model_next 138 = .ok (.imul, 1) := by decide +kernel
theorem d_Model_next_139 : decode b_Model_next 139 = .ok (.iload 4, 2) := by decide +kernel
theorem d_Model_next_141 : decode b_Model_next 141 = .ok (.iadd, 1) := by decide +kernel
theorem d_Model_next_142 : decode b_Model_next 142 = .ok (.aload_n 0, 1) := by decide +kernel
theorem d_Model_next_143 : decode b_Model_next 143 = .ok (.getfield 19, 3) := by decide +kernel
theorem d_Model_next_146 : decode b_Model_next 146 = .ok (.bipush 8, 2) := by decide +kernel
theorem d_Model_next_148 : decode b_Model_next 148 = .ok (.iload_n 2, 1) := by decide +kernel
theorem d_Model_next_149 : decode b_Model_next 149 = .ok (.imul, 1) := by decide +kernel
theorem d_Model_next_150 : decode b_Model_next 150 = .ok (.iload 4, 2) := by decide +kernel
theorem d_Model_next_152 : decode b_Model_next 152 = .ok (.iadd, 1) := by decide +kernel
theorem d_Model_next_153 : decode b_Model_next 153 = .ok (.iaload, 1) := by decide +kernel
theorem d_Model_next_154 : decode b_Model_next 154 = .ok (.iastore, 1) := by decide +kernel
theorem d_Model_next_155 : decode b_Model_next 155 = .ok (.iinc 4 1, 3) := by decide +kernel
theorem d_Model_next_158 : decode b_Model_next 158 = .ok (.goto (-38), 3) := by decide +kernel
theorem d_Model_next_161 : decode b_Model_next 161 = .ok (.iload_n 3, 1) := by decide +kernel
theorem d_Model_next_162 : decode b_Model_next 162 = .ok (.ireturn, 1) := by decide +kernel
theorem d_Model_drop_0 : decode b_Model_drop 0 = .ok (.aload_n 0, 1) := by decide +kernel
theorem d_Model_drop_1 : decode b_Model_drop 1 = .ok (.iload_n 1, 1) := by decide +kernel
theorem d_Model_drop_2 : decode b_Model_drop 2 = .ok (.invokevirtual 122, 3) := by decide +kernel
theorem d_Model_drop_5 : decode b_Model_drop 5 = .ok (.ifCond .ne 9, 3) := by decide +kernel
theorem d_Model_drop_8 : decode b_Model_drop 8 = .ok (.aload_n 0, 1) := by decide +kernel
theorem d_Model_drop_9 : decode b_Model_drop 9 = .ok (.iconst 1, 1) := by decide +kernel
theorem d_Model_drop_10 : decode b_Model_drop 10 = .ok (.invokevirtual 126, 3) := by decide +kernel
theorem d_Model_drop_13 : decode b_Model_drop 13 = .ok (.ireturn, 1) := by decide +kernel
theorem d_Model_drop_14 : decode b_Model_drop 14 = .ok (.aload_n 0, 1) := by decide +kernel
theorem d_Model_drop_15 : decode b_Model_drop 15 = .ok (.iload_n 1, 1) := by decide +kernel
theorem d_Model_drop_16 : decode b_Model_drop 16 = .ok (.invokevirtual 171, 3) := by decide +kernel
theorem d_Model_drop_19 : decode b_Model_drop 19 = .ok (.ifCond .ne 12, 3) := by decide +kernel
theorem d_Model_drop_22 : decode b_Model_drop 22 = .ok (.aload_n 0, 1) := by decide +kernel
theorem d_Model_drop_23 : decode b_Model_drop 23 = .ok (.getfield 51, 3) := by decide +kernel
theorem d_Model_drop_26 : decode b_Model_drop 26 = .ok (.iload_n 1, 1) := by decide +kernel
theorem d_Model_drop_27 : decode b_Model_drop 27 = .ok (.baload, 1) := by decide +kernel
theorem d_Model_drop_28 : decode b_Model_drop 28 = .ok (.ifCond .ne 9, 3) := by decide +kernel
theorem d_Model_drop_31 : decode b_Model_drop 31 = .ok (.aload_n 0, 1) := by decide +kernel
theorem d_Model_drop_32 : decode b_Model_drop 32 = .ok (.iconst 2, 1) := by decide +kernel
theorem d_Model_drop_33 : decode b_Model_drop 33 = .ok (.invokevirtual 126, 3) := by decide +kernel
theorem d_Model_drop_36 : decode b_Model_drop 36 = .ok (.ireturn, 1) := by decide +kernel
theorem d_Model_drop_37 : decode b_Model_drop 37 = .ok (.aload_n 0, 1) := by decide +kernel
theorem d_Model_drop_38 : decode b_Model_drop 38 = .ok (.iconst 0, 1) := by decide +kernel
theorem d_Model_drop_39 : decode b_Model_drop 39 = .ok (.putfield 99, 3) := by decide +kernel
theorem d_Model_drop_42 : decode b_Model_drop 42 = .ok (.aload_n 0, 1) := by decide +kernel
theorem d_Model_drop_43 : decode b_Model_drop 43 = .ok (.iload_n 1, 1) := by decide +kernel
theorem d_Model_drop_44 : decode b_Model_drop 44 = .ok (.invokevirtual 114, 3) := by decide +kernel
theorem d_Model_drop_47 : decode b_Model_drop 47 = .ok (.istore_n 2, 1) := by decide +kernel
theorem d_Model_drop_48 : decode b_Model_drop 48 = .ok (.aload_n 0, 1) := by decide +kernel
theorem d_Model_drop_49 : decode b_Model_drop 49 = .ok (.iload_n 2, 1) := by decide +kernel
theorem d_Model_drop_50 : decode b_Model_drop 50 = .ok (.aload_n 0, 1) := by decide +kernel
theorem d_Model_drop_51 : decode b_Model_drop 51 = .ok (.getfield 60, 3) := by decide +kernel
theorem d_Model_drop_54 : decode b_Model_drop 54 = .ok (.bipush 8, 2) := by decide +kernel
theorem d_Model_drop_56 : decode b_Model_drop 56 = .ok (.iload_n 1, 1) := by decide +kernel
theorem d_Model_drop_57 : decode b_Model_drop 57 = .ok (.imul, 1) := by decide +kernel
theorem d_Model_drop_58 : decode b_Model_drop 58 = .ok (.aload_n 0, 1) := by decide +kernel
theorem d_Model_drop_59 : decode b_Model_drop 59 = .ok (.getfield 57, 3) := by decide +kernel
theorem d_Model_drop_62 : decode b_Model_drop 62 = .ok (.iload_n 1, 1) := by decide +kernel
theorem d_Model_drop_63 : decode b_Model_drop 63 = .ok (.iaload, 1) := by decide +kernel
theorem d_Model_drop_64 : decode b_Model_drop 64 = .ok (.invokevirtual 133, 3) := by decide +kernel
theorem d_Model_drop_67 : decode b_Model_drop 67 = .ok (.istore_n 3, 1) := by decide +kernel
theorem d_Model_drop_68 : decode b_Model_drop 68 = .ok (.aload_n 0, 1) := by decide +kernel
theorem d_Model_drop_69 : decode b_Model_drop 69 = .ok (.getfield 25, 3) := by decide +kernel
theorem d_Model_drop_72 : decode b_Model_drop 72 = .ok (.iload_n 3, 1) := by decide +kernel
theorem d_Model_drop_73 : decode b_Model_drop 73 = .ok (.iaload, 1) := by decide +kernel
theorem d_Model_drop_74 : decode b_Model_drop 74 = .ok (.istore 4, 2) := by decide +kernel
theorem d_Model_drop_76 : decode b_Model_drop 76 = .ok (.aload_n 0, 1) := by decide +kernel
theorem d_Model_drop_77 : decode b_Model_drop 77 = .ok (.iload_n 2, 1) := by decide +kernel
theorem d_Model_drop_78 : decode b_Model_drop 78 = .ok (.iload_n 3, 1) := by decide +kernel
theorem d_Model_drop_79 : decode b_Model_drop 79 = .ok (.invokevirtual 139, 3) := by decide +kernel
theorem d_Model_drop_82 : decode b_Model_drop 82 = .ok (.aload_n 0, 1) := by decide +kernel
theorem d_Model_drop_83 : decode b_Model_drop 83 = .ok (.getfield 51, 3) := by decide +kernel
theorem d_Model_drop_86 : decode b_Model_drop 86 = .ok (.iload_n 1, 1) := by decide +kernel
theorem d_Model_drop_87 : decode b_Model_drop 87 = .ok (.iconst 0, 1) := by decide +kernel
theorem d_Model_drop_88 : decode b_Model_drop 88 = .ok (.bastore, 1) := by decide +kernel
theorem d_Model_drop_89 : decode b_Model_drop 89 = .ok (.aload_n 0, 1) := by decide +kernel
theorem d_Model_drop_90 : decode b_Model_drop 90 = .ok (.getfield 54, 3) := by decide +kernel
theorem d_Model_drop_93 : decode b_Model_drop 93 = .ok (.iload_n 1, 1) := by decide +kernel
theorem d_Model_drop_94 : decode b_Model_drop 94 = .ok (.aload_n 0, 1) := by decide +kernel
theorem d_Model_drop_95 : decode b_Model_drop 95 = .ok (.getfield 16, 3) := by decide +kernel
theorem d_Model_drop_98 : decode b_Model_drop 98 = .ok (.iload_n 2, 1) := by decide +kernel
theorem d_Model_drop_99 : decode b_Model_drop 99 = .ok (.iaload, 1) := by decide +kernel
theorem d_Model_drop_100 : decode b_Model_drop 100 = .ok (.iastore, 1) := by decide +kernel
theorem d_Model_drop_101 : decode b_Model_drop 101 = .ok (.iload 4, 2) := by decide +kernel
theorem d_Model_drop_103 : decode b_Model_drop 103 = .ok (.ireturn, 1) := by decide +kernel
theorem d_Model_match_0 : decode b_Model_match 0 = .ok (.aload_n 0, 1) := by decide +kernel
theorem d_Model_match_1 : decode b_Model_match 1 = .ok (.iload_n 1, 1) := by decide +kernel
theorem d_Model_match_2 : decode b_Model_match 2 = .ok (.invokevirtual 122, 3) := by decide +kernel
theorem d_Model_match_5 : decode b_Model_match 5 = .ok (.ifCond .ne 9, 3) := by decide +kernel
theorem d_Model_match_8 : decode b_Model_match 8 = .ok (.aload_n 0, 1) := by decide +kernel
theorem d_Model_match_9 : decode b_Model_match 9 = .ok (.iconst 1, 1) := by decide +kernel
theorem d_Model_match_10 : decode b_Model_match 10 = .ok (.invokevirtual 126, 3) := by decide +kernel
theorem d_Model_match_13 : decode b_Model_match 13 = .ok (.ireturn, 1) := by decide +kernel
theorem d_Model_match_14 : decode b_Model_match 14 = .ok (.aload_n 0, 1) := by decide +kernel
theorem d_Model_match_15 : decode b_Model_match 15 = .ok (.getfield 102, 3) := by decide +kernel
theorem d_Model_match_18 : decode b_Model_match 18 = .ok (.istore_n 3, 1) := by decide +kernel
theorem d_Model_match_19 : decode b_Model_match 19 = .ok (.aload_n 0, 1) := by decide +kernel
theorem d_Model_match_20 : decode b_Model_match 20 = .ok (.iconst 0, 1) := by decide +kernel
theorem d_Model_match_21 : decode b_Model_match 21 = .ok (.putfield 102, 3) := by decide +kernel
theorem d_Model_match_24 : decode b_Model_match 24 = .ok (.iload_n 2, 1) := by decide +kernel
theorem d_Model_match_25 : decode b_Model_match 25 = .ok (.ifCond .ge 9, 3) := by decide +kernel
theorem d_Model_match_28 : decode b_Model_match 28 = .ok (.aload_n 0, 1) := by decide +kernel
theorem d_Model_match_29 : decode b_Model_match 29 = .ok (.iconst 2, 1) := by decide +kernel
theorem d_Model_match_30 : decode b_Model_match 30 = .ok (.invokevirtual 126, 3) := by decide +kernel
theorem d_Model_match_33 : decode b_Model_match 33 = .ok (.ireturn, 1) := by decide +kernel
theorem d_Model_match_34 : decode b_Model_match 34 = .ok (.aload_n 0, 1) := by decide +kernel
theorem d_Model_match_35 : decode b_Model_match 35 = .ok (.iconst 0, 1) := by decide +kernel
theorem d_Model_match_36 : decode b_Model_match 36 = .ok (.putfield 99, 3) := by decide +kernel
theorem d_Model_match_39 : decode b_Model_match 39 = .ok (.iconst 0, 1) := by decide +kernel
theorem d_Model_match_40 : decode b_Model_match 40 = .ok (.istore 4, 2) := by decide +kernel
theorem d_Model_match_42 : decode b_Model_match 42 = .ok (.iconst 0, 1) := by decide +kernel
theorem d_Model_match_43 : decode b_Model_match 43 = .ok (.istore 5, 2) := by decide +kernel
theorem d_Model_match_45 : decode b_Model_match 45 = .ok (.iload 5, 2) := by decide +kernel
theorem d_Model_match_47 : decode b_Model_match 47 = .ok (.aload_n 0, 1) := by decide +kernel
theorem d_Model_match_48 : decode b_Model_match 48 = .ok (.getfield 13, 3) := by decide +kernel
theorem d_Model_match_51 : decode b_Model_match 51 = .ok (.aload_n 0, 1) := by decide +kernel
theorem d_Model_match_52 : decode b_Model_match 52 = .ok (.iload_n 1, 1) := by decide +kernel
theorem d_Model_match_53 : decode b_Model_match 53 = .ok (.invokevirtual 114, 3) := by decide +kernel
theorem d_Model_match_56 : decode b_Model_match 56 = .ok (.iaload, 1) := by decide +kernel
theorem d_Model_match_57 : decode b_Model_match 57 = .ok (.if_icmp .ge 125, 3) := by decide +kernel
theorem d_Model_match_60 : decode b_Model_match 60 = .ok (.bipush 64, 2) := by decide +kernel
theorem d_Model_match_62 : decode b_Model_match 62 = .ok (.aload_n 0, 1) := by decide +kernel
theorem d_Model_match_63 : decode b_Model_match 63 = .ok (.iload_n 1, 1) := by decide +kernel
theorem d_Model_match_64 : decode b_Model_match 64 = .ok (.invokevirtual 114, 3) := by decide +kernel
theorem d_Model_match_67 : decode b_Model_match 67 = .ok (.imul, 1) := by decide +kernel
theorem d_Model_match_68 : decode b_Model_match 68 = .ok (.iload 5, 2) := by decide +kernel
theorem d_Model_match_70 : decode b_Model_match 70 = .ok (.iadd, 1) := by decide +kernel
theorem d_Model_match_71 : decode b_Model_match 71 = .ok (.istore 6, 2) := by decide +kernel
theorem d_Model_match_73 : decode b_Model_match 73 = .ok (.aload_n 0, 1) := by decide +kernel
theorem d_Model_match_74 : decode b_Model_match 74 = .ok (.iload_n 1, 1) := by decide +kernel
theorem d_Model_match_75 : decode b_Model_match 75 = .ok (.iload 5, 2) := by decide +kernel
theorem d_Model_match_77 : decode b_Model_match 77 = .ok (.invokevirtual 143, 3) := by decide +kernel
theorem d_Model_match_80 : decode b_Model_match 80 = .ok (.ifCond .eq 96, 3) := by decide +kernel
theorem d_Model_match_83 : decode b_Model_match 83 = .ok (.aload_n 0, 1) := by decide +kernel
theorem d_Model_match_84 : decode b_Model_match 84 = .ok (.getfield 22, 3) := by decide +kernel
theorem d_Model_match_87 : decode b_Model_match 87 = .ok (.iload 6, 2) := by decide +kernel
theorem d_Model_match_89 : decode b_Model_match 89 = .ok (.iaload, 1) := by decide +kernel
theorem d_Model_match_90 : decode b_Model_match 90 = .ok (.iload_n 3, 1) := by decide +kernel
theorem d_Model_match_91 : decode b_Model_match 91 = .ok (.if_icmp .eq 6, 3) := by decide +kernel
theorem d_Model_match_94 : decode b_Model_match 94 = .ok (.goto 82, 3) := by decide +kernel
theorem d_Model_match_97 : decode b_Model_match 97 = .ok (.iconst 0, 1) := by decide +kernel
theorem d_Model_match_98 : decode b_Model_match 98 = .ok (.istore 7, 2) := by decide +kernel
theorem d_Model_match_100 : decode b_Model_match 100 = .ok (.iconst 0, 1) := by decide +kernel
theorem d_Model_match_101 : decode b_Model_match 101 = .ok (.istore 8, 2) := by decide +kernel
theorem d_Model_match_103 : decode b_Model_match 103 = .ok (.iload 8, 2) := by decide +kernel
theorem d_Model_match_105 : decode b_Model_match 105 = .ok (.iload_n 3, 1) := by decide +kernel
theorem d_Model_match_106 : decode b_Model_match 106 = .ok (.if_icmp .ge 54, 3) := by decide +kernel
theorem d_Model_match_109 : decode b_Model_match 109 = .ok (.iload 7, 2) := by decide +kernel
theorem d_Model_match_111 : decode b_Model_match 111 = .ok (.aload_n 0, 1) := by decide +kernel
theorem d_Model_match_112 : decode b_Model_match 112 = .ok (.getfield 7, 3) := by decide +kernel
theorem d_Model_match_115 : decode b_Model_match 115 = .ok (.iload 8, 2) := by decide +kernel
theorem d_Model_match_117 : decode b_Model_match 117 = .ok (.iaload, 1) := by decide +kernel
theorem d_Model_match_118 : decode b_Model_match 118 = .ok (.bipush 63, 2) := by decide +kernel
theorem d_Model_match_120 : decode b_Model_match 120 = .ok (.if_icmp .eq 26, 3) := by decide +kernel
theorem d_Model_match_123 : decode b_Model_match 123 = .ok (.aload_n 0, 1) := by decide +kernel
theorem d_Model_match_124 : decode b_Model_match 124 = .ok (.getfield 7, 3) := by decide +kernel
theorem d_Model_match_127 : decode b_Model_match 127 = .ok (.iload 8, 2) := by decide +kernel
theorem d_Model_match_129 : decode b_Model_match 129 = .ok (.iaload, 1) := by decide +kernel
theorem d_Model_match_130 : decode b_Model_match 130 = .ok (.aload_n 0, 1) := by decide +kernel
theorem d_Model_match_131 : decode b_Model_match 131 = .ok (.getfield 19, 3) := by decide +kernel
theorem d_Model_match_134 : decode b_Model_match 134 = .ok (.bipush 8, 2) := by decide +kernel
theorem d_Model_match_136 : decode b_Model_match 136 = .ok (.iload 6, 2) := by decide +kernel
theorem d_Model_match_138 : decode b_Model_match 138 = .ok (.imul, 1) := by decide +kernel
theorem d_Model_match_139 : decode b_Model_match 139 = .ok (.iload 8, 2) := by decide +kernel
theorem d_Model_match_141 : decode b_Model_match 141 = .ok (.iadd, 1) := by decide +kernel
theorem d_Model_match_142 : decode b_Model_match 142 = .ok (.iaload, 1) := by decide +kernel
theorem d_Model_match_143 : decode b_Model_match 143 = .ok (.if_icmp .ne 7, 3) := by decide +kernel
theorem d_Model_match_146 : decode b_Model_match 146 = .ok (.iconst 0, 1) := by decide +kernel
theorem d_Model_match_147 : decode b_Model_match 147 = .ok (.goto 4, 3) := by decide +kernel
theorem d_Model_match_150 : decode b_Model_match 150 = .ok (.iconst 1, 1) := by decide +kernel
theorem d_Model_match_151 : decode b_Model_match 151 = .ok (.iadd, 1) := by decide +kernel
theorem d_Model_match_152 : decode b_Model_match 152 = .ok (.istore 7, 2) := by decide +kernel
theorem d_Model_match_154 : decode b_Model_match 154 = .ok (.iinc 8 1, 3) := by decide +kernel
theorem d_Model_match_157 : decode b_Model_match 157 = .ok (.goto (-54), 3) := by decide +kernel
theorem d_Model_match_160 : decode b_Model_match 160 = .ok (.iload 4, 2) := by decide +kernel
theorem d_Model_match_162 : decode b_Model_match 162 = .ok (.iload 7, 2) := by decide +kernel
theorem d_Model_match_164 : decode b_Model_match 164 = .ok (.iload_n 2, 1) := by decide +kernel
theorem d_Model_match_165 : decode b_Model_match 165 = .ok (.if_icmp .gt 7, 3) := by decide +kernel
theorem d_Model_match_168 : decode b_Model_match 168 = .ok (.iconst 1, 1) := by decide +kernel
theorem d_Model_match_169 : decode b_Model_match 169 = .ok (.goto 4, 3) := by decide +kernel
theorem d_Model_match_172 : decode b_Model_match 172 = .ok (.iconst 0, 1) := by decide +kernel
theorem d_Model_match_173 : decode b_Model_match 173 = .ok (.iadd, 1) := by decide +kernel
theorem d_Model_match_174 : decode b_Model_match 174 = .ok (.istore 4, 2) := by decide +kernel
theorem d_Model_match_176 : decode b_Model_match 176 = .ok (.iinc 5 1, 3) := by decide +kernel
theorem d_Model_match_179 : decode b_Model_match 179 = .ok (.goto (-134), 3) := by decide +kernel
theorem d_Model_match_182 : decode b_Model_match 182 = .ok (.iload 4, 2) := by decide +kernel
theorem d_Model_match_184 : decode b_Model_match 184 = .ok (.ireturn, 1) := by decide +kernel
theorem d_Model_octet_0 : decode b_Model_octet 0 = .ok (.iload_n 2, 1) := by decide +kernel
theorem d_Model_octet_1 : decode b_Model_octet 1 = .ok (.iconst 2, 1) := by decide +kernel
theorem d_Model_octet_2 : decode b_Model_octet 2 = .ok (.irem, 1) := by decide +kernel
theorem d_Model_octet_3 : decode b_Model_octet 3 = .ok (.ifCond .ne 22, 3) := by decide +kernel
theorem d_Model_octet_6 : decode b_Model_octet 6 = .ok (.aload_n 0, 1) := by decide +kernel
theorem d_Model_octet_7 : decode b_Model_octet 7 = .ok (.getfield 19, 3) := by decide +kernel
theorem d_Model_octet_10 : decode b_Model_octet 10 = .ok (.bipush 8, 2) := by decide +kernel
theorem d_Model_octet_12 : decode b_Model_octet 12 = .ok (.iload_n 1, 1) := by decide +kernel
theorem d_Model_octet_13 : decode b_Model_octet 13 = .ok (.imul, 1) := by decide +kernel
theorem d_Model_octet_14 : decode b_Model_octet 14 = .ok (.iload_n 2, 1) := by decide +kernel
theorem d_Model_octet_15 : decode b_Model_octet 15 = .ok (.iconst 2, 1) := by decide +kernel
theorem d_Model_octet_16 : decode b_Model_octet 16 = .ok (.idiv, 1) := by decide +kernel
theorem d_Model_octet_17 : decode b_Model_octet 17 = .ok (.iadd, 1) := by decide +kernel
theorem d_Model_octet_18 : decode b_Model_octet 18 = .ok (.iaload, 1) := by decide +kernel
theorem d_Model_octet_19 : decode b_Model_octet 19 = .ok (.bipush 8, 2) := by decide +kernel
theorem d_Model_octet_21 : decode b_Model_octet 21 = .ok (.ishr, 1) := by decide +kernel
theorem d_Model_octet_22 : decode b_Model_octet 22 = .ok (.goto 20, 3) := by decide +kernel
theorem d_Model_octet_25 : decode b_Model_octet 25 = .ok (.aload_n 0, 1) := by decide +kernel
theorem d_Model_octet_26 : decode b_Model_octet 26 = .ok (.getfield 19, 3) := by decide +kernel
theorem d_Model_octet_29 : decode b_Model_octet 29 = .ok (.bipush 8, 2) := by decide +kernel
theorem d_Model_octet_31 : decode b_Model_octet 31 = .ok (.iload_n 1, 1) := by decide +kernel
theorem d_Model_octet_32 : decode b_Model_octet 32 = .ok (.imul, 1) := by decide +kernel
theorem d_Model_octet_33 : decode b_Model_octet 33 = .ok (.iload_n 2, 1) := by decide +kernel
theorem d_Model_octet_34 : decode b_Model_octet 34 = .ok (.iconst 2, 1) := by decide +kernel
theorem d_Model_octet_35 : decode b_Model_octet 35 = .ok (.idiv, 1) := by decide +kernel
theorem d_Model_octet_36 : decode b_Model_octet 36 = .ok (.iadd, 1) := by decide +kernel
theorem d_Model_octet_37 : decode b_Model_octet 37 = .ok (.iaload, 1) := by decide +kernel
theorem d_Model_octet_38 : decode b_Model_octet 38 = .ok (.sipush 255, 3) := by decide +kernel
theorem d_Model_octet_41 : decode b_Model_octet 41 = .ok (.iand, 1) := by decide +kernel
theorem d_Model_octet_42 : decode b_Model_octet 42 = .ok (.ireturn, 1) := by decide +kernel
theorem d_Model_sameBytes_0 : decode b_Model_sameBytes 0 = .ok (.iconst 2, 1) := by decide +kernel
theorem d_Model_sameBytes_1 : decode b_Model_sameBytes 1 = .ok (.aload_n 0, 1) := by decide +kernel
theorem d_Model_sameBytes_2 : decode b_Model_sameBytes 2 = .ok (.getfield 22, 3) := by decide +kernel
theorem d_Model_sameBytes_5 : decode b_Model_sameBytes 5 = .ok (.iload_n 2, 1) := by decide +kernel
theorem d_Model_sameBytes_6 : decode b_Model_sameBytes 6 = .ok (.iaload, 1) := by decide +kernel
theorem d_Model_sameBytes_7 : decode b_Model_sameBytes 7 = .ok (.imul, 1) := by decide +kernel
theorem d_Model_sameBytes_8 : decode b_Model_sameBytes 8 = .ok (.iload_n 3, 1) := by decide +kernel
theorem d_Model_sameBytes_9 : decode b_Model_sameBytes 9 = .ok (.if_icmp .ge 5, 3) := by decide +kernel
theorem d_Model_sameBytes_12 : decode b_Model_sameBytes 12 = .ok (.iconst 0, 1) := by decide +kernel
theorem d_Model_sameBytes_13 : decode b_Model_sameBytes 13 = .ok (.ireturn, 1) := by decide +kernel
theorem d_Model_sameBytes_14 : decode b_Model_sameBytes 14 = .ok (.iconst 0, 1) := by decide +kernel
theorem d_Model_sameBytes_15 : decode b_Model_sameBytes 15 = .ok (.istore 4, 2) := by decide +kernel
theorem d_Model_sameBytes_17 : decode b_Model_sameBytes 17 = .ok (.iload 4, 2) := by decide +kernel
theorem d_Model_sameBytes_19 : decode b_Model_sameBytes 19 = .ok (.iload_n 3, 1) := by decide +kernel
theorem d_Model_sameBytes_20 : decode b_Model_sameBytes 20 = .ok (.if_icmp .ge 28, 3) := by decide +kernel
theorem d_Model_sameBytes_23 : decode b_Model_sameBytes 23 = .ok (.aload_n 0, 1) := by decide +kernel
theorem d_Model_sameBytes_24 : decode b_Model_sameBytes 24 = .ok (.iload_n 1, 1) := by decide +kernel
theorem d_Model_sameBytes_25 : decode b_Model_sameBytes 25 = .ok (.iload 4, 2) := by decide +kernel
theorem d_Model_sameBytes_27 : decode b_Model_sameBytes 27 = .ok (.invokevirtual 174, 3) := by decide +kernel
theorem d_Model_sameBytes_30 : decode b_Model_sameBytes 30 = .ok (.aload_n 0, 1) := by decide +kernel
theorem d_Model_sameBytes_31 : decode b_Model_sameBytes 31 = .ok (.iload_n 2, 1) := by decide +kernel
theorem d_Model_sameBytes_32 : decode b_Model_sameBytes 32 = .ok (.iload 4, 2) := by decide +kernel
theorem d_Model_sameBytes_34 : decode b_Model_sameBytes 34 = .ok (.invokevirtual 174, 3) := by decide +kernel
theorem d_Model_sameBytes_37 : decode b_Model_sameBytes 37 = .ok (.if_icmp .eq 5, 3) := by decide +kernel
theorem d_Model_sameBytes_40 : decode b_Model_sameBytes 40 = .ok (.iconst 0, 1) := by decide +kernel
theorem d_Model_sameBytes_41 : decode b_Model_sameBytes 41 = .ok (.ireturn, 1) := by decide +kernel
theorem d_Model_sameBytes_42 : decode b_Model_sameBytes 42 = .ok (.iinc 4 1, 3) := by decide +kernel
theorem d_Model_sameBytes_45 : decode b_Model_sameBytes 45 = .ok (.goto (-28), 3) := by decide +kernel
theorem d_Model_sameBytes_48 : decode b_Model_sameBytes 48 = .ok (.iconst 1, 1) := by decide +kernel
theorem d_Model_sameBytes_49 : decode b_Model_sameBytes 49 = .ok (.ireturn, 1) := by decide +kernel
theorem d_Model_fan_0 : decode b_Model_fan 0 = .ok (.iconst 0, 1) := by decide +kernel
theorem d_Model_fan_1 : decode b_Model_fan 1 = .ok (.istore_n 3, 1) := by decide +kernel
theorem d_Model_fan_2 : decode b_Model_fan 2 = .ok (.iconst 0, 1) := by decide +kernel
theorem d_Model_fan_3 : decode b_Model_fan 3 = .ok (.istore 4, 2) := by decide +kernel
theorem d_Model_fan_5 : decode b_Model_fan 5 = .ok (.bipush 64, 2) := by decide +kernel
theorem d_Model_fan_7 : decode b_Model_fan 7 = .ok (.istore 5, 2) := by decide +kernel
theorem d_Model_fan_9 : decode b_Model_fan 9 = .ok (.iload 5, 2) := by decide +kernel
theorem d_Model_fan_11 : decode b_Model_fan 11 = .ok (.bipush 64, 2) := by decide +kernel
theorem d_Model_fan_13 : decode b_Model_fan 13 = .ok (.aload_n 0, 1) := by decide +kernel
theorem d_Model_fan_14 : decode b_Model_fan 14 = .ok (.getfield 13, 3) := by decide +kernel
theorem d_Model_fan_17 : decode b_Model_fan 17 = .ok (.iconst 1, 1) := by decide +kernel
theorem d_Model_fan_18 : decode b_Model_fan 18 = .ok (.iaload, 1) := by decide +kernel
theorem d_Model_fan_19 : decode b_Model_fan 19 = .ok (.iadd, 1) := by decide +kernel
theorem d_Model_fan_20 : decode b_Model_fan 20 = .ok (.if_icmp .ge 158, 3) := by decide +kernel
theorem d_Model_fan_23 : decode b_Model_fan 23 = .ok (.aload_n 0, 1) := by decide +kernel
theorem d_Model_fan_24 : decode b_Model_fan 24 = .ok (.iload_n 1, 1) := by decide +kernel
theorem d_Model_fan_25 : decode b_Model_fan 25 = .ok (.iload 5, 2) := by decide +kernel
theorem d_Model_fan_27 : decode b_Model_fan 27 = .ok (.iload_n 2, 1) := by decide +kernel
theorem d_Model_fan_28 : decode b_Model_fan 28 = .ok (.invokevirtual 177, 3) := by decide +kernel
theorem d_Model_fan_31 : decode b_Model_fan 31 = .ok (.ifCond .ne 6, 3) := by decide +kernel
theorem d_Model_fan_34 : decode b_Model_fan 34 = .ok (.goto 138, 3) := by decide +kernel
theorem d_Model_fan_37 : decode b_Model_fan 37 = .ok (.iload 5, 2) := by decide +kernel
theorem d_Model_fan_39 : decode b_Model_fan 39 = .ok (.iload_n 1, 1) := by decide +kernel
theorem d_Model_fan_40 : decode b_Model_fan 40 = .ok (.if_icmp .ge 5, 3) := by decide +kernel
theorem d_Model_fan_43 : decode b_Model_fan 43 = .ok (.iconst 0, 1) := by decide +kernel
theorem d_Model_fan_44 : decode b_Model_fan 44 = .ok (.ireturn, 1) := by decide +kernel
theorem d_Model_fan_45 : decode b_Model_fan 45 = .ok (.iload_n 3, 1) := by decide +kernel
theorem d_Model_fan_46 : decode b_Model_fan 46 = .ok (.ifCond .ne 16, 3) := by decide +kernel
theorem d_Model_fan_49 : decode b_Model_fan 49 = .ok (.iconst 2, 1) := by decide +kernel
theorem d_Model_fan_50 : decode b_Model_fan 50 = .ok (.aload_n 0, 1) := by decide +kernel
theorem d_Model_fan_51 : decode b_Model_fan 51 = .ok (.getfield 22, 3) := by decide +kernel
theorem d_Model_fan_54 : decode b_Model_fan 54 = .ok (.iload 5, 2) := by decide +kernel
theorem d_Model_fan_56 : decode b_Model_fan 56 = .ok (.iaload, 1) := by decide +kernel
theorem d_Model_fan_57 : decode b_Model_fan 57 = .ok (.imul, 1) := by decide +kernel
theorem d_Model_fan_58 : decode b_Model_fan 58 = .ok (.iload_n 2, 1) := by decide +kernel
theorem d_Model_fan_59 : decode b_Model_fan 59 = .ok (.if_icmp .ne 7, 3) := by decide +kernel
theorem d_Model_fan_62 : decode b_Model_fan 62 = .ok (.iconst 1, 1) := by decide +kernel
theorem d_Model_fan_63 : decode b_Model_fan 63 = .ok (.goto 4, 3) := by decide +kernel
theorem d_Model_fan_66 : decode b_Model_fan 66 = .ok (.iconst 0, 1) := by decide +kernel
theorem d_Model_fan_67 : decode b_Model_fan 67 = .ok (.istore_n 3, 1) := by decide +kernel
theorem d_Model_fan_68 : decode b_Model_fan 68 = .ok (.iconst 2, 1) := by decide +kernel
theorem d_Model_fan_69 : decode b_Model_fan 69 = .ok (.aload_n 0, 1) := by decide +kernel
theorem d_Model_fan_70 : decode b_Model_fan 70 = .ok (.getfield 22, 3) := by decide +kernel
theorem d_Model_fan_73 : decode b_Model_fan 73 = .ok (.iload 5, 2) := by decide +kernel
theorem d_Model_fan_75 : decode b_Model_fan 75 = .ok (.iaload, 1) := by decide +kernel
theorem d_Model_fan_76 : decode b_Model_fan 76 = .ok (.imul, 1) := by decide +kernel
theorem d_Model_fan_77 : decode b_Model_fan 77 = .ok (.iload_n 2, 1) := by decide +kernel
theorem d_Model_fan_78 : decode b_Model_fan 78 = .ok (.if_icmp .ne 6, 3) := by decide +kernel
theorem d_Model_fan_81 : decode b_Model_fan 81 = .ok (.goto 91, 3) := by decide +kernel
theorem d_Model_fan_84 : decode b_Model_fan 84 = .ok (.iconst 1, 1) := by decide +kernel
theorem d_Model_fan_85 : decode b_Model_fan 85 = .ok (.istore 6, 2) := by decide +kernel
theorem d_Model_fan_87 : decode b_Model_fan 87 = .ok (.bipush 64, 2) := by decide +kernel
theorem d_Model_fan_89 : decode b_Model_fan 89 = .ok (.istore 7, 2) := by decide +kernel
theorem d_Model_fan_91 : decode b_Model_fan 91 = .ok (.iload 7, 2) := by decide +kernel
theorem d_Model_fan_93 : decode b_Model_fan 93 = .ok (.iload 5, 2) := by decide +kernel
theorem d_Model_fan_95 : decode b_Model_fan 95 = .ok (.if_icmp .ge 62, 3) := by decide +kernel
theorem d_Model_fan_98 : decode b_Model_fan 98 = .ok (.iload 6, 2) := by decide +kernel
theorem d_Model_fan_100 : decode b_Model_fan 100 = .ok (.ifCond .eq 48, 3) := by decide +kernel
theorem d_Model_fan_103 : decode b_Model_fan 103 = .ok (.aload_n 0, 1) := by decide +kernel
theorem d_Model_fan_104 : decode b_Model_fan 104 = .ok (.iload_n 1, 1) := by decide +kernel
theorem d_Model_fan_105 : decode b_Model_fan 105 = .ok (.iload 7, 2) := by decide +kernel
theorem d_Model_fan_107 : decode b_Model_fan 107 = .ok (.iload_n 2, 1) := by decide +kernel
theorem d_Model_fan_108 : decode b_Model_fan 108 = .ok (.invokevirtual 177, 3) := by decide +kernel
theorem d_Model_fan_111 : decode b_Model_fan 111 = .ok (.ifCond .eq 33, 3) := by decide +kernel
theorem d_Model_fan_114 : decode b_Model_fan 114 = .ok (.iconst 2, 1) := by decide +kernel
theorem d_Model_fan_115 : decode b_Model_fan 115 = .ok (.aload_n 0, 1) := by decide +kernel
theorem d_Model_fan_116 : decode b_Model_fan 116 = .ok (.getfield 22, 3) := by decide +kernel
theorem d_Model_fan_119 : decode b_Model_fan 119 = .ok (.iload 7, 2) := by decide +kernel
theorem d_Model_fan_121 : decode b_Model_fan 121 = .ok (.iaload, 1) := by decide +kernel
theorem d_Model_fan_122 : decode b_Model_fan 122 = .ok (.imul, 1) := by decide +kernel
theorem d_Model_fan_123 : decode b_Model_fan 123 = .ok (.iload_n 2, 1) := by decide +kernel
theorem d_Model_fan_124 : decode b_Model_fan 124 = .ok (.if_icmp .le 20, 3) := by decide +kernel
theorem d_Model_fan_127 : decode b_Model_fan 127 = .ok (.aload_n 0, 1) := by decide +kernel
theorem d_Model_fan_128 : decode b_Model_fan 128 = .ok (.iload 7, 2) := by decide +kernel
theorem d_Model_fan_130 : decode b_Model_fan 130 = .ok (.iload_n 2, 1) := by decide +kernel
theorem d_Model_fan_131 : decode b_Model_fan 131 = .ok (.invokevirtual 174, 3) := by decide +kernel
theorem d_Model_fan_134 : decode b_Model_fan 134 = .ok (.aload_n 0, 1) := by decide +kernel
theorem d_Model_fan_135 : decode b_Model_fan 135 = .ok (.iload 5, 2) := by decide +kernel
theorem d_Model_fan_137 : decode b_Model_fan 137 = .ok (.iload_n 2, 1) := by decide +kernel
theorem d_Model_fan_138 : decode b_Model_fan 138 = .ok (.invokevirtual 174, 3) := by decide +kernel
theorem d_Model_fan_141 : decode b_Model_fan 141 = .ok (.if_icmp .eq 7, 3) := by decide +kernel
theorem d_Model_fan_144 : decode b_Model_fan 144 = .ok (.iconst 1, 1) := by decide +kernel
theorem d_Model_fan_145 : decode b_Model_fan 145 = .ok (.goto 4, 3) := by decide +kernel
theorem d_Model_fan_148 : decode b_Model_fan 148 = .ok (.iconst 0, 1) := by decide +kernel
theorem d_Model_fan_149 : decode b_Model_fan 149 = .ok (.istore 6, 2) := by decide +kernel
theorem d_Model_fan_151 : decode b_Model_fan 151 = .ok (.iinc 7 1, 3) := by decide +kernel
theorem d_Model_fan_154 : decode b_Model_fan 154 = .ok (.goto (-63), 3) := by decide +kernel
theorem d_Model_fan_157 : decode b_Model_fan 157 = .ok (.iload 4, 2) := by decide +kernel
theorem d_Model_fan_159 : decode b_Model_fan 159 = .ok (.iload 6, 2) := by decide +kernel
theorem d_Model_fan_161 : decode b_Model_fan 161 = .ok (.ifCond .eq 7, 3) := by decide +kernel
theorem d_Model_fan_164 : decode b_Model_fan 164 = .ok (.iconst 1, 1) := by decide +kernel
theorem d_Model_fan_165 : decode b_Model_fan 165 = .ok (.goto 4, 3) := by decide +kernel
theorem d_Model_fan_168 : decode b_Model_fan 168 = .ok (.iconst 0, 1) := by decide +kernel
theorem d_Model_fan_169 : decode b_Model_fan 169 = .ok (.iadd, 1) := by decide +kernel
theorem d_Model_fan_170 : decode b_Model_fan 170 = .ok (.istore 4, 2) := by decide +kernel
theorem d_Model_fan_172 : decode b_Model_fan 172 = .ok (.iinc 5 1, 3) := by decide +kernel
theorem d_Model_fan_175 : decode b_Model_fan 175 = .ok (.goto (-166), 3) := by decide +kernel
theorem d_Model_fan_178 : decode b_Model_fan 178 = .ok (.iload 4, 2) := by decide +kernel
theorem d_Model_fan_180 : decode b_Model_fan 180 = .ok (.iconst 1, 1) := by decide +kernel
theorem d_Model_fan_181 : decode b_Model_fan 181 = .ok (.if_icmp .gt 7, 3) := by decide +kernel
theorem d_Model_fan_184 : decode b_Model_fan 184 = .ok (.iload_n 3, 1) := by decide +kernel
theorem d_Model_fan_185 : decode b_Model_fan 185 = .ok (.ifCond .eq 8, 3) := by decide +kernel
theorem d_Model_fan_188 : decode b_Model_fan 188 = .ok (.iload 4, 2) := by decide +kernel
theorem d_Model_fan_190 : decode b_Model_fan 190 = .ok (.goto 4, 3) := by decide +kernel
theorem d_Model_fan_193 : decode b_Model_fan 193 = .ok (.iconst 0, 1) := by decide +kernel
theorem d_Model_fan_194 : decode b_Model_fan 194 = .ok (.ireturn, 1) := by decide +kernel
theorem d_Model_inner_0 : decode b_Model_inner 0 = .ok (.iconst 0, 1) := by decide +kernel
theorem d_Model_inner_1 : decode b_Model_inner 1 = .ok (.istore_n 2, 1) := by decide +kernel
theorem d_Model_inner_2 : decode b_Model_inner 2 = .ok (.bipush 64, 2) := by decide +kernel
theorem d_Model_inner_4 : decode b_Model_inner 4 = .ok (.istore_n 3, 1) := by decide +kernel
theorem d_Model_inner_5 : decode b_Model_inner 5 = .ok (.iload_n 3, 1) := by decide +kernel
theorem d_Model_inner_6 : decode b_Model_inner 6 = .ok (.bipush 64, 2) := by decide +kernel
theorem d_Model_inner_8 : decode b_Model_inner 8 = .ok (.aload_n 0, 1) := by decide +kernel
theorem d_Model_inner_9 : decode b_Model_inner 9 = .ok (.getfield 13, 3) := by decide +kernel
theorem d_Model_inner_12 : decode b_Model_inner 12 = .ok (.iconst 1, 1) := by decide +kernel
theorem d_Model_inner_13 : decode b_Model_inner 13 = .ok (.iaload, 1) := by decide +kernel
theorem d_Model_inner_14 : decode b_Model_inner 14 = .ok (.iadd, 1) := by decide +kernel
theorem d_Model_inner_15 : decode b_Model_inner 15 = .ok (.if_icmp .ge 161, 3) := by decide +kernel
theorem d_Model_inner_18 : decode b_Model_inner 18 = .ok (.iconst 0, 1) := by decide +kernel
theorem d_Model_inner_19 : decode b_Model_inner 19 = .ok (.istore 4, 2) := by decide +kernel
theorem d_Model_inner_21 : decode b_Model_inner 21 = .ok (.iload 4, 2) := by decide +kernel
theorem d_Model_inner_23 : decode b_Model_inner 23 = .ok (.iconst 2, 1) := by decide +kernel
theorem d_Model_inner_24 : decode b_Model_inner 24 = .ok (.aload_n 0, 1) := by decide +kernel
theorem d_Model_inner_25 : decode b_Model_inner 25 = .ok (.getfield 22, 3) := by decide +kernel
theorem d_Model_inner_28 : decode b_Model_inner 28 = .ok (.iload_n 3, 1) := by decide +kernel
theorem d_Model_inner_29 : decode b_Model_inner 29 = .ok (.iaload, 1) := by decide +kernel
theorem d_Model_inner_30 : decode b_Model_inner 30 = .ok (.imul, 1) := by decide +kernel
theorem d_Model_inner_31 : decode b_Model_inner 31 = .ok (.if_icmp .gt 139, 3) := by decide +kernel
theorem d_Model_inner_34 : decode b_Model_inner 34 = .ok (.aload_n 0, 1) := by decide +kernel
theorem d_Model_inner_35 : decode b_Model_inner 35 = .ok (.iload_n 3, 1) := by decide +kernel
theorem d_Model_inner_36 : decode b_Model_inner 36 = .ok (.iload 4, 2) := by decide +kernel
theorem d_Model_inner_38 : decode b_Model_inner 38 = .ok (.invokevirtual 181, 3) := by decide +kernel
theorem d_Model_inner_41 : decode b_Model_inner 41 = .ok (.istore 5, 2) := by decide +kernel
theorem d_Model_inner_43 : decode b_Model_inner 43 = .ok (.iload_n 1, 1) := by decide +kernel
theorem d_Model_inner_44 : decode b_Model_inner 44 = .ok (.ifCond .ne 16, 3) := by decide +kernel
theorem d_Model_inner_47 : decode b_Model_inner 47 = .ok (.iload 5, 2) := by decide +kernel
theorem d_Model_inner_49 : decode b_Model_inner 49 = .ok (.ifCond .le 7, 3) := by decide +kernel
theorem d_Model_inner_52 : decode b_Model_inner 52 = .ok (.iconst 1, 1) := by decide +kernel
theorem d_Model_inner_53 : decode b_Model_inner 53 = .ok (.goto 96, 3) := by decide +kernel
theorem d_Model_inner_56 : decode b_Model_inner 56 = .ok (.iconst 0, 1) := by decide +kernel
theorem d_Model_inner_57 : decode b_Model_inner 57 = .ok (.goto 92, 3) := by decide +kernel
theorem d_Model_inner_60 : decode b_Model_inner 60 = .ok (.iload_n 1, 1) := by decide +kernel
theorem d_Model_inner_61 : decode b_Model_inner 61 = .ok (.iconst 1, 1) := by decide +kernel
theorem d_Model_inner_62 : decode b_Model_inner 62 = .ok (.if_icmp .ne 22, 3) := by decide +kernel
theorem d_Model_inner_65 : decode b_Model_inner 65 = .ok (.iload 5, 2) := by decide +kernel
theorem d_Model_inner_67 : decode b_Model_inner 67 = .ok (.ifCond .le 13, 3) := by decide +kernel
theorem d_Model_inner_70 : decode b_Model_inner 70 = .ok (.iload 5, 2) := by decide +kernel
theorem d_Model_inner_72 : decode b_Model_inner 72 = .ok (.iconst 4, 1) := by decide +kernel
theorem d_Model_inner_73 : decode b_Model_inner 73 = .ok (.if_icmp .gt 7, 3) := by decide +kernel
theorem d_Model_inner_76 : decode b_Model_inner 76 = .ok (.iconst 1, 1) := by decide +kernel
theorem d_Model_inner_77 : decode b_Model_inner 77 = .ok (.goto 72, 3) := by decide +kernel
theorem d_Model_inner_80 : decode b_Model_inner 80 = .ok (.iconst 0, 1) := by decide +kernel
theorem d_Model_inner_81 : decode b_Model_inner 81 = .ok (.goto 68, 3) := by decide +kernel
theorem d_Model_inner_84 : decode b_Model_inner 84 = .ok (.iload_n 1, 1) := by decide +kernel
theorem d_Model_inner_85 : decode b_Model_inner 85 = .ok (.iconst 2, 1) := by decide +kernel
theorem d_Model_inner_86 : decode b_Model_inner 86 = .ok (.if_icmp .ne 24, 3) := by decide +kernel
theorem d_Model_inner_89 : decode b_Model_inner 89 = .ok (.iload 5, 2) := by decide +kernel
theorem d_Model_inner_91 : decode b_Model_inner 91 = .ok (.iconst 4, 1) := by decide +kernel
theorem d_Model_inner_92 : decode b_Model_inner 92 = .ok (.if_icmp .le 14, 3) := by decide +kernel
theorem d_Model_inner_95 : decode b_Model_inner 95 = .ok (.iload 5, 2) := by decide +kernel
theorem d_Model_inner_97 : decode b_Model_inner 97 = .ok (.bipush 16, 2) := by decide +kernel
theorem d_Model_inner_99 : decode b_Model_inner 99 = .ok (.if_icmp .gt 7, 3) := by decide +kernel
theorem d_Model_inner_102 : decode b_Model_inner 102 = .ok (.iconst 1, 1) := by decide +kernel
theorem d_Model_inner_103 : decode b_Model_inner 103 = .ok (.goto 46, 3) := by decide +kernel
theorem d_Model_inner_106 : decode b_Model_inner 106 = .ok (.iconst 0, 1) := by decide +kernel
theorem d_Model_inner_107 : decode b_Model_inner 107 = .ok (.goto 42, 3) := by decide +kernel
theorem d_Model_inner_110 : decode b_Model_inner 110 = .ok (.iload_n 1, 1) := by decide +kernel
theorem d_Model_inner_111 : decode b_Model_inner 111 = .ok (.iconst 3, 1) := by decide +kernel
theorem d_Model_inner_112 : decode b_Model_inner 112 = .ok (.if_icmp .ne 25, 3) := by decide +kernel
theorem d_Model_inner_115 : decode b_Model_inner 115 = .ok (.iload 5, 2) := by decide +kernel
theorem d_Model_inner_117 : decode b_Model_inner 117 = .ok (.bipush 16, 2) := by decide +kernel
theorem d_Model_inner_119 : decode b_Model_inner 119 = .ok (.if_icmp .le 14, 3) := by decide +kernel
theorem d_Model_inner_122 : decode b_Model_inner 122 = .ok (.iload 5, 2) := by decide +kernel
theorem d_Model_inner_124 : decode b_Model_inner 124 = .ok (.bipush 48, 2) := by decide +kernel
theorem d_Model_inner_126 : decode b_Model_inner 126 = .ok (.if_icmp .gt 7, 3) := by decide +kernel
theorem d_Model_inner_129 : decode b_Model_inner 129 = .ok (.iconst 1, 1) := by decide +kernel
theorem d_Model_inner_130 : decode b_Model_inner 130 = .ok (.goto 19, 3) := by decide +kernel
theorem d_Model_inner_133 : decode b_Model_inner 133 = .ok (.iconst 0, 1) := by decide +kernel
theorem d_Model_inner_134 : decode b_Model_inner 134 = .ok (.goto 15, 3) := by decide +kernel
theorem d_Model_inner_137 : decode b_Model_inner 137 = .ok (.iload 5, 2) := by decide +kernel
theorem d_Model_inner_139 : decode b_Model_inner 139 = .ok (.bipush 48, 2) := by decide +kernel
theorem d_Model_inner_141 : decode b_Model_inner 141 = .ok (.if_icmp .le 7, 3) := by decide +kernel
theorem d_Model_inner_144 : decode b_Model_inner 144 = .ok (.iconst 1, 1) := by decide +kernel
theorem d_Model_inner_145 : decode b_Model_inner 145 = .ok (.goto 4, 3) := by decide +kernel
theorem d_Model_inner_148 : decode b_Model_inner 148 = .ok (.iconst 0, 1) := by decide +kernel
theorem d_Model_inner_149 : decode b_Model_inner 149 = .ok (.istore 6, 2) := by decide +kernel
theorem d_Model_inner_151 : decode b_Model_inner 151 = .ok (.iload_n 2, 1) := by decide +kernel
theorem d_Model_inner_152 : decode b_Model_inner 152 = .ok (.iload 6, 2) := by decide +kernel
theorem d_Model_inner_154 : decode b_Model_inner 154 = .ok (.ifCond .eq 7, 3) := by decide +kernel
theorem d_Model_inner_157 : decode b_Model_inner 157 = .ok (.iconst 1, 1) := by decide +kernel
theorem d_Model_inner_158 : decode b_Model_inner 158 = .ok (.goto 4, 3) := by decide +kernel
theorem d_Model_inner_161 : decode b_Model_inner 161 = .ok (.iconst 0, 1) := by decide +kernel
theorem d_Model_inner_162 : decode b_Model_inner 162 = .ok (.iadd, 1) := by decide +kernel
theorem d_Model_inner_163 : decode b_Model_inner 163 = .ok (.istore_n 2, 1) := by decide +kernel
theorem d_Model_inner_164 : decode b_Model_inner 164 = .ok (.iinc 4 1, 3) := by decide +kernel
theorem d_Model_inner_167 : decode b_Model_inner 167 = .ok (.goto (-146), 3) := by decide +kernel
theorem d_Model_inner_170 : decode b_Model_inner 170 = .ok (.iinc 3 1, 3) := by decide +kernel
theorem d_Model_inner_173 : decode b_Model_inner 173 = .ok (.goto (-168), 3) := by decide +kernel
theorem d_Model_inner_176 : decode b_Model_inner 176 = .ok (.iload_n 2, 1) := by decide +kernel
theorem d_Model_inner_177 : decode b_Model_inner 177 = .ok (.ireturn, 1) := by decide +kernel
theorem d_Model_bit_0 : decode b_Model_bit 0 = .ok (.iload_n 2, 1) := by decide +kernel
theorem d_Model_bit_1 : decode b_Model_bit 1 = .ok (.bipush 17, 2) := by decide +kernel
theorem d_Model_bit_3 : decode b_Model_bit 3 = .ok (.idiv, 1) := by decide +kernel
theorem d_Model_bit_4 : decode b_Model_bit 4 = .ok (.istore_n 3, 1) := by decide +kernel
theorem d_Model_bit_5 : decode b_Model_bit 5 = .ok (.iload_n 3, 1) := by decide +kernel
theorem d_Model_bit_6 : decode b_Model_bit 6 = .ok (.aload_n 0, 1) := by decide +kernel
theorem d_Model_bit_7 : decode b_Model_bit 7 = .ok (.getfield 22, 3) := by decide +kernel
theorem d_Model_bit_10 : decode b_Model_bit 10 = .ok (.iload_n 1, 1) := by decide +kernel
theorem d_Model_bit_11 : decode b_Model_bit 11 = .ok (.iaload, 1) := by decide +kernel
theorem d_Model_bit_12 : decode b_Model_bit 12 = .ok (.if_icmp .lt 7, 3) := by decide +kernel
theorem d_Model_bit_15 : decode b_Model_bit 15 = .ok (.iconst 0, 1) := by decide +kernel
theorem d_Model_bit_16 : decode b_Model_bit 16 = .ok (.goto 35, 3) := by decide +kernel
theorem d_Model_bit_19 : decode b_Model_bit 19 = .ok (.iload_n 2, 1) := by decide +kernel
theorem d_Model_bit_20 : decode b_Model_bit 20 = .ok (.bipush 17, 2) := by decide +kernel
theorem d_Model_bit_22 : decode b_Model_bit 22 = .ok (.irem, 1) := by decide +kernel
theorem d_Model_bit_23 : decode b_Model_bit 23 = .ok (.ifCond .ne 7, 3) := by decide +kernel
theorem d_Model_bit_26 : decode b_Model_bit 26 = .ok (.iconst 1, 1) := by decide +kernel
theorem d_Model_bit_27 : decode b_Model_bit 27 = .ok (.goto 24, 3) := by decide +kernel
theorem d_Model_bit_30 : decode b_Model_bit 30 = .ok (.aload_n 0, 1) := by decide +kernel
theorem d_Model_bit_31 : decode b_Model_bit 31 = .ok (.getfield 19, 3) := by decide +kernel
theorem d_Model_bit_34 : decode b_Model_bit 34 = .ok (.bipush 8, 2) := by decide +kernel
theorem d_Model_bit_36 : decode b_Model_bit 36 = .ok (.iload_n 1, 1) := by decide +kernel
theorem d_Model_bit_37 : decode b_Model_bit 37 = .ok (.imul, 1) := by decide +kernel
theorem d_Model_bit_38 : decode b_Model_bit 38 = .ok (.iload_n 3, 1) := by decide +kernel
theorem d_Model_bit_39 : decode b_Model_bit 39 = .ok (.iadd, 1) := by decide +kernel
theorem d_Model_bit_40 : decode b_Model_bit 40 = .ok (.iaload, 1) := by decide +kernel
theorem d_Model_bit_41 : decode b_Model_bit 41 = .ok (.bipush 16, 2) := by decide +kernel
theorem d_Model_bit_43 : decode b_Model_bit 43 = .ok (.iload_n 2, 1) := by decide +kernel
theorem d_Model_bit_44 : decode b_Model_bit 44 = .ok (.bipush 17, 2) := by decide +kernel
theorem d_Model_bit_46 : decode b_Model_bit 46 = .ok (.irem, 1) := by decide +kernel
theorem d_Model_bit_47 : decode b_Model_bit 47 = .ok (.isub, 1) := by decide +kernel
theorem d_Model_bit_48 : decode b_Model_bit 48 = .ok (.ishr, 1) := by decide +kernel
theorem d_Model_bit_49 : decode b_Model_bit 49 = .ok (.iconst 1, 1) := by decide +kernel
theorem d_Model_bit_50 : decode b_Model_bit 50 = .ok (.iand, 1) := by decide +kernel
theorem d_Model_bit_51 : decode b_Model_bit 51 = .ok (.ireturn, 1) := by decide +kernel
theorem d_Model_depth_0 : decode b_Model_depth 0 = .ok (.iconst 0, 1) := by decide +kernel
theorem d_Model_depth_1 : decode b_Model_depth 1 = .ok (.istore_n 2, 1) := by decide +kernel
theorem d_Model_depth_2 : decode b_Model_depth 2 = .ok (.iload_n 2, 1) := by decide +kernel
theorem d_Model_depth_3 : decode b_Model_depth 3 = .ok (.sipush 140, 3) := by decide +kernel
theorem d_Model_depth_6 : decode b_Model_depth 6 = .ok (.if_icmp .ge 16, 3) := by decide +kernel
theorem d_Model_depth_9 : decode b_Model_depth 9 = .ok (.aload_n 0, 1) := by decide +kernel
theorem d_Model_depth_10 : decode b_Model_depth 10 = .ok (.getfield 66, 3) := by decide +kernel
theorem d_Model_depth_13 : decode b_Model_depth 13 = .ok (.iload_n 2, 1) := by decide +kernel
theorem d_Model_depth_14 : decode b_Model_depth 14 = .ok (.iconst 0, 1) := by decide +kernel
theorem d_Model_depth_15 : decode b_Model_depth 15 = .ok (.bastore, 1) := by decide +kernel
theorem d_Model_depth_16 : decode b_Model_depth 16 = .ok (.iinc 2 1, 3) := by decide +kernel
theorem d_Model_depth_19 : decode b_Model_depth 19 = .ok (.goto (-17), 3) := by decide +kernel
theorem d_Model_depth_22 : decode b_Model_depth 22 = .ok (.iconst 0, 1) := by decide +kernel
theorem d_Model_depth_23 : decode b_Model_depth 23 = .ok (.istore_n 2, 1) := by decide +kernel
theorem d_Model_depth_24 : decode b_Model_depth 24 = .ok (.iload_n 2, 1) := by decide +kernel
theorem d_Model_depth_25 : decode b_Model_depth 25 = .ok (.aload_n 0, 1) := by decide +kernel
theorem d_Model_depth_26 : decode b_Model_depth 26 = .ok (.getfield 13, 3) := by decide +kernel
theorem d_Model_depth_29 : decode b_Model_depth 29 = .ok (.iconst 0, 1) := by decide +kernel
theorem d_Model_depth_30 : decode b_Model_depth 30 = .ok (.iaload, 1) := by decide +kernel
theorem d_Model_depth_31 : decode b_Model_depth 31 = .ok (.if_icmp .ge 47, 3) := by decide +kernel
theorem d_Model_depth_34 : decode b_Model_depth 34 = .ok (.iload_n 2, 1) := by decide +kernel
theorem d_Model_depth_35 : decode b_Model_depth 35 = .ok (.iload_n 1, 1) := by decide +kernel
theorem d_Model_depth_36 : decode b_Model_depth 36 = .ok (.if_icmp .ne 6, 3) := by decide +kernel
theorem d_Model_depth_39 : decode b_Model_depth 39 = .ok (.goto 33, 3) := by decide +kernel
theorem d_Model_depth_42 : decode b_Model_depth 42 = .ok (.iconst 0, 1) := by decide +kernel
theorem d_Model_depth_43 : decode b_Model_depth 43 = .ok (.istore_n 3, 1) := by decide +kernel
theorem d_Model_depth_44 : decode b_Model_depth 44 = .ok (.aload_n 0, 1) := by decide +kernel
theorem d_Model_depth_45 : decode b_Model_depth 45 = .ok (.iload_n 1, 1) := by decide +kernel
theorem d_Model_depth_46 : decode b_Model_depth 46 = .ok (.iload_n 3, 1) := by decide +kernel
theorem d_Model_depth_47 : decode b_Model_depth 47 = .ok (.invokevirtual 184, 3) := by decide +kernel
theorem d_Model_depth_50 : decode b_Model_depth 50 = .ok (.aload_n 0, 1) := by decide +kernel
theorem d_Model_depth_51 : decode b_Model_depth 51 = .ok (.iload_n 2, 1) := by decide +kernel
theorem d_Model_depth_52 : decode b_Model_depth 52 = .ok (.iload_n 3, 1) := by decide +kernel
theorem d_Model_depth_53 : decode b_Model_depth 53 = .ok (.invokevirtual 184, 3) := by decide +kernel
theorem d_Model_depth_56 : decode b_Model_depth 56 = .ok (.if_icmp .ne 9, 3) := by decide +kernel
theorem d_Model_depth_59 : decode b_Model_depth 59 = .ok (.iinc 3 1, 3) := by decide +kernel
theorem d_Model_depth_62 : decode b_Model_depth 62 = .ok (.goto (-18), 3) := by decide +kernel
theorem d_Model_depth_65 : decode b_Model_depth 65 = .ok (.aload_n 0, 1) := by decide +kernel
theorem d_Model_depth_66 : decode b_Model_depth 66 = .ok (.getfield 66, 3) := by decide +kernel
theorem d_Model_depth_69 : decode b_Model_depth 69 = .ok (.iload_n 3, 1) := by decide +kernel
theorem d_Model_depth_70 : decode b_Model_depth 70 = .ok (.iconst 1, 1) := by decide +kernel
theorem d_Model_depth_71 : decode b_Model_depth 71 = .ok (.bastore, 1) := by decide +kernel
theorem d_Model_depth_72 : decode b_Model_depth 72 = .ok (.iinc 2 1, 3) := by decide +kernel
theorem d_Model_depth_75 : decode b_Model_depth 75 = .ok (.goto (-51), 3) := by decide +kernel
theorem d_Model_depth_78 : decode b_Model_depth 78 = .ok (.iconst 0, 1) := by decide +kernel
theorem d_Model_depth_79 : decode b_Model_depth 79 = .ok (.istore_n 2, 1) := by decide +kernel
theorem d_Model_depth_80 : decode b_Model_depth 80 = .ok (.iconst 0, 1) := by decide +kernel
theorem d_Model_depth_81 : decode b_Model_depth 81 = .ok (.istore_n 3, 1) := by decide +kernel
theorem d_Model_depth_82 : decode b_Model_depth 82 = .ok (.iload_n 3, 1) := by decide +kernel
theorem d_Model_depth_83 : decode b_Model_depth 83 = .ok (.sipush 140, 3) := by decide +kernel
theorem d_Model_depth_86 : decode b_Model_depth 86 = .ok (.if_icmp .ge 26, 3) := by decide +kernel
theorem d_Model_depth_89 : decode b_Model_depth 89 = .ok (.iload_n 2, 1) := by decide +kernel
theorem d_Model_depth_90 : decode b_Model_depth 90 = .ok (.aload_n 0, 1) := by decide +kernel
theorem d_Model_depth_91 : decode b_Model_depth 91 = .ok (.getfield 66, 3) := by decide +kernel
theorem d_Model_depth_94 : decode b_Model_depth 94 = .ok (.iload_n 3, 1) := by decide +kernel
theorem d_Model_depth_95 : decode b_Model_depth 95 = .ok (.baload, 1) := by decide +kernel
theorem d_Model_depth_96 : decode b_Model_depth 96 = .ok (.ifCond .eq 7, 3) := by decide +kernel
theorem d_Model_depth_99 : decode b_Model_depth 99 = .ok (.iconst 1, 1) := by decide +kernel
theorem d_Model_depth_100 : decode b_Model_depth 100 = .ok (.goto 4, 3) := by decide +kernel
theorem d_Model_depth_103 : decode b_Model_depth 103 = .ok (.iconst 0, 1) := by decide +kernel
theorem d_Model_depth_104 : decode b_Model_depth 104 = .ok (.iadd, 1) := by decide +kernel
theorem d_Model_depth_105 : decode b_Model_depth 105 = .ok (.istore_n 2, 1) := by decide +kernel
theorem d_Model_depth_106 : decode b_Model_depth 106 = .ok (.iinc 3 1, 3) := by decide +kernel
theorem d_Model_depth_109 : decode b_Model_depth 109 = .ok (.goto (-27), 3) := by decide +kernel
theorem d_Model_depth_112 : decode b_Model_depth 112 = .ok (.iload_n 2, 1) := by decide +kernel
theorem d_Model_depth_113 : decode b_Model_depth 113 = .ok (.ireturn, 1) := by decide +kernel
theorem d_Model_edges_0 : decode b_Model_edges 0 = .ok (.iload_n 1, 1) := by decide +kernel
theorem d_Model_edges_1 : decode b_Model_edges 1 = .ok (.ifCond .lt 8, 3) := by decide +kernel
theorem d_Model_edges_4 : decode b_Model_edges 4 = .ok (.iload_n 1, 1) := by decide +kernel
theorem d_Model_edges_5 : decode b_Model_edges 5 = .ok (.iconst 5, 1) := by decide +kernel
theorem d_Model_edges_6 : decode b_Model_edges 6 = .ok (.if_icmp .le 9, 3) := by decide +kernel
theorem d_Model_edges_9 : decode b_Model_edges 9 = .ok (.aload_n 0, 1) := by decide +kernel
theorem d_Model_edges_10 : decode b_Model_edges 10 = .ok (.iconst 1, 1) := by decide +kernel
theorem d_Model_edges_11 : decode b_Model_edges 11 = .ok (.invokevirtual 126, 3) := by decide +kernel
theorem d_Model_edges_14 : decode b_Model_edges 14 = .ok (.ireturn, 1) := by decide +kernel
theorem d_Model_edges_15 : decode b_Model_edges 15 = .ok (.aload_n 0, 1) := by decide +kernel
theorem d_Model_edges_16 : decode b_Model_edges 16 = .ok (.iconst 0, 1) := by decide +kernel
theorem d_Model_edges_17 : decode b_Model_edges 17 = .ok (.putfield 99, 3) := by decide +kernel
theorem d_Model_edges_20 : decode b_Model_edges 20 = .ok (.iload_n 1, 1) := by decide +kernel
theorem d_Model_edges_21 : decode b_Model_edges 21 = .ok (.iconst 5, 1) := by decide +kernel
theorem d_Model_edges_22 : decode b_Model_edges 22 = .ok (.if_icmp .ge 9, 3) := by decide +kernel
theorem d_Model_edges_25 : decode b_Model_edges 25 = .ok (.aload_n 0, 1) := by decide +kernel
theorem d_Model_edges_26 : decode b_Model_edges 26 = .ok (.iload_n 1, 1) := by decide +kernel
theorem d_Model_edges_27 : decode b_Model_edges 27 = .ok (.invokevirtual 187, 3) := by decide +kernel
theorem d_Model_edges_30 : decode b_Model_edges 30 = .ok (.ireturn, 1) := by decide +kernel
theorem d_Model_edges_31 : decode b_Model_edges 31 = .ok (.aload_n 0, 1) := by decide +kernel
theorem d_Model_edges_32 : decode b_Model_edges 32 = .ok (.getfield 102, 3) := by decide +kernel
theorem d_Model_edges_35 : decode b_Model_edges 35 = .ok (.istore_n 2, 1) := by decide +kernel
theorem d_Model_edges_36 : decode b_Model_edges 36 = .ok (.aload_n 0, 1) := by decide +kernel
theorem d_Model_edges_37 : decode b_Model_edges 37 = .ok (.iconst 0, 1) := by decide +kernel
theorem d_Model_edges_38 : decode b_Model_edges 38 = .ok (.putfield 102, 3) := by decide +kernel
theorem d_Model_edges_41 : decode b_Model_edges 41 = .ok (.aload_n 0, 1) := by decide +kernel
theorem d_Model_edges_42 : decode b_Model_edges 42 = .ok (.iconst 0, 1) := by decide +kernel
theorem d_Model_edges_43 : decode b_Model_edges 43 = .ok (.aload_n 0, 1) := by decide +kernel
theorem d_Model_edges_44 : decode b_Model_edges 44 = .ok (.getfield 7, 3) := by decide +kernel
theorem d_Model_edges_47 : decode b_Model_edges 47 = .ok (.iconst 0, 1) := by decide +kernel
theorem d_Model_edges_48 : decode b_Model_edges 48 = .ok (.iload_n 2, 1) := by decide +kernel
theorem d_Model_edges_49 : decode b_Model_edges 49 = .ok (.invokevirtual 133, 3) := by decide +kernel
theorem d_Model_edges_52 : decode b_Model_edges 52 = .ok (.istore_n 3, 1) := by decide +kernel
theorem d_Model_edges_53 : decode b_Model_edges 53 = .ok (.iload_n 3, 1) := by decide +kernel
theorem d_Model_edges_54 : decode b_Model_edges 54 = .ok (.iconst (-1), 1) := by decide +kernel
theorem d_Model_edges_55 : decode b_Model_edges 55 = .ok (.if_icmp .ne 7, 3) := by decide +kernel
theorem d_Model_edges_58 : decode b_Model_edges 58 = .ok (.iconst (-1), 1) := by decide +kernel
theorem d_Model_edges_59 : decode b_Model_edges 59 = .ok (.goto 8, 3) := by decide +kernel
theorem d_Model_edges_62 : decode b_Model_edges 62 = .ok (.aload_n 0, 1) := by decide +kernel
theorem d_Model_edges_63 : decode b_Model_edges 63 = .ok (.iload_n 3, 1) := by decide +kernel
theorem d_Model_edges_64 : decode b_Model_edges 64 = .ok (.invokevirtual 190, 3) := by decide +kernel
theorem d_Model_edges_67 : decode b_Model_edges 67 = .ok (.ireturn, 1) := by decide +kernel
theorem d_Model_samePrefix_0 : decode b_Model_samePrefix 0 = .ok (.aload_n 0, 1) := by decide +kernel
theorem d_Model_samePrefix_1 : decode b_Model_samePrefix 1 = .ok (.getfield 19, 3) := by decide +kernel
theorem d_Model_samePrefix_4 : decode b_Model_samePrefix 4 = .ok (.bipush 8, 2) := by decide +kernel
theorem d_Model_samePrefix_6 : decode b_Model_samePrefix 6 = .ok (.iload_n 1, 1) := by decide +kernel
theorem d_Model_samePrefix_7 : decode b_Model_samePrefix 7 = .ok (.imul, 1) := by decide +kernel
theorem d_Model_samePrefix_8 : decode b_Model_samePrefix 8 = .ok (.iload_n 3, 1) := by decide +kernel
theorem d_Model_samePrefix_9 : decode b_Model_samePrefix 9 = .ok (.aload_n 0, 1) := by decide +kernel
theorem d_Model_samePrefix_10 : decode b_Model_samePrefix 10 = .ok (.getfield 19, 3) := by decide +kernel
theorem d_Model_samePrefix_13 : decode b_Model_samePrefix 13 = .ok (.bipush 8, 2) := by decide +kernel
theorem d_Model_samePrefix_15 : decode b_Model_samePrefix 15 = .ok (.iload_n 2, 1) := by decide +kernel
theorem d_Model_samePrefix_16 : decode b_Model_samePrefix 16 = .ok (.imul, 1) := by decide +kernel
theorem d_Model_samePrefix_17 : decode b_Model_samePrefix 17 = .ok (.iload_n 3, 1) := by decide +kernel
theorem d_Model_samePrefix_18 : decode b_Model_samePrefix 18 = .ok (.invokestatic 106, 3) := by decide +kernel
theorem d_Model_samePrefix_21 : decode b_Model_samePrefix 21 = .ok (.ifCond .ne 7, 3) := by decide +kernel
theorem d_Model_samePrefix_24 : decode b_Model_samePrefix 24 = .ok (.iconst 1, 1) := by decide +kernel
theorem d_Model_samePrefix_25 : decode b_Model_samePrefix 25 = .ok (.goto 4, 3) := by decide +kernel
theorem d_Model_samePrefix_28 : decode b_Model_samePrefix 28 = .ok (.iconst 0, 1) := by decide +kernel
theorem d_Model_samePrefix_29 : decode b_Model_samePrefix 29 = .ok (.ireturn, 1) := by decide +kernel
theorem d_Model_freeze_0 : decode b_Model_freeze 0 = .ok (.aload_n 0, 1) := by decide +kernel
theorem d_Model_freeze_1 : decode b_Model_freeze 1 = .ok (.iload_n 1, 1) := by decide +kernel
theorem d_Model_freeze_2 : decode b_Model_freeze 2 = .ok (.invokevirtual 122, 3) := by decide +kernel
theorem d_Model_freeze_5 : decode b_Model_freeze 5 = .ok (.ifCond .ne 9, 3) := by decide +kernel
theorem d_Model_freeze_8 : decode b_Model_freeze 8 = .ok (.aload_n 0, 1) := by decide +kernel
theorem d_Model_freeze_9 : decode b_Model_freeze 9 = .ok (.iconst 1, 1) := by decide +kernel
theorem d_Model_freeze_10 : decode b_Model_freeze 10 = .ok (.invokevirtual 126, 3) := by decide +kernel
theorem d_Model_freeze_13 : decode b_Model_freeze 13 = .ok (.ireturn, 1) := by decide +kernel
theorem d_Model_freeze_14 : decode b_Model_freeze 14 = .ok (.aload_n 0, 1) := by decide +kernel
theorem d_Model_freeze_15 : decode b_Model_freeze 15 = .ok (.iconst 0, 1) := by decide +kernel
theorem d_Model_freeze_16 : decode b_Model_freeze 16 = .ok (.putfield 99, 3) := by decide +kernel
theorem d_Model_freeze_19 : decode b_Model_freeze 19 = .ok (.aload_n 0, 1) := by decide +kernel
theorem d_Model_freeze_20 : decode b_Model_freeze 20 = .ok (.iconst 0, 1) := by decide +kernel
theorem d_Model_freeze_21 : decode b_Model_freeze 21 = .ok (.putfield 193, 3) := by decide +kernel
theorem d_Model_freeze_24 : decode b_Model_freeze 24 = .ok (.aload_n 0, 1) := by decide +kernel
theorem d_Model_freeze_25 : decode b_Model_freeze 25 = .ok (.iconst 0, 1) := by decide +kernel
theorem d_Model_freeze_26 : decode b_Model_freeze 26 = .ok (.putfield 196, 3) := by decide +kernel
theorem d_Model_freeze_29 : decode b_Model_freeze 29 = .ok (.aload_n 0, 1) := by decide +kernel
theorem d_Model_freeze_30 : decode b_Model_freeze 30 = .ok (.iconst 0, 1) := by decide +kernel
theorem d_Model_freeze_31 : decode b_Model_freeze 31 = .ok (.putfield 199, 3) := by decide +kernel
theorem d_Model_freeze_34 : decode b_Model_freeze 34 = .ok (.aload_n 0, 1) := by decide +kernel
theorem d_Model_freeze_35 : decode b_Model_freeze 35 = .ok (.iconst (-1), 1) := by decide +kernel
theorem d_Model_freeze_36 : decode b_Model_freeze 36 = .ok (.putfield 202, 3) := by decide +kernel
theorem d_Model_freeze_39 : decode b_Model_freeze 39 = .ok (.aload_n 0, 1) := by decide +kernel
theorem d_Model_freeze_40 : decode b_Model_freeze 40 = .ok (.iload_n 1, 1) := by decide +kernel
theorem d_Model_freeze_41 : decode b_Model_freeze 41 = .ok (.invokevirtual 114, 3) := by decide +kernel
theorem d_Model_freeze_44 : decode b_Model_freeze 44 = .ok (.istore_n 2, 1) := by decide +kernel
theorem d_Model_freeze_45 : decode b_Model_freeze 45 = .ok (.iconst 0, 1) := by decide +kernel
theorem d_Model_freeze_46 : decode b_Model_freeze 46 = .ok (.istore_n 3, 1) := by decide +kernel
theorem d_Model_freeze_47 : decode b_Model_freeze 47 = .ok (.iload_n 3, 1) := by decide +kernel
theorem d_Model_freeze_48 : decode b_Model_freeze 48 = .ok (.aload_n 0, 1) := by decide +kernel
theorem d_Model_freeze_49 : decode b_Model_freeze 49 = .ok (.getfield 13, 3) := by decide +kernel
theorem d_Model_freeze_52 : decode b_Model_freeze 52 = .ok (.iload_n 2, 1) := by decide +kernel
theorem d_Model_freeze_53 : decode b_Model_freeze 53 = .ok (.iaload, 1) := by decide +kernel
theorem d_Model_freeze_54 : decode b_Model_freeze 54 = .ok (.if_icmp .ge 29, 3) := by decide +kernel
theorem d_Model_freeze_57 : decode b_Model_freeze 57 = .ok (.aload_n 0, 1) := by decide +kernel
theorem d_Model_freeze_58 : decode b_Model_freeze 58 = .ok (.iload_n 1, 1) := by decide +kernel
theorem d_Model_freeze_59 : decode b_Model_freeze 59 = .ok (.iload_n 3, 1) := by decide +kernel
theorem d_Model_freeze_60 : decode b_Model_freeze 60 = .ok (.invokevirtual 143, 3) := by decide +kernel
theorem d_Model_freeze_63 : decode b_Model_freeze 63 = .ok (.ifCond .eq 14, 3) := by decide +kernel
theorem d_Model_freeze_66 : decode b_Model_freeze 66 = .ok (.aload_n 0, 1) := by decide +kernel
theorem d_Model_freeze_67 : decode b_Model_freeze 67 = .ok (.iload_n 1, 1) := by decide +kernel
theorem d_Model_freeze_68 : decode b_Model_freeze 68 = .ok (.bipush 64, 2) := by decide +kernel
theorem d_Model_freeze_70 : decode b_Model_freeze 70 = .ok (.iload_n 2, 1) := by decide +kernel
theorem d_Model_freeze_71 : decode b_Model_freeze 71 = .ok (.imul, 1) := by decide +kernel
theorem d_Model_freeze_72 : decode b_Model_freeze 72 = .ok (.iload_n 3, 1) := by decide +kernel
theorem d_Model_freeze_73 : decode b_Model_freeze 73 = .ok (.iadd, 1) := by decide +kernel
theorem d_Model_freeze_74 : decode b_Model_freeze 74 = .ok (.invokevirtual 205, 3) := by decide +kernel
theorem d_Model_freeze_77 : decode b_Model_freeze 77 = .ok (.iinc 3 1, 3) := by decide +kernel
theorem d_Model_freeze_80 : decode b_Model_freeze 80 = .ok (.goto (-33), 3) := by decide +kernel
theorem d_Model_freeze_83 : decode b_Model_freeze 83 = .ok (.bipush 8, 2) := by decide +kernel
theorem d_Model_freeze_85 : decode b_Model_freeze 85 = .ok (.istore_n 3, 1) := by decide +kernel
theorem d_Model_freeze_86 : decode b_Model_freeze 86 = .ok (.iload_n 3, 1) := by decide +kernel
theorem d_Model_freeze_87 : decode b_Model_freeze 87 = .ok (.ifCond .lt 45, 3) := by decide +kernel
theorem d_Model_freeze_90 : decode b_Model_freeze 90 = .ok (.iconst 0, 1) := by decide +kernel
theorem d_Model_freeze_91 : decode b_Model_freeze 91 = .ok (.istore 4, 2) := by decide +kernel
theorem d_Model_freeze_93 : decode b_Model_freeze 93 = .ok (.iload 4, 2) := by decide +kernel
theorem d_Model_freeze_95 : decode b_Model_freeze 95 = .ok (.aload_n 0, 1) := by decide +kernel
theorem d_Model_freeze_96 : decode b_Model_freeze 96 = .ok (.getfield 193, 3) := by decide +kernel
theorem d_Model_freeze_99 : decode b_Model_freeze 99 = .ok (.if_icmp .ge 27, 3) := by decide +kernel
theorem d_Model_freeze_102 : decode b_Model_freeze 102 = .ok (.aload_n 0, 1) := by decide +kernel
theorem d_Model_freeze_103 : decode b_Model_freeze 103 = .ok (.getfield 72, 3) := by decide +kernel
theorem d_Model_freeze_106 : decode b_Model_freeze 106 = .ok (.iload 4, 2) := by decide +kernel
theorem d_Model_freeze_108 : decode b_Model_freeze 108 = .ok (.iaload, 1) := by decide +kernel
theorem d_Model_freeze_109 : decode b_Model_freeze 109 = .ok (.iload_n 3, 1) := by decide +kernel
theorem d_Model_freeze_110 : decode b_Model_freeze 110 = .ok (.if_icmp .ne 10, 3) := by decide +kernel
theorem d_Model_freeze_113 : decode b_Model_freeze 113 = .ok (.aload_n 0, 1) := by decide +kernel
theorem d_Model_freeze_114 : decode b_Model_freeze 114 = .ok (.iload_n 1, 1) := by decide +kernel
theorem d_Model_freeze_115 : decode b_Model_freeze 115 = .ok (.iload 4, 2) := by decide +kernel
theorem d_Model_freeze_117 : decode b_Model_freeze 117 = .ok (.invokevirtual 208, 3) := by decide +kernel
theorem d_Model_freeze_120 : decode b_Model_freeze 120 = .ok (.iinc 4 1, 3) := by decide +kernel
theorem d_Model_freeze_123 : decode b_Model_freeze 123 = .ok (.goto (-30), 3) := by decide +kernel
theorem d_Model_freeze_126 : decode b_Model_freeze 126 = .ok (.iinc 3 (-1), 3) := by decide +kernel
theorem d_Model_freeze_129 : decode b_Model_freeze 129 = .ok (.goto (-43), 3) := by decide +kernel
theorem d_Model_freeze_132 : decode b_Model_freeze 132 = .ok (.aload_n 0, 1) := by decide +kernel
theorem d_Model_freeze_133 : decode b_Model_freeze 133 = .ok (.getfield 196, 3) := by decide +kernel
theorem d_Model_freeze_136 : decode b_Model_freeze 136 = .ok (.ireturn, 1) := by decide +kernel
theorem d_Model_prefixesOf_0 : decode b_Model_prefixesOf 0 = .ok (.iconst 0, 1) := by decide +kernel
theorem d_Model_prefixesOf_1 : decode b_Model_prefixesOf 1 = .ok (.istore_n 3, 1) := by decide +kernel
theorem d_Model_prefixesOf_2 : decode b_Model_prefixesOf 2 = .ok (.iload_n 3, 1) := by decide +kernel
theorem d_Model_prefixesOf_3 : decode b_Model_prefixesOf 3 = .ok (.aload_n 0, 1) := by decide +kernel
theorem d_Model_prefixesOf_4 : decode b_Model_prefixesOf 4 = .ok (.getfield 22, 3) := by decide +kernel
theorem d_Model_prefixesOf_7 : decode b_Model_prefixesOf 7 = .ok (.iload_n 2, 1) := by decide +kernel
theorem d_Model_prefixesOf_8 : decode b_Model_prefixesOf 8 = .ok (.iaload, 1) := by decide +kernel
theorem d_Model_prefixesOf_9 : decode b_Model_prefixesOf 9 = .ok (.if_icmp .gt 107, 3) := by decide +kernel
theorem d_Model_prefixesOf_12 : decode b_Model_prefixesOf 12 = .ok (.iconst 1, 1) := by decide +kernel
theorem d_Model_prefixesOf_13 : decode b_Model_prefixesOf 13 = .ok (.istore 4, 2) := by decide +kernel
theorem d_Model_prefixesOf_15 : decode b_Model_prefixesOf 15 = .ok (.iconst 0, 1) := by decide +kernel
theorem d_Model_prefixesOf_16 : decode b_Model_prefixesOf 16 = .ok (.istore 5, 2) := by decide +kernel
theorem d_Model_prefixesOf_18 : decode b_Model_prefixesOf 18 = .ok (.iload 5, 2) := by decide +kernel
theorem d_Model_prefixesOf_20 : decode b_Model_prefixesOf 20 = .ok (.aload_n 0, 1) := by decide +kernel
theorem d_Model_prefixesOf_21 : decode b_Model_prefixesOf 21 = .ok (.getfield 193, 3) := by decide +kernel
theorem d_Model_prefixesOf_24 : decode b_Model_prefixesOf 24 = .ok (.if_icmp .ge 48, 3) := by decide +kernel
theorem d_Model_prefixesOf_27 : decode b_Model_prefixesOf 27 = .ok (.iload 4, 2) := by decide +kernel
theorem d_Model_prefixesOf_29 : decode b_Model_prefixesOf 29 = .ok (.ifCond .eq 43, 3) := by decide +kernel
theorem d_Model_prefixesOf_32 : decode b_Model_prefixesOf 32 = .ok (.aload_n 0, 1) := by decide +kernel
theorem d_Model_prefixesOf_33 : decode b_Model_prefixesOf 33 = .ok (.getfield 72, 3) := by decide +kernel
theorem d_Model_prefixesOf_36 : decode b_Model_prefixesOf 36 = .ok (.iload 5, 2) := by decide +kernel
theorem d_Model_prefixesOf_38 : decode b_Model_prefixesOf 38 = .ok (.iaload, 1) := by decide +kernel
theorem d_Model_prefixesOf_39 : decode b_Model_prefixesOf 39 = .ok (.iload_n 3, 1) := by decide +kernel
theorem d_Model_prefixesOf_40 : decode b_Model_prefixesOf 40 = .ok (.if_icmp .ne 19, 3) := by decide +kernel
theorem d_Model_prefixesOf_43 : decode b_Model_prefixesOf 43 = .ok (.aload_n 0, 1) := by decide +kernel
theorem d_Model_prefixesOf_44 : decode b_Model_prefixesOf 44 = .ok (.aload_n 0, 1) := by decide +kernel
theorem d_Model_prefixesOf_45 : decode b_Model_prefixesOf 45 = .ok (.getfield 69, 3) := by decide +kernel
theorem d_Model_prefixesOf_48 : decode b_Model_prefixesOf 48 = .ok (.iload 5, 2) := by decide +kernel
theorem d_Model_prefixesOf_50 : decode b_Model_prefixesOf 50 = .ok (.iaload, 1) := by decide +kernel
theorem d_Model_prefixesOf_51 : decode b_Model_prefixesOf 51 = .ok (.iload_n 2, 1) := by decide +kernel
theorem d_Model_prefixesOf_52 : decode b_Model_prefixesOf 52 = .ok (.iload_n 3, 1) := by decide +kernel
theorem d_Model_prefixesOf_53 : decode b_Model_prefixesOf 53 = .ok (.invokevirtual 211, 3) := by decide +kernel
theorem d_Model_prefixesOf_56 : decode b_Model_prefixesOf 56 = .ok (.ifCond .ne 7, 3) := by decide +kernel
theorem d_Model_prefixesOf_59 : decode b_Model_prefixesOf 59 = .ok (.iconst 1, 1) := by decide +kernel
theorem d_Model_prefixesOf_60 : decode b_Model_prefixesOf 60 = .ok (.goto 4, 3) := by decide +kernel
theorem d_Model_prefixesOf_63 : decode b_Model_prefixesOf 63 = .ok (.iconst 0, 1) := by decide +kernel
theorem d_Model_prefixesOf_64 : decode b_Model_prefixesOf 64 = .ok (.istore 4, 2) := by decide +kernel
theorem d_Model_prefixesOf_66 : decode b_Model_prefixesOf 66 = .ok (.iinc 5 1, 3) := by decide +kernel
theorem d_Model_prefixesOf_69 : decode b_Model_prefixesOf 69 = .ok (.goto (-51), 3) := by decide +kernel
theorem d_Model_prefixesOf_72 : decode b_Model_prefixesOf 72 = .ok (.iload 4, 2) := by decide +kernel
theorem d_Model_prefixesOf_74 : decode b_Model_prefixesOf 74 = .ok (.ifCond .ne 6, 3) := by decide +kernel
theorem d_Model_prefixesOf_77 : decode b_Model_prefixesOf 77 = .ok (.goto 33, 3) := by decide +kernel
theorem d_Model_prefixesOf_80 : decode b_Model_prefixesOf 80 = .ok (.aload_n 0, 1) := by decide +kernel
theorem d_Model_prefixesOf_81 : decode b_Model_prefixesOf 81 = .ok (.getfield 69, 3) := by decide +kernel
theorem d_Model_prefixesOf_84 : decode b_Model_prefixesOf 84 = .ok (.aload_n 0, 1) := by decide +kernel
theorem d_Model_prefixesOf_85 : decode b_Model_prefixesOf 85 = .ok (.getfield 193, 3) := by decide +kernel
theorem d_Model_prefixesOf_88 : decode b_Model_prefixesOf 88 = .ok (.iload_n 2, 1) := by decide +kernel
theorem d_Model_prefixesOf_89 : decode b_Model_prefixesOf 89 = .ok (.iastore, 1) := by decide +kernel
theorem d_Model_prefixesOf_90 : decode b_Model_prefixesOf 90 = .ok (.aload_n 0, 1) := by decide +kernel
theorem d_Model_prefixesOf_91 : decode b_Model_prefixesOf 91 = .ok (.getfield 72, 3) := by decide +kernel
theorem d_Model_prefixesOf_94 : decode b_Model_prefixesOf 94 = .ok (.aload_n 0, 1) := by decide +kernel
theorem d_Model_prefixesOf_95 : decode b_Model_prefixesOf 95 = .ok (.getfield 193, 3) := by decide +kernel
theorem d_Model_prefixesOf_98 : decode b_Model_prefixesOf 98 = .ok (.iload_n 3, 1) := by decide +kernel
theorem d_Model_prefixesOf_99 : decode b_Model_prefixesOf 99 = .ok (.iastore, 1) := by decide +kernel
theorem d_Model_prefixesOf_100 : decode b_Model_prefixesOf 100 = .ok (.aload_n 0, 1) := by decide +kernel
theorem d_Model_prefixesOf_101 : decode b_Model_prefixesOf 101 = .ok (.dup, 1) := by decide +kernel
theorem d_Model_prefixesOf_102 : decode b_Model_prefixesOf 102 = .ok (.getfield 193, 3) := by decide +kernel
theorem d_Model_prefixesOf_105 : decode b_Model_prefixesOf 105 = .ok (.iconst 1, 1) := by decide +kernel
theorem d_Model_prefixesOf_106 : decode b_Model_prefixesOf 106 = .ok (.iadd, 1) := by decide +kernel
theorem d_Model_prefixesOf_107 : decode b_Model_prefixesOf 107 = .ok (.putfield 193, 3) := by decide +kernel
theorem d_Model_prefixesOf_110 : decode b_Model_prefixesOf 110 = .ok (.iinc 3 1, 3) := by decide +kernel
theorem d_Model_prefixesOf_113 : decode b_Model_prefixesOf 113 = .ok (.goto (-111), 3) := by decide +kernel
theorem d_Model_prefixesOf_116 : decode b_Model_prefixesOf 116 = .ok (.return_, 1) := by decide +kernel
theorem d_Model_follows_0 : decode b_Model_follows 0 = .ok (.aload_n 0, 1) := by decide +kernel
theorem d_Model_follows_1 : decode b_Model_follows 1 = .ok (.getfield 72, 3) := by decide +kernel
theorem d_Model_follows_4 : decode b_Model_follows 4 = .ok (.iload_n 1, 1) := by decide +kernel
theorem d_Model_follows_5 : decode b_Model_follows 5 = .ok (.iaload, 1) := by decide +kernel
theorem d_Model_follows_6 : decode b_Model_follows 6 = .ok (.aload_n 0, 1) := by decide +kernel
theorem d_Model_follows_7 : decode b_Model_follows 7 = .ok (.getfield 72, 3) := by decide +kernel
theorem d_Model_follows_10 : decode b_Model_follows 10 = .ok (.iload_n 2, 1) := by decide +kernel
theorem d_Model_follows_11 : decode b_Model_follows 11 = .ok (.iaload, 1) := by decide +kernel
theorem d_Model_follows_12 : decode b_Model_follows 12 = .ok (.iconst 1, 1) := by decide +kernel
theorem d_Model_follows_13 : decode b_Model_follows 13 = .ok (.iadd, 1) := by decide +kernel
theorem d_Model_follows_14 : decode b_Model_follows 14 = .ok (.if_icmp .ne 32, 3) := by decide +kernel
theorem d_Model_follows_17 : decode b_Model_follows 17 = .ok (.aload_n 0, 1) := by decide +kernel
theorem d_Model_follows_18 : decode b_Model_follows 18 = .ok (.aload_n 0, 1) := by decide +kernel
theorem d_Model_follows_19 : decode b_Model_follows 19 = .ok (.getfield 69, 3) := by decide +kernel
theorem d_Model_follows_22 : decode b_Model_follows 22 = .ok (.iload_n 1, 1) := by decide +kernel
theorem d_Model_follows_23 : decode b_Model_follows 23 = .ok (.iaload, 1) := by decide +kernel
theorem d_Model_follows_24 : decode b_Model_follows 24 = .ok (.aload_n 0, 1) := by decide +kernel
theorem d_Model_follows_25 : decode b_Model_follows 25 = .ok (.getfield 69, 3) := by decide +kernel
theorem d_Model_follows_28 : decode b_Model_follows 28 = .ok (.iload_n 2, 1) := by decide +kernel
theorem d_Model_follows_29 : decode b_Model_follows 29 = .ok (.iaload, 1) := by decide +kernel
theorem d_Model_follows_30 : decode b_Model_follows 30 = .ok (.aload_n 0, 1) := by decide +kernel
theorem d_Model_follows_31 : decode b_Model_follows 31 = .ok (.getfield 72, 3) := by decide +kernel
theorem d_Model_follows_34 : decode b_Model_follows 34 = .ok (.iload_n 2, 1) := by decide +kernel
theorem d_Model_follows_35 : decode b_Model_follows 35 = .ok (.iaload, 1) := by decide +kernel
theorem d_Model_follows_36 : decode b_Model_follows 36 = .ok (.invokevirtual 211, 3) := by decide +kernel
theorem d_Model_follows_39 : decode b_Model_follows 39 = .ok (.ifCond .eq 7, 3) := by decide +kernel
theorem d_Model_follows_42 : decode b_Model_follows 42 = .ok (.iconst 1, 1) := by decide +kernel
theorem d_Model_follows_43 : decode b_Model_follows 43 = .ok (.goto 4, 3) := by decide +kernel
theorem d_Model_follows_46 : decode b_Model_follows 46 = .ok (.iconst 0, 1) := by decide +kernel
theorem d_Model_follows_47 : decode b_Model_follows 47 = .ok (.ireturn, 1) := by decide +kernel
theorem d_Model_endsAt_0 : decode b_Model_endsAt 0 = .ok (.aload_n 0, 1) := by decide +kernel
theorem d_Model_endsAt_1 : decode b_Model_endsAt 1 = .ok (.iload_n 1, 1) := by decide +kernel
theorem d_Model_endsAt_2 : decode b_Model_endsAt 2 = .ok (.invokevirtual 114, 3) := by decide +kernel
theorem d_Model_endsAt_5 : decode b_Model_endsAt 5 = .ok (.istore_n 3, 1) := by decide +kernel
theorem d_Model_endsAt_6 : decode b_Model_endsAt 6 = .ok (.iconst 0, 1) := by decide +kernel
theorem d_Model_endsAt_7 : decode b_Model_endsAt 7 = .ok (.istore 4, 2) := by decide +kernel
theorem d_Model_endsAt_9 : decode b_Model_endsAt 9 = .ok (.iload 4, 2) := by decide +kernel
theorem d_Model_endsAt_11 : decode b_Model_endsAt 11 = .ok (.aload_n 0, 1) := by decide +kernel
theorem d_Model_endsAt_12 : decode b_Model_endsAt 12 = .ok (.getfield 13, 3) := by decide +kernel
theorem d_Model_endsAt_15 : decode b_Model_endsAt 15 = .ok (.iload_n 3, 1) := by decide +kernel
theorem d_Model_endsAt_16 : decode b_Model_endsAt 16 = .ok (.iaload, 1) := by decide +kernel
theorem d_Model_endsAt_17 : decode b_Model_endsAt 17 = .ok (.if_icmp .ge 54, 3) := by decide +kernel
theorem d_Model_endsAt_20 : decode b_Model_endsAt 20 = .ok (.aload_n 0, 1) := by decide +kernel
theorem d_Model_endsAt_21 : decode b_Model_endsAt 21 = .ok (.iload_n 1, 1) := by decide +kernel
theorem d_Model_endsAt_22 : decode b_Model_endsAt 22 = .ok (.iload 4, 2) := by decide +kernel
theorem d_Model_endsAt_24 : decode b_Model_endsAt 24 = .ok (.invokevirtual 143, 3) := by decide +kernel
theorem d_Model_endsAt_27 : decode b_Model_endsAt 27 = .ok (.ifCond .eq 38, 3) := by decide +kernel
theorem d_Model_endsAt_30 : decode b_Model_endsAt 30 = .ok (.aload_n 0, 1) := by decide +kernel
theorem d_Model_endsAt_31 : decode b_Model_endsAt 31 = .ok (.bipush 64, 2) := by decide +kernel
theorem d_Model_endsAt_33 : decode b_Model_endsAt 33 = .ok (.iload_n 3, 1) := by decide +kernel
theorem d_Model_endsAt_34 : decode b_Model_endsAt 34 = .ok (.imul, 1) := by decide +kernel
theorem d_Model_endsAt_35 : decode b_Model_endsAt 35 = .ok (.iload 4, 2) := by decide +kernel
theorem d_Model_endsAt_37 : decode b_Model_endsAt 37 = .ok (.iadd, 1) := by decide +kernel
theorem d_Model_endsAt_38 : decode b_Model_endsAt 38 = .ok (.aload_n 0, 1) := by decide +kernel
theorem d_Model_endsAt_39 : decode b_Model_endsAt 39 = .ok (.getfield 19, 3) := by decide +kernel
theorem d_Model_endsAt_42 : decode b_Model_endsAt 42 = .ok (.bipush 8, 2) := by decide +kernel
theorem d_Model_endsAt_44 : decode b_Model_endsAt 44 = .ok (.aload_n 0, 1) := by decide +kernel
theorem d_Model_endsAt_45 : decode b_Model_endsAt 45 = .ok (.getfield 69, 3) := by decide +kernel
theorem d_Model_endsAt_48 : decode b_Model_endsAt 48 = .ok (.iload_n 2, 1) := by decide +kernel
theorem d_Model_endsAt_49 : decode b_Model_endsAt 49 = .ok (.iaload, 1) := by decide +kernel
theorem d_Model_endsAt_50 : decode b_Model_endsAt 50 = .ok (.imul, 1) := by decide +kernel
theorem d_Model_endsAt_51 : decode b_Model_endsAt 51 = .ok (.aload_n 0, 1) := by decide +kernel
theorem d_Model_endsAt_52 : decode b_Model_endsAt 52 = .ok (.getfield 72, 3) := by decide +kernel
theorem d_Model_endsAt_55 : decode b_Model_endsAt 55 = .ok (.iload_n 2, 1) := by decide +kernel
theorem d_Model_endsAt_56 : decode b_Model_endsAt 56 = .ok (.iaload, 1) := by decide +kernel
theorem d_Model_endsAt_57 : decode b_Model_endsAt 57 = .ok (.invokevirtual 129, 3) := by decide +kernel
theorem d_Model_endsAt_60 : decode b_Model_endsAt 60 = .ok (.ifCond .ne 5, 3) := by decide +kernel
theorem d_Model_endsAt_63 : decode b_Model_endsAt 63 = .ok (.iconst 1, 1) := by decide +kernel
theorem d_Model_endsAt_64 : decode b_Model_endsAt 64 = .ok (.ireturn, 1) := by decide +kernel
theorem d_Model_endsAt_65 : decode b_Model_endsAt 65 = .ok (.iinc 4 1, 3) := by decide +kernel
theorem d_Model_endsAt_68 : decode b_Model_endsAt 68 = .ok (.goto (-59), 3) := by decide +kernel
theorem d_Model_endsAt_71 : decode b_Model_endsAt 71 = .ok (.iconst 0, 1) := by decide +kernel
theorem d_Model_endsAt_72 : decode b_Model_endsAt 72 = .ok (.ireturn, 1) := by decide +kernel
theorem d_Model_state_0 : decode b_Model_state 0 = .ok (.aload_n 0, 1) := by decide +kernel
theorem d_Model_state_1 : decode b_Model_state 1 = .ok (.iload_n 1, 1) := by decide +kernel
theorem d_Model_state_2 : decode b_Model_state 2 = .ok (.iload_n 2, 1) := by decide +kernel
theorem d_Model_state_3 : decode b_Model_state 3 = .ok (.invokevirtual 214, 3) := by decide +kernel
theorem d_Model_state_6 : decode b_Model_state 6 = .ok (.istore_n 3, 1) := by decide +kernel
theorem d_Model_state_7 : decode b_Model_state 7 = .ok (.iconst 0, 1) := by decide +kernel
theorem d_Model_state_8 : decode b_Model_state 8 = .ok (.istore 4, 2) := by decide +kernel
theorem d_Model_state_10 : decode b_Model_state 10 = .ok (.iconst 0, 1) := by decide +kernel
theorem d_Model_state_11 : decode b_Model_state 11 = .ok (.istore 5, 2) := by decide +kernel
theorem d_Model_state_13 : decode b_Model_state 13 = .ok (.iload 5, 2) := by decide +kernel
theorem d_Model_state_15 : decode b_Model_state 15 = .ok (.aload_n 0, 1) := by decide +kernel
theorem d_Model_state_16 : decode b_Model_state 16 = .ok (.getfield 193, 3) := by decide +kernel
theorem d_Model_state_19 : decode b_Model_state 19 = .ok (.if_icmp .ge 29, 3) := by decide +kernel
theorem d_Model_state_22 : decode b_Model_state 22 = .ok (.iload 4, 2) := by decide +kernel
theorem d_Model_state_24 : decode b_Model_state 24 = .ok (.aload_n 0, 1) := by decide +kernel
theorem d_Model_state_25 : decode b_Model_state 25 = .ok (.iload 5, 2) := by decide +kernel
theorem d_Model_state_27 : decode b_Model_state 27 = .ok (.iload_n 2, 1) := by decide +kernel
theorem d_Model_state_28 : decode b_Model_state 28 = .ok (.invokevirtual 217, 3) := by decide +kernel
theorem d_Model_state_31 : decode b_Model_state 31 = .ok (.ifCond .eq 7, 3) := by decide +kernel
theorem d_Model_state_34 : decode b_Model_state 34 = .ok (.iconst 1, 1) := by decide +kernel
theorem d_Model_state_35 : decode b_Model_state 35 = .ok (.goto 4, 3) := by decide +kernel
theorem d_Model_state_38 : decode b_Model_state 38 = .ok (.iconst 0, 1) := by decide +kernel
theorem d_Model_state_39 : decode b_Model_state 39 = .ok (.iadd, 1) := by decide +kernel
theorem d_Model_state_40 : decode b_Model_state 40 = .ok (.istore 4, 2) := by decide +kernel
theorem d_Model_state_42 : decode b_Model_state 42 = .ok (.iinc 5 1, 3) := by decide +kernel
theorem d_Model_state_45 : decode b_Model_state 45 = .ok (.goto (-32), 3) := by decide +kernel
theorem d_Model_state_48 : decode b_Model_state 48 = .ok (.iconst (-1), 1) := by decide +kernel
theorem d_Model_state_49 : decode b_Model_state 49 = .ok (.istore 5, 2) := by decide +kernel
theorem d_Model_state_51 : decode b_Model_state 51 = .ok (.iconst 0, 1) := by decide +kernel
theorem d_Model_state_52 : decode b_Model_state 52 = .ok (.istore 6, 2) := by decide +kernel
theorem d_Model_state_54 : decode b_Model_state 54 = .ok (.iload 6, 2) := by decide +kernel
theorem d_Model_state_56 : decode b_Model_state 56 = .ok (.aload_n 0, 1) := by decide +kernel
theorem d_Model_state_57 : decode b_Model_state 57 = .ok (.getfield 196, 3) := by decide +kernel
theorem d_Model_state_60 : decode b_Model_state 60 = .ok (.if_icmp .ge 55, 3) := by decide +kernel
theorem d_Model_state_63 : decode b_Model_state 63 = .ok (.iload 5, 2) := by decide +kernel
theorem d_Model_state_65 : decode b_Model_state 65 = .ok (.iconst (-1), 1) := by decide +kernel
theorem d_Model_state_66 : decode b_Model_state 66 = .ok (.if_icmp .ne 49, 3) := by decide +kernel
theorem d_Model_state_69 : decode b_Model_state 69 = .ok (.aload_n 0, 1) := by decide +kernel
theorem d_Model_state_70 : decode b_Model_state 70 = .ok (.getfield 78, 3) := by decide +kernel
theorem d_Model_state_73 : decode b_Model_state 73 = .ok (.iload 6, 2) := by decide +kernel
theorem d_Model_state_75 : decode b_Model_state 75 = .ok (.baload, 1) := by decide +kernel
theorem d_Model_state_76 : decode b_Model_state 76 = .ok (.iload_n 3, 1) := by decide +kernel
theorem d_Model_state_77 : decode b_Model_state 77 = .ok (.if_icmp .ne 29, 3) := by decide +kernel
theorem d_Model_state_80 : decode b_Model_state 80 = .ok (.aload_n 0, 1) := by decide +kernel
theorem d_Model_state_81 : decode b_Model_state 81 = .ok (.iload 6, 2) := by decide +kernel
theorem d_Model_state_83 : decode b_Model_state 83 = .ok (.invokevirtual 220, 3) := by decide +kernel
theorem d_Model_state_86 : decode b_Model_state 86 = .ok (.iload 4, 2) := by decide +kernel
theorem d_Model_state_88 : decode b_Model_state 88 = .ok (.if_icmp .ne 18, 3) := by decide +kernel
theorem d_Model_state_91 : decode b_Model_state 91 = .ok (.aload_n 0, 1) := by decide +kernel
theorem d_Model_state_92 : decode b_Model_state 92 = .ok (.iload 6, 2) := by decide +kernel
theorem d_Model_state_94 : decode b_Model_state 94 = .ok (.iload_n 2, 1) := by decide +kernel
theorem d_Model_state_95 : decode b_Model_state 95 = .ok (.invokevirtual 223, 3) := by decide +kernel
theorem d_Model_state_98 : decode b_Model_state 98 = .ok (.ifCond .eq 8, 3) := by decide +kernel
theorem d_Model_state_101 : decode b_Model_state 101 = .ok (.iload 6, 2) := by decide +kernel
theorem d_Model_state_103 : decode b_Model_state 103 = .ok (.goto 4, 3) := by decide +kernel
theorem d_Model_state_106 : decode b_Model_state 106 = .ok (.iconst (-1), 1) := by decide +kernel
theorem d_Model_state_107 : decode b_Model_state 107 = .ok (.istore 5, 2) := by decide +kernel
theorem d_Model_state_109 : decode b_Model_state 109 = .ok (.iinc 6 1, 3) := by decide +kernel
theorem d_Model_state_112 : decode b_Model_state 112 = .ok (.goto (-58), 3) := by decide +kernel
theorem d_Model_state_115 : decode b_Model_state 115 = .ok (.iload 5, 2) := by decide +kernel
theorem d_Model_state_117 : decode b_Model_state 117 = .ok (.iconst (-1), 1) := by decide +kernel
theorem d_Model_state_118 : decode b_Model_state 118 = .ok (.if_icmp .ne 126, 3) := by decide +kernel
theorem d_Model_state_121 : decode b_Model_state 121 = .ok (.aload_n 0, 1) := by decide +kernel
theorem d_Model_state_122 : decode b_Model_state 122 = .ok (.getfield 196, 3) := by decide +kernel
theorem d_Model_state_125 : decode b_Model_state 125 = .ok (.istore 5, 2) := by decide +kernel
theorem d_Model_state_127 : decode b_Model_state 127 = .ok (.aload_n 0, 1) := by decide +kernel
theorem d_Model_state_128 : decode b_Model_state 128 = .ok (.dup, 1) := by decide +kernel
theorem d_Model_state_129 : decode b_Model_state 129 = .ok (.getfield 196, 3) := by decide +kernel
theorem d_Model_state_132 : decode b_Model_state 132 = .ok (.iconst 1, 1) := by decide +kernel
theorem d_Model_state_133 : decode b_Model_state 133 = .ok (.iadd, 1) := by decide +kernel
theorem d_Model_state_134 : decode b_Model_state 134 = .ok (.putfield 196, 3) := by decide +kernel
theorem d_Model_state_137 : decode b_Model_state 137 = .ok (.aload_n 0, 1) := by decide +kernel
theorem d_Model_state_138 : decode b_Model_state 138 = .ok (.getfield 78, 3) := by decide +kernel
theorem d_Model_state_141 : decode b_Model_state 141 = .ok (.iload 5, 2) := by decide +kernel
theorem d_Model_state_143 : decode b_Model_state 143 = .ok (.iload_n 3, 1) := by decide +kernel
theorem d_Model_state_144 : decode b_Model_state 144 = .ok (.bastore, 1) := by decide +kernel
theorem d_Model_state_145 : decode b_Model_state 145 = .ok (.iconst 0, 1) := by decide +kernel
theorem d_Model_state_146 : decode b_Model_state 146 = .ok (.istore 6, 2) := by decide +kernel
theorem d_Model_state_148 : decode b_Model_state 148 = .ok (.iload 6, 2) := by decide +kernel
theorem d_Model_state_150 : decode b_Model_state 150 = .ok (.aload_n 0, 1) := by decide +kernel
theorem d_Model_state_151 : decode b_Model_state 151 = .ok (.getfield 193, 3) := by decide +kernel
theorem d_Model_state_154 : decode b_Model_state 154 = .ok (.if_icmp .ge 90, 3) := by decide +kernel
theorem d_Model_state_157 : decode b_Model_state 157 = .ok (.aload_n 0, 1) := by decide +kernel
theorem d_Model_state_158 : decode b_Model_state 158 = .ok (.iload 6, 2) := by decide +kernel
theorem d_Model_state_160 : decode b_Model_state 160 = .ok (.iload_n 2, 1) := by decide +kernel
theorem d_Model_state_161 : decode b_Model_state 161 = .ok (.invokevirtual 217, 3) := by decide +kernel
theorem d_Model_state_164 : decode b_Model_state 164 = .ok (.ifCond .ne 6, 3) := by decide +kernel
theorem d_Model_state_167 : decode b_Model_state 167 = .ok (.goto 71, 3) := by decide +kernel
theorem d_Model_state_170 : decode b_Model_state 170 = .ok (.aload_n 0, 1) := by decide +kernel
theorem d_Model_state_171 : decode b_Model_state 171 = .ok (.getfield 81, 3) := by decide +kernel
theorem d_Model_state_174 : decode b_Model_state 174 = .ok (.aload_n 0, 1) := by decide +kernel
theorem d_Model_state_175 : decode b_Model_state 175 = .ok (.getfield 199, 3) := by decide +kernel
theorem d_Model_state_178 : decode b_Model_state 178 = .ok (.iload 5, 2) := by decide +kernel
theorem d_Model_state_180 : decode b_Model_state 180 = .ok (.iastore, 1) := by decide +kernel
theorem d_Model_state_181 : decode b_Model_state 181 = .ok (.aload_n 0, 1) := by decide +kernel
theorem d_Model_state_182 : decode b_Model_state 182 = .ok (.getfield 84, 3) := by decide +kernel
theorem d_Model_state_185 : decode b_Model_state 185 = .ok (.aload_n 0, 1) := by decide +kernel
theorem d_Model_state_186 : decode b_Model_state 186 = .ok (.getfield 199, 3) := by decide +kernel
theorem d_Model_state_189 : decode b_Model_state 189 = .ok (.aload_n 0, 1) := by decide +kernel
theorem d_Model_state_190 : decode b_Model_state 190 = .ok (.getfield 19, 3) := by decide +kernel
theorem d_Model_state_193 : decode b_Model_state 193 = .ok (.bipush 8, 2) := by decide +kernel
theorem d_Model_state_195 : decode b_Model_state 195 = .ok (.aload_n 0, 1) := by decide +kernel
theorem d_Model_state_196 : decode b_Model_state 196 = .ok (.getfield 69, 3) := by decide +kernel
theorem d_Model_state_199 : decode b_Model_state 199 = .ok (.iload 6, 2) := by decide +kernel
theorem d_Model_state_201 : decode b_Model_state 201 = .ok (.iaload, 1) := by decide +kernel
theorem d_Model_state_202 : decode b_Model_state 202 = .ok (.imul, 1) := by decide +kernel
theorem d_Model_state_203 : decode b_Model_state 203 = .ok (.aload_n 0, 1) := by decide +kernel
theorem d_Model_state_204 : decode b_Model_state 204 = .ok (.getfield 72, 3) := by decide +kernel
theorem d_Model_state_207 : decode b_Model_state 207 = .ok (.iload_n 2, 1) := by decide +kernel
theorem d_Model_state_208 : decode b_Model_state 208 = .ok (.iaload, 1) := by decide +kernel
theorem d_Model_state_209 : decode b_Model_state 209 = .ok (.iadd, 1) := by decide +kernel
theorem d_Model_state_210 : decode b_Model_state 210 = .ok (.iaload, 1) := by decide +kernel
theorem d_Model_state_211 : decode b_Model_state 211 = .ok (.iastore, 1) := by decide +kernel
theorem d_Model_state_212 : decode b_Model_state 212 = .ok (.aload_n 0, 1) := by decide +kernel
theorem d_Model_state_213 : decode b_Model_state 213 = .ok (.getfield 87, 3) := by decide +kernel
theorem d_Model_state_216 : decode b_Model_state 216 = .ok (.aload_n 0, 1) := by decide +kernel
theorem d_Model_state_217 : decode b_Model_state 217 = .ok (.getfield 199, 3) := by decide +kernel
theorem d_Model_state_220 : decode b_Model_state 220 = .ok (.aload_n 0, 1) := by decide +kernel
theorem d_Model_state_221 : decode b_Model_state 221 = .ok (.getfield 75, 3) := by decide +kernel
theorem d_Model_state_224 : decode b_Model_state 224 = .ok (.iload 6, 2) := by decide +kernel
theorem d_Model_state_226 : decode b_Model_state 226 = .ok (.iaload, 1) := by decide +kernel
theorem d_Model_state_227 : decode b_Model_state 227 = .ok (.iastore, 1) := by decide +kernel
theorem d_Model_state_228 : decode b_Model_state 228 = .ok (.aload_n 0, 1) := by decide +kernel
theorem d_Model_state_229 : decode b_Model_state 229 = .ok (.dup, 1) := by decide +kernel
theorem d_Model_state_230 : decode b_Model_state 230 = .ok (.getfield 199, 3) := by decide +kernel
theorem d_Model_state_233 : decode b_Model_state 233 = .ok (.iconst 1, 1) := by decide +kernel
theorem d_Model_state_234 : decode b_Model_state 234 = .ok (.iadd, 1) := by decide +kernel
theorem d_Model_state_235 : decode b_Model_state 235 = .ok (.putfield 199, 3) := by decide +kernel
theorem d_Model_state_238 : decode b_Model_state 238 = .ok (.iinc 6 1, 3) := by decide +kernel
theorem d_Model_state_241 : decode b_Model_state 241 = .ok (.goto (-93), 3) := by decide +kernel
theorem d_Model_state_244 : decode b_Model_state 244 = .ok (.aload_n 0, 1) := by decide +kernel
theorem d_Model_state_245 : decode b_Model_state 245 = .ok (.getfield 75, 3) := by decide +kernel
theorem d_Model_state_248 : decode b_Model_state 248 = .ok (.iload_n 2, 1) := by decide +kernel
theorem d_Model_state_249 : decode b_Model_state 249 = .ok (.iload 5, 2) := by decide +kernel
theorem d_Model_state_251 : decode b_Model_state 251 = .ok (.iastore, 1) := by decide +kernel
theorem d_Model_state_252 : decode b_Model_state 252 = .ok (.aload_n 0, 1) := by decide +kernel
theorem d_Model_state_253 : decode b_Model_state 253 = .ok (.getfield 72, 3) := by decide +kernel
theorem d_Model_state_256 : decode b_Model_state 256 = .ok (.iload_n 2, 1) := by decide +kernel
theorem d_Model_state_257 : decode b_Model_state 257 = .ok (.iaload, 1) := by decide +kernel
theorem d_Model_state_258 : decode b_Model_state 258 = .ok (.ifCond .ne 9, 3) := by decide +kernel
theorem d_Model_state_261 : decode b_Model_state 261 = .ok (.aload_n 0, 1) := by decide +kernel
theorem d_Model_state_262 : decode b_Model_state 262 = .ok (.iload 5, 2) := by decide +kernel
theorem d_Model_state_264 : decode b_Model_state 264 = .ok (.putfield 202, 3) := by decide +kernel
theorem d_Model_state_267 : decode b_Model_state 267 = .ok (.return_, 1) := by decide +kernel
theorem d_Model_stepsOf_0 : decode b_Model_stepsOf 0 = .ok (.iconst 0, 1) := by decide +kernel
theorem d_Model_stepsOf_1 : decode b_Model_stepsOf 1 = .ok (.istore_n 2, 1) := by decide +kernel
theorem d_Model_stepsOf_2 : decode b_Model_stepsOf 2 = .ok (.iconst 0, 1) := by decide +kernel
theorem d_Model_stepsOf_3 : decode b_Model_stepsOf 3 = .ok (.istore_n 3, 1) := by decide +kernel
theorem d_Model_stepsOf_4 : decode b_Model_stepsOf 4 = .ok (.iload_n 3, 1) := by decide +kernel
theorem d_Model_stepsOf_5 : decode b_Model_stepsOf 5 = .ok (.aload_n 0, 1) := by decide +kernel
theorem d_Model_stepsOf_6 : decode b_Model_stepsOf 6 = .ok (.getfield 199, 3) := by decide +kernel
theorem d_Model_stepsOf_9 : decode b_Model_stepsOf 9 = .ok (.if_icmp .ge 27, 3) := by decide +kernel
theorem d_Model_stepsOf_12 : decode b_Model_stepsOf 12 = .ok (.iload_n 2, 1) := by decide +kernel
theorem d_Model_stepsOf_13 : decode b_Model_stepsOf 13 = .ok (.aload_n 0, 1) := by decide +kernel
theorem d_Model_stepsOf_14 : decode b_Model_stepsOf 14 = .ok (.getfield 81, 3) := by decide +kernel
theorem d_Model_stepsOf_17 : decode b_Model_stepsOf 17 = .ok (.iload_n 3, 1) := by decide +kernel
theorem d_Model_stepsOf_18 : decode b_Model_stepsOf 18 = .ok (.iaload, 1) := by decide +kernel
theorem d_Model_stepsOf_19 : decode b_Model_stepsOf 19 = .ok (.iload_n 1, 1) := by decide +kernel
theorem d_Model_stepsOf_20 : decode b_Model_stepsOf 20 = .ok (.if_icmp .ne 7, 3) := by decide +kernel
theorem d_Model_stepsOf_23 : decode b_Model_stepsOf 23 = .ok (.iconst 1, 1) := by decide +kernel
theorem d_Model_stepsOf_24 : decode b_Model_stepsOf 24 = .ok (.goto 4, 3) := by decide +kernel
theorem d_Model_stepsOf_27 : decode b_Model_stepsOf 27 = .ok (.iconst 0, 1) := by decide +kernel
theorem d_Model_stepsOf_28 : decode b_Model_stepsOf 28 = .ok (.iadd, 1) := by decide +kernel
theorem d_Model_stepsOf_29 : decode b_Model_stepsOf 29 = .ok (.istore_n 2, 1) := by decide +kernel
theorem d_Model_stepsOf_30 : decode b_Model_stepsOf 30 = .ok (.iinc 3 1, 3) := by decide +kernel
theorem d_Model_stepsOf_33 : decode b_Model_stepsOf 33 = .ok (.goto (-29), 3) := by decide +kernel
theorem d_Model_stepsOf_36 : decode b_Model_stepsOf 36 = .ok (.iload_n 2, 1) := by decide +kernel
theorem d_Model_stepsOf_37 : decode b_Model_stepsOf 37 = .ok (.ireturn, 1) := by decide +kernel
theorem d_Model_go_0 : decode b_Model_go 0 = .ok (.iconst 0, 1) := by decide +kernel
theorem d_Model_go_1 : decode b_Model_go 1 = .ok (.istore_n 3, 1) := by decide +kernel
theorem d_Model_go_2 : decode b_Model_go 2 = .ok (.iload_n 3, 1) := by decide +kernel
theorem d_Model_go_3 : decode b_Model_go 3 = .ok (.aload_n 0, 1) := by decide +kernel
theorem d_Model_go_4 : decode b_Model_go 4 = .ok (.getfield 199, 3) := by decide +kernel
theorem d_Model_go_7 : decode b_Model_go 7 = .ok (.if_icmp .ge 36, 3) := by decide +kernel
theorem d_Model_go_10 : decode b_Model_go 10 = .ok (.aload_n 0, 1) := by decide +kernel
theorem d_Model_go_11 : decode b_Model_go 11 = .ok (.getfield 81, 3) := by decide +kernel
theorem d_Model_go_14 : decode b_Model_go 14 = .ok (.iload_n 3, 1) := by decide +kernel
theorem d_Model_go_15 : decode b_Model_go 15 = .ok (.iaload, 1) := by decide +kernel
theorem d_Model_go_16 : decode b_Model_go 16 = .ok (.iload_n 1, 1) := by decide +kernel
theorem d_Model_go_17 : decode b_Model_go 17 = .ok (.if_icmp .ne 20, 3) := by decide +kernel
theorem d_Model_go_20 : decode b_Model_go 20 = .ok (.aload_n 0, 1) := by decide +kernel
theorem d_Model_go_21 : decode b_Model_go 21 = .ok (.getfield 84, 3) := by decide +kernel
theorem d_Model_go_24 : decode b_Model_go 24 = .ok (.iload_n 3, 1) := by decide +kernel
theorem d_Model_go_25 : decode b_Model_go 25 = .ok (.iaload, 1) := by decide +kernel
theorem d_Model_go_26 : decode b_Model_go 26 = .ok (.iload_n 2, 1) := by decide +kernel
theorem d_Model_go_27 : decode b_Model_go 27 = .ok (.if_icmp .ne 10, 3) := by decide +kernel
theorem d_Model_go_30 : decode b_Model_go 30 = .ok (.aload_n 0, 1) := by decide +kernel
theorem d_Model_go_31 : decode b_Model_go 31 = .ok (.getfield 87, 3) := by decide +kernel
theorem d_Model_go_34 : decode b_Model_go 34 = .ok (.iload_n 3, 1) := by decide +kernel
theorem d_Model_go_35 : decode b_Model_go 35 = .ok (.iaload, 1) := by decide +kernel
theorem d_Model_go_36 : decode b_Model_go 36 = .ok (.ireturn, 1) := by decide +kernel
theorem d_Model_go_37 : decode b_Model_go 37 = .ok (.iinc 3 1, 3) := by decide +kernel
theorem d_Model_go_40 : decode b_Model_go 40 = .ok (.goto (-38), 3) := by decide +kernel
theorem d_Model_go_43 : decode b_Model_go 43 = .ok (.iconst (-1), 1) := by decide +kernel
theorem d_Model_go_44 : decode b_Model_go 44 = .ok (.ireturn, 1) := by decide +kernel
theorem d_Model_alike_0 : decode b_Model_alike 0 = .ok (.iconst 0, 1) := by decide +kernel
theorem d_Model_alike_1 : decode b_Model_alike 1 = .ok (.istore_n 3, 1) := by decide +kernel
theorem d_Model_alike_2 : decode b_Model_alike 2 = .ok (.iload_n 3, 1) := by decide +kernel
theorem d_Model_alike_3 : decode b_Model_alike 3 = .ok (.aload_n 0, 1) := by decide +kernel
theorem d_Model_alike_4 : decode b_Model_alike 4 = .ok (.getfield 193, 3) := by decide +kernel
theorem d_Model_alike_7 : decode b_Model_alike 7 = .ok (.if_icmp .ge 55, 3) := by decide +kernel
theorem d_Model_alike_10 : decode b_Model_alike 10 = .ok (.aload_n 0, 1) := by decide +kernel
theorem d_Model_alike_11 : decode b_Model_alike 11 = .ok (.iload_n 3, 1) := by decide +kernel
theorem d_Model_alike_12 : decode b_Model_alike 12 = .ok (.iload_n 2, 1) := by decide +kernel
theorem d_Model_alike_13 : decode b_Model_alike 13 = .ok (.invokevirtual 217, 3) := by decide +kernel
theorem d_Model_alike_16 : decode b_Model_alike 16 = .ok (.ifCond .eq 40, 3) := by decide +kernel
theorem d_Model_alike_19 : decode b_Model_alike 19 = .ok (.aload_n 0, 1) := by decide +kernel
theorem d_Model_alike_20 : decode b_Model_alike 20 = .ok (.iload_n 1, 1) := by decide +kernel
theorem d_Model_alike_21 : decode b_Model_alike 21 = .ok (.aload_n 0, 1) := by decide +kernel
theorem d_Model_alike_22 : decode b_Model_alike 22 = .ok (.getfield 19, 3) := by decide +kernel
theorem d_Model_alike_25 : decode b_Model_alike 25 = .ok (.bipush 8, 2) := by decide +kernel
theorem d_Model_alike_27 : decode b_Model_alike 27 = .ok (.aload_n 0, 1) := by decide +kernel
theorem d_Model_alike_28 : decode b_Model_alike 28 = .ok (.getfield 69, 3) := by decide +kernel
theorem d_Model_alike_31 : decode b_Model_alike 31 = .ok (.iload_n 3, 1) := by decide +kernel
theorem d_Model_alike_32 : decode b_Model_alike 32 = .ok (.iaload, 1) := by decide +kernel
theorem d_Model_alike_33 : decode b_Model_alike 33 = .ok (.imul, 1) := by decide +kernel
theorem d_Model_alike_34 : decode b_Model_alike 34 = .ok (.aload_n 0, 1) := by decide +kernel
theorem d_Model_alike_35 : decode b_Model_alike 35 = .ok (.getfield 72, 3) := by decide +kernel
theorem d_Model_alike_38 : decode b_Model_alike 38 = .ok (.iload_n 2, 1) := by decide +kernel
theorem d_Model_alike_39 : decode b_Model_alike 39 = .ok (.iaload, 1) := by decide +kernel
theorem d_Model_alike_40 : decode b_Model_alike 40 = .ok (.iadd, 1) := by decide +kernel
theorem d_Model_alike_41 : decode b_Model_alike 41 = .ok (.iaload, 1) := by decide +kernel
theorem d_Model_alike_42 : decode b_Model_alike 42 = .ok (.invokevirtual 226, 3) := by decide +kernel
theorem d_Model_alike_45 : decode b_Model_alike 45 = .ok (.aload_n 0, 1) := by decide +kernel
theorem d_Model_alike_46 : decode b_Model_alike 46 = .ok (.getfield 75, 3) := by decide +kernel
theorem d_Model_alike_49 : decode b_Model_alike 49 = .ok (.iload_n 3, 1) := by decide +kernel
theorem d_Model_alike_50 : decode b_Model_alike 50 = .ok (.iaload, 1) := by decide +kernel
theorem d_Model_alike_51 : decode b_Model_alike 51 = .ok (.if_icmp .eq 5, 3) := by decide +kernel
theorem d_Model_alike_54 : decode b_Model_alike 54 = .ok (.iconst 0, 1) := by decide +kernel
theorem d_Model_alike_55 : decode b_Model_alike 55 = .ok (.ireturn, 1) := by decide +kernel
theorem d_Model_alike_56 : decode b_Model_alike 56 = .ok (.iinc 3 1, 3) := by decide +kernel
theorem d_Model_alike_59 : decode b_Model_alike 59 = .ok (.goto (-57), 3) := by decide +kernel
theorem d_Model_alike_62 : decode b_Model_alike 62 = .ok (.iconst 1, 1) := by decide +kernel
theorem d_Model_alike_63 : decode b_Model_alike 63 = .ok (.ireturn, 1) := by decide +kernel
theorem d_Model_automaton_0 : decode b_Model_automaton 0 = .ok (.aload_n 0, 1) := by decide +kernel
theorem d_Model_automaton_1 : decode b_Model_automaton 1 = .ok (.iconst 0, 1) := by decide +kernel
theorem d_Model_automaton_2 : decode b_Model_automaton 2 = .ok (.putfield 99, 3) := by decide +kernel
theorem d_Model_automaton_5 : decode b_Model_automaton 5 = .ok (.iload_n 1, 1) := by decide +kernel
theorem d_Model_automaton_6 : decode b_Model_automaton 6 = .ok (.ifCond .ne 8, 3) := by decide +kernel
theorem d_Model_automaton_9 : decode b_Model_automaton 9 = .ok (.aload_n 0, 1) := by decide +kernel
theorem d_Model_automaton_10 : decode b_Model_automaton 10 = .ok (.getfield 196, 3) := by decide +kernel
theorem d_Model_automaton_13 : decode b_Model_automaton 13 = .ok (.ireturn, 1) := by decide +kernel
theorem d_Model_automaton_14 : decode b_Model_automaton 14 = .ok (.iload_n 1, 1) := by decide +kernel
theorem d_Model_automaton_15 : decode b_Model_automaton 15 = .ok (.iconst 1, 1) := by decide +kernel
theorem d_Model_automaton_16 : decode b_Model_automaton 16 = .ok (.if_icmp .ne 8, 3) := by decide +kernel
theorem d_Model_automaton_19 : decode b_Model_automaton 19 = .ok (.aload_n 0, 1) := by decide +kernel
theorem d_Model_automaton_20 : decode b_Model_automaton 20 = .ok (.getfield 199, 3) := by decide +kernel
theorem d_Model_automaton_23 : decode b_Model_automaton 23 = .ok (.ireturn, 1) := by decide +kernel
theorem d_Model_automaton_24 : decode b_Model_automaton 24 = .ok (.iload_n 1, 1) := by decide +kernel
theorem d_Model_automaton_25 : decode b_Model_automaton 25 = .ok (.iconst 2, 1) := by decide +kernel
theorem d_Model_automaton_26 : decode b_Model_automaton 26 = .ok (.if_icmp .ne 40, 3) := by decide +kernel
theorem d_Model_automaton_29 : decode b_Model_automaton 29 = .ok (.iconst 0, 1) := by decide +kernel
theorem d_Model_automaton_30 : decode b_Model_automaton 30 = .ok (.istore_n 2, 1) := by decide +kernel
theorem d_Model_automaton_31 : decode b_Model_automaton 31 = .ok (.iconst 0, 1) := by decide +kernel
theorem d_Model_automaton_32 : decode b_Model_automaton 32 = .ok (.istore_n 3, 1) := by decide +kernel
theorem d_Model_automaton_33 : decode b_Model_automaton 33 = .ok (.iload_n 3, 1) := by decide +kernel
theorem d_Model_automaton_34 : decode b_Model_automaton 34 = .ok (.aload_n 0, 1) := by decide +kernel
theorem d_Model_automaton_35 : decode b_Model_automaton 35 = .ok (.getfield 196, 3) := by decide +kernel
theorem d_Model_automaton_38 : decode b_Model_automaton 38 = .ok (.if_icmp .ge 26, 3) := by decide +kernel
theorem d_Model_automaton_41 : decode b_Model_automaton 41 = .ok (.iload_n 2, 1) := by decide +kernel
theorem d_Model_automaton_42 : decode b_Model_automaton 42 = .ok (.aload_n 0, 1) := by decide +kernel
theorem d_Model_automaton_43 : decode b_Model_automaton 43 = .ok (.getfield 78, 3) := by decide +kernel
theorem d_Model_automaton_46 : decode b_Model_automaton 46 = .ok (.iload_n 3, 1) := by decide +kernel
theorem d_Model_automaton_47 : decode b_Model_automaton 47 = .ok (.baload, 1) := by decide +kernel
theorem d_Model_automaton_48 : decode b_Model_automaton 48 = .ok (.ifCond .eq 7, 3) := by decide +kernel
theorem d_Model_automaton_51 : decode b_Model_automaton 51 = .ok (.iconst 1, 1) := by decide +kernel
theorem d_Model_automaton_52 : decode b_Model_automaton 52 = .ok (.goto 4, 3) := by decide +kernel
theorem d_Model_automaton_55 : decode b_Model_automaton 55 = .ok (.iconst 0, 1) := by decide +kernel
theorem d_Model_automaton_56 : decode b_Model_automaton 56 = .ok (.iadd, 1) := by decide +kernel
theorem d_Model_automaton_57 : decode b_Model_automaton 57 = .ok (.istore_n 2, 1) := by decide +kernel
theorem d_Model_automaton_58 : decode b_Model_automaton 58 = .ok (.iinc 3 1, 3) := by decide +kernel
theorem d_Model_automaton_61 : decode b_Model_automaton 61 = .ok (.goto (-28), 3) := by decide +kernel
theorem d_Model_automaton_64 : decode b_Model_automaton 64 = .ok (.iload_n 2, 1) := by decide +kernel
theorem d_Model_automaton_65 : decode b_Model_automaton 65 = .ok (.ireturn, 1) := by decide +kernel
theorem d_Model_automaton_66 : decode b_Model_automaton 66 = .ok (.iload_n 1, 1) := by decide +kernel
theorem d_Model_automaton_67 : decode b_Model_automaton 67 = .ok (.iconst 3, 1) := by decide +kernel
theorem d_Model_automaton_68 : decode b_Model_automaton 68 = .ok (.if_icmp .eq 10, 3) := by decide +kernel
theorem d_Model_automaton_71 : decode b_Model_automaton 71 = .ok (.iload_n 1, 1) := by decide +kernel
theorem d_Model_automaton_72 : decode b_Model_automaton 72 = .ok (.iconst 4, 1) := by decide +kernel
theorem d_Model_automaton_73 : decode b_Model_automaton 73 = .ok (.if_icmp .eq 5, 3) := by decide +kernel
theorem d_Model_automaton_76 : decode b_Model_automaton 76 = .ok (.iconst (-1), 1) := by decide +kernel
theorem d_Model_automaton_77 : decode b_Model_automaton 77 = .ok (.ireturn, 1) := by decide +kernel
theorem d_Model_automaton_78 : decode b_Model_automaton 78 = .ok (.aload_n 0, 1) := by decide +kernel
theorem d_Model_automaton_79 : decode b_Model_automaton 79 = .ok (.getfield 102, 3) := by decide +kernel
theorem d_Model_automaton_82 : decode b_Model_automaton 82 = .ok (.istore_n 2, 1) := by decide +kernel
theorem d_Model_automaton_83 : decode b_Model_automaton 83 = .ok (.aload_n 0, 1) := by decide +kernel
theorem d_Model_automaton_84 : decode b_Model_automaton 84 = .ok (.iconst 0, 1) := by decide +kernel
theorem d_Model_automaton_85 : decode b_Model_automaton 85 = .ok (.putfield 102, 3) := by decide +kernel
theorem d_Model_automaton_88 : decode b_Model_automaton 88 = .ok (.aload_n 0, 1) := by decide +kernel
theorem d_Model_automaton_89 : decode b_Model_automaton 89 = .ok (.getfield 196, 3) := by decide +kernel
theorem d_Model_automaton_92 : decode b_Model_automaton 92 = .ok (.ifCond .ne 7, 3) := by decide +kernel
theorem d_Model_automaton_95 : decode b_Model_automaton 95 = .ok (.iconst (-1), 1) := by decide +kernel
theorem d_Model_automaton_96 : decode b_Model_automaton 96 = .ok (.goto 7, 3) := by decide +kernel
theorem d_Model_automaton_99 : decode b_Model_automaton 99 = .ok (.aload_n 0, 1) := by decide +kernel
theorem d_Model_automaton_100 : decode b_Model_automaton 100 = .ok (.getfield 202, 3) := by decide +kernel
theorem d_Model_automaton_103 : decode b_Model_automaton 103 = .ok (.istore_n 3, 1) := by decide +kernel
theorem d_Model_automaton_104 : decode b_Model_automaton 104 = .ok (.iconst 0, 1) := by decide +kernel
theorem d_Model_automaton_105 : decode b_Model_automaton 105 = .ok (.istore 4, 2) := by decide +kernel
theorem d_Model_automaton_107 : decode b_Model_automaton 107 = .ok (.iload_n 3, 1) := by decide +kernel
theorem d_Model_automaton_108 : decode b_Model_automaton 108 = .ok (.iconst (-1), 1) := by decide +kernel
theorem d_Model_automaton_109 : decode b_Model_automaton 109 = .ok (.if_icmp .eq 44, 3) := by decide +kernel
theorem d_Model_automaton_112 : decode b_Model_automaton 112 = .ok (.iload 4, 2) := by decide +kernel
theorem d_Model_automaton_114 : decode b_Model_automaton 114 = .ok (.iload_n 2, 1) := by decide +kernel
theorem d_Model_automaton_115 : decode b_Model_automaton 115 = .ok (.if_icmp .ge 38, 3) := by decide +kernel
theorem d_Model_automaton_118 : decode b_Model_automaton 118 = .ok (.aload_n 0, 1) := by decide +kernel
theorem d_Model_automaton_119 : decode b_Model_automaton 119 = .ok (.iload_n 3, 1) := by decide +kernel
theorem d_Model_automaton_120 : decode b_Model_automaton 120 = .ok (.aload_n 0, 1) := by decide +kernel
theorem d_Model_automaton_121 : decode b_Model_automaton 121 = .ok (.getfield 7, 3) := by decide +kernel
theorem d_Model_automaton_124 : decode b_Model_automaton 124 = .ok (.iload 4, 2) := by decide +kernel
theorem d_Model_automaton_126 : decode b_Model_automaton 126 = .ok (.iaload, 1) := by decide +kernel
theorem d_Model_automaton_127 : decode b_Model_automaton 127 = .ok (.invokevirtual 226, 3) := by decide +kernel
theorem d_Model_automaton_130 : decode b_Model_automaton 130 = .ok (.iconst (-1), 1) := by decide +kernel
theorem d_Model_automaton_131 : decode b_Model_automaton 131 = .ok (.if_icmp .eq 22, 3) := by decide +kernel
theorem d_Model_automaton_134 : decode b_Model_automaton 134 = .ok (.aload_n 0, 1) := by decide +kernel
theorem d_Model_automaton_135 : decode b_Model_automaton 135 = .ok (.iload_n 3, 1) := by decide +kernel
theorem d_Model_automaton_136 : decode b_Model_automaton 136 = .ok (.aload_n 0, 1) := by decide +kernel
theorem d_Model_automaton_137 : decode b_Model_automaton 137 = .ok (.getfield 7, 3) := by decide +kernel
theorem d_Model_automaton_140 : decode b_Model_automaton 140 = .ok (.iload 4, 2) := by decide +kernel
theorem d_Model_automaton_142 : decode b_Model_automaton 142 = .ok (.iaload, 1) := by decide +kernel
theorem d_Model_automaton_143 : decode b_Model_automaton 143 = .ok (.invokevirtual 226, 3) := by decide +kernel
theorem d_Model_automaton_146 : decode b_Model_automaton 146 = .ok (.istore_n 3, 1) := by decide +kernel
theorem d_Model_automaton_147 : decode b_Model_automaton 147 = .ok (.iinc 4 1, 3) := by decide +kernel
theorem d_Model_automaton_150 : decode b_Model_automaton 150 = .ok (.goto (-43), 3) := by decide +kernel
theorem d_Model_automaton_153 : decode b_Model_automaton 153 = .ok (.iload_n 1, 1) := by decide +kernel
theorem d_Model_automaton_154 : decode b_Model_automaton 154 = .ok (.iconst 3, 1) := by decide +kernel
theorem d_Model_automaton_155 : decode b_Model_automaton 155 = .ok (.if_icmp .ne 17, 3) := by decide +kernel
theorem d_Model_automaton_158 : decode b_Model_automaton 158 = .ok (.aload_n 0, 1) := by decide +kernel
theorem d_Model_automaton_159 : decode b_Model_automaton 159 = .ok (.getfield 196, 3) := by decide +kernel
theorem d_Model_automaton_162 : decode b_Model_automaton 162 = .ok (.ifCond .ne 7, 3) := by decide +kernel
theorem d_Model_automaton_165 : decode b_Model_automaton 165 = .ok (.iconst (-1), 1) := by decide +kernel
theorem d_Model_automaton_166 : decode b_Model_automaton 166 = .ok (.goto 5, 3) := by decide +kernel
theorem d_Model_automaton_169 : decode b_Model_automaton 169 = .ok (.iload 4, 2) := by decide +kernel
theorem d_Model_automaton_171 : decode b_Model_automaton 171 = .ok (.ireturn, 1) := by decide +kernel
theorem d_Model_automaton_172 : decode b_Model_automaton 172 = .ok (.iload_n 3, 1) := by decide +kernel
theorem d_Model_automaton_173 : decode b_Model_automaton 173 = .ok (.iconst (-1), 1) := by decide +kernel
theorem d_Model_automaton_174 : decode b_Model_automaton 174 = .ok (.if_icmp .eq 22, 3) := by decide +kernel
theorem d_Model_automaton_177 : decode b_Model_automaton 177 = .ok (.iload 4, 2) := by decide +kernel
theorem d_Model_automaton_179 : decode b_Model_automaton 179 = .ok (.iload_n 2, 1) := by decide +kernel
theorem d_Model_automaton_180 : decode b_Model_automaton 180 = .ok (.if_icmp .ne 16, 3) := by decide +kernel
theorem d_Model_automaton_183 : decode b_Model_automaton 183 = .ok (.aload_n 0, 1) := by decide +kernel
theorem d_Model_automaton_184 : decode b_Model_automaton 184 = .ok (.getfield 78, 3) := by decide +kernel
theorem d_Model_automaton_187 : decode b_Model_automaton 187 = .ok (.iload_n 3, 1) := by decide +kernel
theorem d_Model_automaton_188 : decode b_Model_automaton 188 = .ok (.baload, 1) := by decide +kernel
theorem d_Model_automaton_189 : decode b_Model_automaton 189 = .ok (.ifCond .eq 7, 3) := by decide +kernel
theorem d_Model_automaton_192 : decode b_Model_automaton 192 = .ok (.iconst 1, 1) := by decide +kernel
theorem d_Model_automaton_193 : decode b_Model_automaton 193 = .ok (.goto 4, 3) := by decide +kernel
theorem d_Model_automaton_196 : decode b_Model_automaton 196 = .ok (.iconst 0, 1) := by decide +kernel
theorem d_Model_automaton_197 : decode b_Model_automaton 197 = .ok (.ireturn, 1) := by decide +kernel
theorem d_Model_keep_0 : decode b_Model_keep 0 = .ok (.aload_n 0, 1) := by decide +kernel
theorem d_Model_keep_1 : decode b_Model_keep 1 = .ok (.getfield 229, 3) := by decide +kernel
theorem d_Model_keep_4 : decode b_Model_keep 4 = .ok (.bipush 21, 2) := by decide +kernel
theorem d_Model_keep_6 : decode b_Model_keep 6 = .ok (.irem, 1) := by decide +kernel
theorem d_Model_keep_7 : decode b_Model_keep 7 = .ok (.istore_n 1, 1) := by decide +kernel
theorem d_Model_keep_8 : decode b_Model_keep 8 = .ok (.iconst 0, 1) := by decide +kernel
theorem d_Model_keep_9 : decode b_Model_keep 9 = .ok (.istore_n 2, 1) := by decide +kernel
theorem d_Model_keep_10 : decode b_Model_keep 10 = .ok (.iload_n 2, 1) := by decide +kernel
theorem d_Model_keep_11 : decode b_Model_keep 11 = .ok (.aload_n 0, 1) := by decide +kernel
theorem d_Model_keep_12 : decode b_Model_keep 12 = .ok (.getfield 232, 3) := by decide +kernel
theorem d_Model_keep_15 : decode b_Model_keep 15 = .ok (.if_icmp .ge 26, 3) := by decide +kernel
theorem d_Model_keep_18 : decode b_Model_keep 18 = .ok (.aload_n 0, 1) := by decide +kernel
theorem d_Model_keep_19 : decode b_Model_keep 19 = .ok (.getfield 93, 3) := by decide +kernel
theorem d_Model_keep_22 : decode b_Model_keep 22 = .ok (.bipush 120, 2) := by decide +kernel
theorem d_Model_keep_24 : decode b_Model_keep 24 = .ok (.iload_n 1, 1) := by decide +kernel
theorem d_Model_keep_25 : decode b_Model_keep 25 = .ok (.imul, 1) := by decide +kernel
theorem d_Model_keep_26 : decode b_Model_keep 26 = .ok (.iload_n 2, 1) := by decide +kernel
theorem d_Model_keep_27 : decode b_Model_keep 27 = .ok (.iadd, 1) := by decide +kernel
theorem d_Model_keep_28 : decode b_Model_keep 28 = .ok (.aload_n 0, 1) := by decide +kernel
theorem d_Model_keep_29 : decode b_Model_keep 29 = .ok (.getfield 90, 3) := by decide +kernel
theorem d_Model_keep_32 : decode b_Model_keep 32 = .ok (.iload_n 2, 1) := by decide +kernel
theorem d_Model_keep_33 : decode b_Model_keep 33 = .ok (.iaload, 1) := by decide +kernel
theorem d_Model_keep_34 : decode b_Model_keep 34 = .ok (.iastore, 1) := by decide +kernel
theorem d_Model_keep_35 : decode b_Model_keep 35 = .ok (.iinc 2 1, 3) := by decide +kernel
theorem d_Model_keep_38 : decode b_Model_keep 38 = .ok (.goto (-28), 3) := by decide +kernel
theorem d_Model_keep_41 : decode b_Model_keep 41 = .ok (.aload_n 0, 1) := by decide +kernel
theorem d_Model_keep_42 : decode b_Model_keep 42 = .ok (.getfield 96, 3) := by decide +kernel
theorem d_Model_keep_45 : decode b_Model_keep 45 = .ok (.iload_n 1, 1) := by decide +kernel
theorem d_Model_keep_46 : decode b_Model_keep 46 = .ok (.aload_n 0, 1) := by decide +kernel
theorem d_Model_keep_47 : decode b_Model_keep 47 = .ok (.getfield 232, 3) := by decide +kernel
theorem d_Model_keep_50 : decode b_Model_keep 50 = .ok (.iastore, 1) := by decide +kernel
theorem d_Model_keep_51 : decode b_Model_keep 51 = .ok (.aload_n 0, 1) := by decide +kernel
theorem d_Model_keep_52 : decode b_Model_keep 52 = .ok (.dup, 1) := by decide +kernel
theorem d_Model_keep_53 : decode b_Model_keep 53 = .ok (.getfield 229, 3) := by decide +kernel
theorem d_Model_keep_56 : decode b_Model_keep 56 = .ok (.iconst 1, 1) := by decide +kernel
theorem d_Model_keep_57 : decode b_Model_keep 57 = .ok (.iadd, 1) := by decide +kernel
theorem d_Model_keep_58 : decode b_Model_keep 58 = .ok (.putfield 229, 3) := by decide +kernel
theorem d_Model_keep_61 : decode b_Model_keep 61 = .ok (.aload_n 0, 1) := by decide +kernel
theorem d_Model_keep_62 : decode b_Model_keep 62 = .ok (.aload_n 0, 1) := by decide +kernel
theorem d_Model_keep_63 : decode b_Model_keep 63 = .ok (.getfield 234, 3) := by decide +kernel
theorem d_Model_keep_66 : decode b_Model_keep 66 = .ok (.bipush 20, 2) := by decide +kernel
theorem d_Model_keep_68 : decode b_Model_keep 68 = .ok (.if_icmp .ge 12, 3) := by decide +kernel
theorem d_Model_keep_71 : decode b_Model_keep 71 = .ok (.aload_n 0, 1) := by decide +kernel
theorem d_Model_keep_72 : decode b_Model_keep 72 = .ok (.getfield 234, 3) := by decide +kernel
theorem d_Model_keep_75 : decode b_Model_keep 75 = .ok (.iconst 1, 1) := by decide +kernel
theorem d_Model_keep_76 : decode b_Model_keep 76 = .ok (.iadd, 1) := by decide +kernel
theorem d_Model_keep_77 : decode b_Model_keep 77 = .ok (.goto 5, 3) := by decide +kernel
theorem d_Model_keep_80 : decode b_Model_keep 80 = .ok (.bipush 20, 2) := by decide +kernel
theorem d_Model_keep_82 : decode b_Model_keep 82 = .ok (.putfield 234, 3) := by decide +kernel
theorem d_Model_keep_85 : decode b_Model_keep 85 = .ok (.return_, 1) := by decide +kernel
theorem d_Model_insert_0 : decode b_Model_insert 0 = .ok (.iload_n 1, 1) := by decide +kernel
theorem d_Model_insert_1 : decode b_Model_insert 1 = .ok (.ifCond .lt 11, 3) := by decide +kernel
theorem d_Model_insert_4 : decode b_Model_insert 4 = .ok (.iload_n 1, 1) := by decide +kernel
theorem d_Model_insert_5 : decode b_Model_insert 5 = .ok (.aload_n 0, 1) := by decide +kernel
theorem d_Model_insert_6 : decode b_Model_insert 6 = .ok (.getfield 232, 3) := by decide +kernel
theorem d_Model_insert_9 : decode b_Model_insert 9 = .ok (.if_icmp .le 9, 3) := by decide +kernel
theorem d_Model_insert_12 : decode b_Model_insert 12 = .ok (.aload_n 0, 1) := by decide +kernel
theorem d_Model_insert_13 : decode b_Model_insert 13 = .ok (.iconst 1, 1) := by decide +kernel
theorem d_Model_insert_14 : decode b_Model_insert 14 = .ok (.invokevirtual 126, 3) := by decide +kernel
theorem d_Model_insert_17 : decode b_Model_insert 17 = .ok (.ireturn, 1) := by decide +kernel
theorem d_Model_insert_18 : decode b_Model_insert 18 = .ok (.aload_n 0, 1) := by decide +kernel
theorem d_Model_insert_19 : decode b_Model_insert 19 = .ok (.getfield 102, 3) := by decide +kernel
theorem d_Model_insert_22 : decode b_Model_insert 22 = .ok (.istore_n 2, 1) := by decide +kernel
theorem d_Model_insert_23 : decode b_Model_insert 23 = .ok (.aload_n 0, 1) := by decide +kernel
theorem d_Model_insert_24 : decode b_Model_insert 24 = .ok (.iconst 0, 1) := by decide +kernel
theorem d_Model_insert_25 : decode b_Model_insert 25 = .ok (.putfield 102, 3) := by decide +kernel
theorem d_Model_insert_28 : decode b_Model_insert 28 = .ok (.aload_n 0, 1) := by decide +kernel
theorem d_Model_insert_29 : decode b_Model_insert 29 = .ok (.getfield 232, 3) := by decide +kernel
theorem d_Model_insert_32 : decode b_Model_insert 32 = .ok (.iload_n 2, 1) := by decide +kernel
theorem d_Model_insert_33 : decode b_Model_insert 33 = .ok (.iadd, 1) := by decide +kernel
theorem d_Model_insert_34 : decode b_Model_insert 34 = .ok (.bipush 120, 2) := by decide +kernel
theorem d_Model_insert_36 : decode b_Model_insert 36 = .ok (.if_icmp .le 9, 3) := by decide +kernel
theorem d_Model_insert_39 : decode b_Model_insert 39 = .ok (.aload_n 0, 1) := by decide +kernel
theorem d_Model_insert_40 : decode b_Model_insert 40 = .ok (.iconst 2, 1) := by decide +kernel
theorem d_Model_insert_41 : decode b_Model_insert 41 = .ok (.invokevirtual 126, 3) := by decide +kernel
theorem d_Model_insert_44 : decode b_Model_insert 44 = .ok (.ireturn, 1) := by decide +kernel
theorem d_Model_insert_45 : decode b_Model_insert 45 = .ok (.aload_n 0, 1) := by decide +kernel
theorem d_Model_insert_46 : decode b_Model_insert 46 = .ok (.iconst 0, 1) := by decide +kernel
theorem d_Model_insert_47 : decode b_Model_insert 47 = .ok (.putfield 99, 3) := by decide +kernel
theorem d_Model_insert_50 : decode b_Model_insert 50 = .ok (.aload_n 0, 1) := by decide +kernel
theorem d_Model_insert_51 : decode b_Model_insert 51 = .ok (.invokevirtual 237, 3) := by decide +kernel
theorem d_Model_insert_54 : decode b_Model_insert 54 = .ok (.aload_n 0, 1) := by decide +kernel
theorem d_Model_insert_55 : decode b_Model_insert 55 = .ok (.getfield 232, 3) := by decide +kernel
theorem d_Model_insert_58 : decode b_Model_insert 58 = .ok (.iconst 1, 1) := by decide +kernel
theorem d_Model_insert_59 : decode b_Model_insert 59 = .ok (.isub, 1) := by decide +kernel
theorem d_Model_insert_60 : decode b_Model_insert 60 = .ok (.istore_n 3, 1) := by decide +kernel
theorem d_Model_insert_61 : decode b_Model_insert 61 = .ok (.iload_n 3, 1) := by decide +kernel
theorem d_Model_insert_62 : decode b_Model_insert 62 = .ok (.iload_n 1, 1) := by decide +kernel
theorem d_Model_insert_63 : decode b_Model_insert 63 = .ok (.if_icmp .lt 23, 3) := by decide +kernel
theorem d_Model_insert_66 : decode b_Model_insert 66 = .ok (.aload_n 0, 1) := by decide +kernel
theorem d_Model_insert_67 : decode b_Model_insert 67 = .ok (.getfield 90, 3) := by decide +kernel
theorem d_Model_insert_70 : decode b_Model_insert 70 = .ok (.iload_n 3, 1) := by decide +kernel
theorem d_Model_insert_71 : decode b_Model_insert 71 = .ok (.iload_n 2, 1) := by decide +kernel
theorem d_Model_insert_72 : decode b_Model_insert 72 = .ok (.iadd, 1) := by decide +kernel
theorem d_Model_insert_73 : decode b_Model_insert 73 = .ok (.aload_n 0, 1) := by decide +kernel
theorem d_Model_insert_74 : decode b_Model_insert 74 = .ok (.getfield 90, 3) := by decide +kernel
theorem d_Model_insert_77 : decode b_Model_insert 77 = .ok (.iload_n 3, 1) := by decide +kernel
theorem d_Model_insert_78 : decode b_Model_insert 78 = .ok (.iaload, 1) := by decide +kernel
theorem d_Model_insert_79 : decode b_Model_insert 79 = .ok (.iastore, 1) := by decide +kernel
theorem d_Model_insert_80 : decode b_Model_insert 80 = .ok (.iinc 3 (-1), 3) := by decide +kernel
theorem d_Model_insert_83 : decode b_Model_insert 83 = .ok (.goto (-22), 3) := by decide +kernel
theorem d_Model_insert_86 : decode b_Model_insert 86 = .ok (.iconst 0, 1) := by decide +kernel
theorem d_Model_insert_87 : decode b_Model_insert 87 = .ok (.istore_n 3, 1) := by decide +kernel
theorem d_Model_insert_88 : decode b_Model_insert 88 = .ok (.iload_n 3, 1) := by decide +kernel
theorem d_Model_insert_89 : decode b_Model_insert 89 = .ok (.iload_n 2, 1) := by decide +kernel
theorem d_Model_insert_90 : decode b_Model_insert 90 = .ok (.if_icmp .ge 23, 3) := by decide +kernel
theorem d_Model_insert_93 : decode b_Model_insert 93 = .ok (.aload_n 0, 1) := by decide +kernel
theorem d_Model_insert_94 : decode b_Model_insert 94 = .ok (.getfield 90, 3) := by decide +kernel
theorem d_Model_insert_97 : decode b_Model_insert 97 = .ok (.iload_n 1, 1) := by decide +kernel
theorem d_Model_insert_98 : decode b_Model_insert 98 = .ok (.iload_n 3, 1) := by decide +kernel
theorem d_Model_insert_99 : decode b_Model_insert 99 = .ok (.iadd, 1) := by decide +kernel
theorem d_Model_insert_100 : decode b_Model_insert 100 = .ok (.aload_n 0, 1) := by decide +kernel
theorem d_Model_insert_101 : decode b_Model_insert 101 = .ok (.getfield 7, 3) := by decide +kernel
theorem d_Model_insert_104 : decode b_Model_insert 104 = .ok (.iload_n 3, 1) := by decide +kernel
theorem d_Model_insert_105 : decode b_Model_insert 105 = .ok (.iaload, 1) := by decide +kernel
theorem d_Model_insert_106 : decode b_Model_insert 106 = .ok (.iastore, 1) := by decide +kernel
theorem d_Model_insert_107 : decode b_Model_insert 107 = .ok (.iinc 3 1, 3) := by decide +kernel
theorem d_Model_insert_110 : decode b_Model_insert 110 = .ok (.goto (-22), 3) := by decide +kernel
theorem d_Model_insert_113 : decode b_Model_insert 113 = .ok (.aload_n 0, 1) := by decide +kernel
theorem d_Model_insert_114 : decode b_Model_insert 114 = .ok (.dup, 1) := by decide +kernel
theorem d_Model_insert_115 : decode b_Model_insert 115 = .ok (.getfield 232, 3) := by decide +kernel
theorem d_Model_insert_118 : decode b_Model_insert 118 = .ok (.iload_n 2, 1) := by decide +kernel
theorem d_Model_insert_119 : decode b_Model_insert 119 = .ok (.iadd, 1) := by decide +kernel
theorem d_Model_insert_120 : decode b_Model_insert 120 = .ok (.putfield 232, 3) := by decide +kernel
theorem d_Model_insert_123 : decode b_Model_insert 123 = .ok (.aload_n 0, 1) := by decide +kernel
theorem d_Model_insert_124 : decode b_Model_insert 124 = .ok (.getfield 232, 3) := by decide +kernel
theorem d_Model_insert_127 : decode b_Model_insert 127 = .ok (.ireturn, 1) := by decide +kernel
theorem d_Model_delete_0 : decode b_Model_delete 0 = .ok (.iload_n 1, 1) := by decide +kernel
theorem d_Model_delete_1 : decode b_Model_delete 1 = .ok (.ifCond .lt 16, 3) := by decide +kernel
theorem d_Model_delete_4 : decode b_Model_delete 4 = .ok (.iload_n 2, 1) := by decide +kernel
theorem d_Model_delete_5 : decode b_Model_delete 5 = .ok (.iload_n 1, 1) := by decide +kernel
theorem d_Model_delete_6 : decode b_Model_delete 6 = .ok (.if_icmp .lt 11, 3) := by decide +kernel
theorem d_Model_delete_9 : decode b_Model_delete 9 = .ok (.iload_n 2, 1) := by decide +kernel
theorem d_Model_delete_10 : decode b_Model_delete 10 = .ok (.aload_n 0, 1) := by decide +kernel
theorem d_Model_delete_11 : decode b_Model_delete 11 = .ok (.getfield 232, 3) := by decide +kernel
theorem d_Model_delete_14 : decode b_Model_delete 14 = .ok (.if_icmp .le 9, 3) := by decide +kernel
theorem d_Model_delete_17 : decode b_Model_delete 17 = .ok (.aload_n 0, 1) := by decide +kernel
theorem d_Model_delete_18 : decode b_Model_delete 18 = .ok (.iconst 1, 1) := by decide +kernel
theorem d_Model_delete_19 : decode b_Model_delete 19 = .ok (.invokevirtual 126, 3) := by decide +kernel
theorem d_Model_delete_22 : decode b_Model_delete 22 = .ok (.ireturn, 1) := by decide +kernel
theorem d_Model_delete_23 : decode b_Model_delete 23 = .ok (.aload_n 0, 1) := by decide +kernel
theorem d_Model_delete_24 : decode b_Model_delete 24 = .ok (.iconst 0, 1) := by decide +kernel
theorem d_Model_delete_25 : decode b_Model_delete 25 = .ok (.putfield 99, 3) := by decide +kernel
theorem d_Model_delete_28 : decode b_Model_delete 28 = .ok (.aload_n 0, 1) := by decide +kernel
theorem d_Model_delete_29 : decode b_Model_delete 29 = .ok (.invokevirtual 237, 3) := by decide +kernel
theorem d_Model_delete_32 : decode b_Model_delete 32 = .ok (.iload_n 2, 1) := by decide +kernel
theorem d_Model_delete_33 : decode b_Model_delete 33 = .ok (.istore_n 3, 1) := by decide +kernel
theorem d_Model_delete_34 : decode b_Model_delete 34 = .ok (.iload_n 3, 1) := by decide +kernel
theorem d_Model_delete_35 : decode b_Model_delete 35 = .ok (.aload_n 0, 1) := by decide +kernel
theorem d_Model_delete_36 : decode b_Model_delete 36 = .ok (.getfield 232, 3) := by decide +kernel
theorem d_Model_delete_39 : decode b_Model_delete 39 = .ok (.if_icmp .ge 25, 3) := by decide +kernel
theorem d_Model_delete_42 : decode b_Model_delete 42 = .ok (.aload_n 0, 1) := by decide +kernel
theorem d_Model_delete_43 : decode b_Model_delete 43 = .ok (.getfield 90, 3) := by decide +kernel
theorem d_Model_delete_46 : decode b_Model_delete 46 = .ok (.iload_n 3, 1) := by decide +kernel
theorem d_Model_delete_47 : decode b_Model_delete 47 = .ok (.iload_n 2, 1) := by decide +kernel
theorem d_Model_delete_48 : decode b_Model_delete 48 = .ok (.isub, 1) := by decide +kernel
theorem d_Model_delete_49 : decode b_Model_delete 49 = .ok (.iload_n 1, 1) := by decide +kernel
theorem d_Model_delete_50 : decode b_Model_delete 50 = .ok (.iadd, 1) := by decide +kernel
theorem d_Model_delete_51 : decode b_Model_delete 51 = .ok (.aload_n 0, 1) := by decide +kernel
theorem d_Model_delete_52 : decode b_Model_delete 52 = .ok (.getfield 90, 3) := by decide +kernel
theorem d_Model_delete_55 : decode b_Model_delete 55 = .ok (.iload_n 3, 1) := by decide +kernel
theorem d_Model_delete_56 : decode b_Model_delete 56 = .ok (.iaload, 1) := by decide +kernel
theorem d_Model_delete_57 : decode b_Model_delete 57 = .ok (.iastore, 1) := by decide +kernel
theorem d_Model_delete_58 : decode b_Model_delete 58 = .ok (.iinc 3 1, 3) := by decide +kernel
theorem d_Model_delete_61 : decode b_Model_delete 61 = .ok (.goto (-27), 3) := by decide +kernel
theorem d_Model_delete_64 : decode b_Model_delete 64 = .ok (.aload_n 0, 1) := by decide +kernel
theorem d_Model_delete_65 : decode b_Model_delete 65 = .ok (.dup, 1) := by decide +kernel
theorem d_Model_delete_66 : decode b_Model_delete 66 = .ok (.getfield 232, 3) := by decide +kernel
theorem d_Model_delete_69 : decode b_Model_delete 69 = .ok (.iload_n 2, 1) := by decide +kernel
theorem d_Model_delete_70 : decode b_Model_delete 70 = .ok (.iload_n 1, 1) := by decide +kernel
theorem d_Model_delete_71 : decode b_Model_delete 71 = .ok (.isub, 1) := by decide +kernel
theorem d_Model_delete_72 : decode b_Model_delete 72 = .ok (.isub, 1) := by decide +kernel
theorem d_Model_delete_73 : decode b_Model_delete 73 = .ok (.putfield 232, 3) := by decide +kernel
theorem d_Model_delete_76 : decode b_Model_delete 76 = .ok (.aload_n 0, 1) := by decide +kernel
theorem d_Model_delete_77 : decode b_Model_delete 77 = .ok (.getfield 232, 3) := by decide +kernel
theorem d_Model_delete_80 : decode b_Model_delete 80 = .ok (.ireturn, 1) := by decide +kernel
theorem d_Model_undo_0 : decode b_Model_undo 0 = .ok (.aload_n 0, 1) := by decide +kernel
theorem d_Model_undo_1 : decode b_Model_undo 1 = .ok (.iconst 0, 1) := by decide +kernel
theorem d_Model_undo_2 : decode b_Model_undo 2 = .ok (.putfield 99, 3) := by decide +kernel
theorem d_Model_undo_5 : decode b_Model_undo 5 = .ok (.aload_n 0, 1) := by decide +kernel
theorem d_Model_undo_6 : decode b_Model_undo 6 = .ok (.getfield 234, 3) := by decide +kernel
theorem d_Model_undo_9 : decode b_Model_undo 9 = .ok (.ifCond .ne 5, 3) := by decide +kernel
theorem d_Model_undo_12 : decode b_Model_undo 12 = .ok (.iconst (-1), 1) := by decide +kernel
theorem d_Model_undo_13 : decode b_Model_undo 13 = .ok (.ireturn, 1) := by decide +kernel
theorem d_Model_undo_14 : decode b_Model_undo 14 = .ok (.aload_n 0, 1) := by decide +kernel
theorem d_Model_undo_15 : decode b_Model_undo 15 = .ok (.dup, 1) := by decide +kernel
theorem d_Model_undo_16 : decode b_Model_undo 16 = .ok (.getfield 234, 3) := by decide +kernel
theorem d_Model_undo_19 : decode b_Model_undo 19 = .ok (.iconst 1, 1) := by decide +kernel
theorem d_Model_undo_20 : decode b_Model_undo 20 = .ok (.isub, 1) := by decide +kernel
theorem d_Model_undo_21 : decode b_Model_undo 21 = .ok (.putfield 234, 3) := by decide +kernel
theorem d_Model_undo_24 : decode b_Model_undo 24 = .ok (.aload_n 0, 1) := by decide +kernel
theorem d_Model_undo_25 : decode b_Model_undo 25 = .ok (.dup, 1) := by decide +kernel
theorem d_Model_undo_26 : decode b_Model_undo 26 = .ok (.getfield 229, 3) := by decide +kernel
theorem d_Model_undo_29 : decode b_Model_undo 29 = .ok (.iconst 1, 1) := by decide +kernel
theorem d_Model_undo_30 : decode b_Model_undo 30 = .ok (.isub, 1) := by decide +kernel
theorem d_Model_undo_31 : decode b_Model_undo 31 = .ok (.putfield 229, 3) := by decide +kernel
theorem d_Model_undo_34 : decode b_Model_undo 34 = .ok (.aload_n 0, 1) := by decide +kernel
theorem d_Model_undo_35 : decode b_Model_undo 35 = .ok (.getfield 229, 3) := by decide +kernel
theorem d_Model_undo_38 : decode b_Model_undo 38 = .ok (.bipush 21, 2) := by decide +kernel
theorem d_Model_undo_40 : decode b_Model_undo 40 = .ok (.irem, 1) := by decide +kernel
theorem d_Model_undo_41 : decode b_Model_undo 41 = .ok (.istore_n 1, 1) := by decide +kernel
theorem d_Model_undo_42 : decode b_Model_undo 42 = .ok (.aload_n 0, 1) := by decide +kernel
theorem d_Model_undo_43 : decode b_Model_undo 43 = .ok (.aload_n 0, 1) := by decide +kernel
theorem d_Model_undo_44 : decode b_Model_undo 44 = .ok (.getfield 96, 3) := by decide +kernel
theorem d_Model_undo_47 : decode b_Model_undo 47 = .ok (.iload_n 1, 1) := by decide +kernel
theorem d_Model_undo_48 : decode b_Model_undo 48 = .ok (.iaload, 1) := by decide +kernel
theorem d_Model_undo_49 : decode b_Model_undo 49 = .ok (.putfield 232, 3) := by decide +kernel
theorem d_Model_undo_52 : decode b_Model_undo 52 = .ok (.iconst 0, 1) := by decide +kernel
theorem d_Model_undo_53 : decode b_Model_undo 53 = .ok (.istore_n 2, 1) := by decide +kernel
theorem d_Model_undo_54 : decode b_Model_undo 54 = .ok (.iload_n 2, 1) := by decide +kernel
theorem d_Model_undo_55 : decode b_Model_undo 55 = .ok (.aload_n 0, 1) := by decide +kernel
theorem d_Model_undo_56 : decode b_Model_undo 56 = .ok (.getfield 232, 3) := by decide +kernel
theorem d_Model_undo_59 : decode b_Model_undo 59 = .ok (.if_icmp .ge 26, 3) := by decide +kernel
theorem d_Model_undo_62 : decode b_Model_undo 62 = .ok (.aload_n 0, 1) := by decide +kernel
theorem d_Model_undo_63 : decode b_Model_undo 63 = .ok (.getfield 90, 3) := by decide +kernel
theorem d_Model_undo_66 : decode b_Model_undo 66 = .ok (.iload_n 2, 1) := by decide +kernel
theorem d_Model_undo_67 : decode b_Model_undo 67 = .ok (.aload_n 0, 1) := by decide +kernel
theorem d_Model_undo_68 : decode b_Model_undo 68 = .ok (.getfield 93, 3) := by decide +kernel
theorem d_Model_undo_71 : decode b_Model_undo 71 = .ok (.bipush 120, 2) := by decide +kernel
theorem d_Model_undo_73 : decode b_Model_undo 73 = .ok (.iload_n 1, 1) := by decide +kernel
theorem d_Model_undo_74 : decode b_Model_undo 74 = .ok (.imul, 1) := by decide +kernel
theorem d_Model_undo_75 : decode b_Model_undo 75 = .ok (.iload_n 2, 1) := by decide +kernel
theorem d_Model_undo_76 : decode b_Model_undo 76 = .ok (.iadd, 1) := by decide +kernel
theorem d_Model_undo_77 : decode b_Model_undo 77 = .ok (.iaload, 1) := by decide +kernel
theorem d_Model_undo_78 : decode b_Model_undo 78 = .ok (.iastore, 1) := by decide +kernel
theorem d_Model_undo_79 : decode b_Model_undo 79 = .ok (.iinc 2 1, 3) := by decide +kernel
theorem d_Model_undo_82 : decode b_Model_undo 82 = .ok (.goto (-28), 3) := by decide +kernel
theorem d_Model_undo_85 : decode b_Model_undo 85 = .ok (.aload_n 0, 1) := by decide +kernel
theorem d_Model_undo_86 : decode b_Model_undo 86 = .ok (.getfield 232, 3) := by decide +kernel
theorem d_Model_undo_89 : decode b_Model_undo 89 = .ok (.ireturn, 1) := by decide +kernel
theorem d_Model_letter_0 : decode b_Model_letter 0 = .ok (.aload_n 0, 1) := by decide +kernel
theorem d_Model_letter_1 : decode b_Model_letter 1 = .ok (.iconst 0, 1) := by decide +kernel
theorem d_Model_letter_2 : decode b_Model_letter 2 = .ok (.putfield 99, 3) := by decide +kernel
theorem d_Model_letter_5 : decode b_Model_letter 5 = .ok (.iload_n 1, 1) := by decide +kernel
theorem d_Model_letter_6 : decode b_Model_letter 6 = .ok (.iconst (-1), 1) := by decide +kernel
theorem d_Model_letter_7 : decode b_Model_letter 7 = .ok (.if_icmp .ne 8, 3) := by decide +kernel
theorem d_Model_letter_10 : decode b_Model_letter 10 = .ok (.aload_n 0, 1) := by decide +kernel
theorem d_Model_letter_11 : decode b_Model_letter 11 = .ok (.getfield 232, 3) := by decide +kernel
theorem d_Model_letter_14 : decode b_Model_letter 14 = .ok (.ireturn, 1) := by decide +kernel
theorem d_Model_letter_15 : decode b_Model_letter 15 = .ok (.iload_n 1, 1) := by decide +kernel
theorem d_Model_letter_16 : decode b_Model_letter 16 = .ok (.bipush (-2), 2) := by decide +kernel
theorem d_Model_letter_18 : decode b_Model_letter 18 = .ok (.if_icmp .ne 35, 3) := by decide +kernel
theorem d_Model_letter_21 : decode b_Model_letter 21 = .ok (.iconst 0, 1) := by decide +kernel
theorem d_Model_letter_22 : decode b_Model_letter 22 = .ok (.istore_n 2, 1) := by decide +kernel
theorem d_Model_letter_23 : decode b_Model_letter 23 = .ok (.iconst 0, 1) := by decide +kernel
theorem d_Model_letter_24 : decode b_Model_letter 24 = .ok (.istore_n 3, 1) := by decide +kernel
theorem d_Model_letter_25 : decode b_Model_letter 25 = .ok (.iload_n 3, 1) := by decide +kernel
theorem d_Model_letter_26 : decode b_Model_letter 26 = .ok (.aload_n 0, 1) := by decide +kernel
theorem d_Model_letter_27 : decode b_Model_letter 27 = .ok (.getfield 232, 3) := by decide +kernel
theorem d_Model_letter_30 : decode b_Model_letter 30 = .ok (.if_icmp .ge 21, 3) := by decide +kernel
theorem d_Model_letter_33 : decode b_Model_letter 33 = .ok (.bipush 31, 2) := by decide +kernel
theorem d_Model_letter_35 : decode b_Model_letter 35 = .ok (.iload_n 2, 1) := by decide +kernel
theorem d_Model_letter_36 : decode b_Model_letter 36 = .ok (.imul, 1) := by decide +kernel
theorem d_Model_letter_37 : decode b_Model_letter 37 = .ok (.aload_n 0, 1) := by decide +kernel
theorem d_Model_letter_38 : decode b_Model_letter 38 = .ok (.getfield 90, 3) := by decide +kernel
theorem d_Model_letter_41 : decode b_Model_letter 41 = .ok (.iload_n 3, 1) := by decide +kernel
theorem d_Model_letter_42 : decode b_Model_letter 42 = .ok (.iaload, 1) := by decide +kernel
theorem d_Model_letter_43 : decode b_Model_letter 43 = .ok (.iadd, 1) := by decide +kernel
theorem d_Model_letter_44 : decode b_Model_letter 44 = .ok (.istore_n 2, 1) := by decide +kernel
theorem d_Model_letter_45 : decode b_Model_letter 45 = .ok (.iinc 3 1, 3) := by decide +kernel
theorem d_Model_letter_48 : decode b_Model_letter 48 = .ok (.goto (-23), 3) := by decide +kernel
theorem d_Model_letter_51 : decode b_Model_letter 51 = .ok (.iload_n 2, 1) := by decide +kernel
theorem d_Model_letter_52 : decode b_Model_letter 52 = .ok (.ireturn, 1) := by decide +kernel
theorem d_Model_letter_53 : decode b_Model_letter 53 = .ok (.iload_n 1, 1) := by decide +kernel
theorem d_Model_letter_54 : decode b_Model_letter 54 = .ok (.ifCond .lt 11, 3) := by decide +kernel
theorem d_Model_letter_57 : decode b_Model_letter 57 = .ok (.iload_n 1, 1) := by decide +kernel
theorem d_Model_letter_58 : decode b_Model_letter 58 = .ok (.aload_n 0, 1) := by decide +kernel
theorem d_Model_letter_59 : decode b_Model_letter 59 = .ok (.getfield 232, 3) := by decide +kernel
theorem d_Model_letter_62 : decode b_Model_letter 62 = .ok (.if_icmp .lt 7, 3) := by decide +kernel
theorem d_Model_letter_65 : decode b_Model_letter 65 = .ok (.iconst (-1), 1) := by decide +kernel
theorem d_Model_letter_66 : decode b_Model_letter 66 = .ok (.goto 9, 3) := by decide +kernel
theorem d_Model_letter_69 : decode b_Model_letter 69 = .ok (.aload_n 0, 1) := by decide +kernel
theorem d_Model_letter_70 : decode b_Model_letter 70 = .ok (.getfield 90, 3) := by decide +kernel
theorem d_Model_letter_73 : decode b_Model_letter 73 = .ok (.iload_n 1, 1) := by decide +kernel
theorem d_Model_letter_74 : decode b_Model_letter 74 = .ok (.iaload, 1) := by decide +kernel
theorem d_Model_letter_75 : decode b_Model_letter 75 = .ok (.ireturn, 1) := by decide +kernel
theorem d_Model_begin_0 : decode b_Model_begin 0 = .ok (.iconst 0, 1) := by decide +kernel
theorem d_Model_begin_1 : decode b_Model_begin 1 = .ok (.istore_n 2, 1) := by decide +kernel
theorem d_Model_begin_2 : decode b_Model_begin 2 = .ok (.iload_n 2, 1) := by decide +kernel
theorem d_Model_begin_3 : decode b_Model_begin 3 = .ok (.aload_n 0, 1) := by decide +kernel
theorem d_Model_begin_4 : decode b_Model_begin 4 = .ok (.getfield 232, 3) := by decide +kernel
theorem d_Model_begin_7 : decode b_Model_begin 7 = .ok (.if_icmp .ge 74, 3) := by decide +kernel
theorem d_Model_begin_10 : decode b_Model_begin 10 = .ok (.iconst 0, 1) := by decide +kernel
theorem d_Model_begin_11 : decode b_Model_begin 11 = .ok (.istore_n 3, 1) := by decide +kernel
theorem d_Model_begin_12 : decode b_Model_begin 12 = .ok (.iconst 0, 1) := by decide +kernel
theorem d_Model_begin_13 : decode b_Model_begin 13 = .ok (.istore 4, 2) := by decide +kernel
theorem d_Model_begin_15 : decode b_Model_begin 15 = .ok (.iload 4, 2) := by decide +kernel
theorem d_Model_begin_17 : decode b_Model_begin 17 = .ok (.aload_n 0, 1) := by decide +kernel
theorem d_Model_begin_18 : decode b_Model_begin 18 = .ok (.getfield 232, 3) := by decide +kernel
theorem d_Model_begin_21 : decode b_Model_begin 21 = .ok (.if_icmp .ge 47, 3) := by decide +kernel
theorem d_Model_begin_24 : decode b_Model_begin 24 = .ok (.iload_n 3, 1) := by decide +kernel
theorem d_Model_begin_25 : decode b_Model_begin 25 = .ok (.aload_n 0, 1) := by decide +kernel
theorem d_Model_begin_26 : decode b_Model_begin 26 = .ok (.getfield 90, 3) := by decide +kernel
theorem d_Model_begin_29 : decode b_Model_begin 29 = .ok (.iload 4, 2) := by decide +kernel
theorem d_Model_begin_31 : decode b_Model_begin 31 = .ok (.aload_n 0, 1) := by decide +kernel
theorem d_Model_begin_32 : decode b_Model_begin 32 = .ok (.getfield 232, 3) := by decide +kernel
theorem d_Model_begin_35 : decode b_Model_begin 35 = .ok (.iload 4, 2) := by decide +kernel
theorem d_Model_begin_37 : decode b_Model_begin 37 = .ok (.isub, 1) := by decide +kernel
theorem d_Model_begin_38 : decode b_Model_begin 38 = .ok (.aload_n 0, 1) := by decide +kernel
theorem d_Model_begin_39 : decode b_Model_begin 39 = .ok (.getfield 90, 3) := by decide +kernel
theorem d_Model_begin_42 : decode b_Model_begin 42 = .ok (.iload_n 2, 1) := by decide +kernel
theorem d_Model_begin_43 : decode b_Model_begin 43 = .ok (.aload_n 0, 1) := by decide +kernel
theorem d_Model_begin_44 : decode b_Model_begin 44 = .ok (.getfield 232, 3) := by decide +kernel
theorem d_Model_begin_47 : decode b_Model_begin 47 = .ok (.iload_n 2, 1) := by decide +kernel
theorem d_Model_begin_48 : decode b_Model_begin 48 = .ok (.isub, 1) := by decide +kernel
theorem d_Model_begin_49 : decode b_Model_begin 49 = .ok (.invokestatic 106, 3) := by decide +kernel
theorem d_Model_begin_52 : decode b_Model_begin 52 = .ok (.ifCond .ge 7, 3) := by decide +kernel
theorem d_Model_begin_55 : decode b_Model_begin 55 = .ok (.iconst 1, 1) := by decide +kernel
theorem d_Model_begin_56 : decode b_Model_begin 56 = .ok (.goto 4, 3) := by decide +kernel
theorem d_Model_begin_59 : decode b_Model_begin 59 = .ok (.iconst 0, 1) := by decide +kernel
theorem d_Model_begin_60 : decode b_Model_begin 60 = .ok (.iadd, 1) := by decide +kernel
theorem d_Model_begin_61 : decode b_Model_begin 61 = .ok (.istore_n 3, 1) := by decide +kernel
theorem d_Model_begin_62 : decode b_Model_begin 62 = .ok (.iinc 4 1, 3) := by decide +kernel
theorem d_Model_begin_65 : decode b_Model_begin 65 = .ok (.goto (-50), 3) := by decide +kernel
theorem d_Model_begin_68 : decode b_Model_begin 68 = .ok (.iload_n 3, 1) := by decide +kernel
theorem d_Model_begin_69 : decode b_Model_begin 69 = .ok (.iload_n 1, 1) := by decide +kernel
theorem d_Model_begin_70 : decode b_Model_begin 70 = .ok (.if_icmp .ne 5, 3) := by decide +kernel
theorem d_Model_begin_73 : decode b_Model_begin 73 = .ok (.iload_n 2, 1) := by decide +kernel
theorem d_Model_begin_74 : decode b_Model_begin 74 = .ok (.ireturn, 1) := by decide +kernel
theorem d_Model_begin_75 : decode b_Model_begin 75 = .ok (.iinc 2 1, 3) := by decide +kernel
theorem d_Model_begin_78 : decode b_Model_begin 78 = .ok (.goto (-76), 3) := by decide +kernel
theorem d_Model_begin_81 : decode b_Model_begin 81 = .ok (.iconst (-1), 1) := by decide +kernel
theorem d_Model_begin_82 : decode b_Model_begin 82 = .ok (.ireturn, 1) := by decide +kernel
theorem d_Model_suffix_0 : decode b_Model_suffix 0 = .ok (.aload_n 0, 1) := by decide +kernel
theorem d_Model_suffix_1 : decode b_Model_suffix 1 = .ok (.iconst 0, 1) := by decide +kernel
theorem d_Model_suffix_2 : decode b_Model_suffix 2 = .ok (.putfield 99, 3) := by decide +kernel
theorem d_Model_suffix_5 : decode b_Model_suffix 5 = .ok (.iload_n 1, 1) := by decide +kernel
theorem d_Model_suffix_6 : decode b_Model_suffix 6 = .ok (.ifCond .lt 20, 3) := by decide +kernel
theorem d_Model_suffix_9 : decode b_Model_suffix 9 = .ok (.iload_n 1, 1) := by decide +kernel
theorem d_Model_suffix_10 : decode b_Model_suffix 10 = .ok (.aload_n 0, 1) := by decide +kernel
theorem d_Model_suffix_11 : decode b_Model_suffix 11 = .ok (.getfield 232, 3) := by decide +kernel
theorem d_Model_suffix_14 : decode b_Model_suffix 14 = .ok (.if_icmp .ge 12, 3) := by decide +kernel
theorem d_Model_suffix_17 : decode b_Model_suffix 17 = .ok (.iload_n 2, 1) := by decide +kernel
theorem d_Model_suffix_18 : decode b_Model_suffix 18 = .ok (.ifCond .lt 8, 3) := by decide +kernel
theorem d_Model_suffix_21 : decode b_Model_suffix 21 = .ok (.iload_n 2, 1) := by decide +kernel
theorem d_Model_suffix_22 : decode b_Model_suffix 22 = .ok (.iconst 1, 1) := by decide +kernel
theorem d_Model_suffix_23 : decode b_Model_suffix 23 = .ok (.if_icmp .le 5, 3) := by decide +kernel
theorem d_Model_suffix_26 : decode b_Model_suffix 26 = .ok (.iconst (-1), 1) := by decide +kernel
theorem d_Model_suffix_27 : decode b_Model_suffix 27 = .ok (.ireturn, 1) := by decide +kernel
theorem d_Model_suffix_28 : decode b_Model_suffix 28 = .ok (.aload_n 0, 1) := by decide +kernel
theorem d_Model_suffix_29 : decode b_Model_suffix 29 = .ok (.iload_n 1, 1) := by decide +kernel
theorem d_Model_suffix_30 : decode b_Model_suffix 30 = .ok (.invokevirtual 240, 3) := by decide +kernel
theorem d_Model_suffix_33 : decode b_Model_suffix 33 = .ok (.istore_n 3, 1) := by decide +kernel
theorem d_Model_suffix_34 : decode b_Model_suffix 34 = .ok (.iload_n 2, 1) := by decide +kernel
theorem d_Model_suffix_35 : decode b_Model_suffix 35 = .ok (.ifCond .ne 5, 3) := by decide +kernel
theorem d_Model_suffix_38 : decode b_Model_suffix 38 = .ok (.iload_n 3, 1) := by decide +kernel
theorem d_Model_suffix_39 : decode b_Model_suffix 39 = .ok (.ireturn, 1) := by decide +kernel
theorem d_Model_suffix_40 : decode b_Model_suffix 40 = .ok (.iload_n 1, 1) := by decide +kernel
theorem d_Model_suffix_41 : decode b_Model_suffix 41 = .ok (.ifCond .ne 5, 3) := by decide +kernel
theorem d_Model_suffix_44 : decode b_Model_suffix 44 = .ok (.iconst 0, 1) := by decide +kernel
theorem d_Model_suffix_45 : decode b_Model_suffix 45 = .ok (.ireturn, 1) := by decide +kernel
theorem d_Model_suffix_46 : decode b_Model_suffix 46 = .ok (.aload_n 0, 1) := by decide +kernel
theorem d_Model_suffix_47 : decode b_Model_suffix 47 = .ok (.iload_n 1, 1) := by decide +kernel
theorem d_Model_suffix_48 : decode b_Model_suffix 48 = .ok (.iconst 1, 1) := by decide +kernel
theorem d_Model_suffix_49 : decode b_Model_suffix 49 = .ok (.isub, 1) := by decide +kernel
theorem d_Model_suffix_50 : decode b_Model_suffix 50 = .ok (.invokevirtual 240, 3) := by decide +kernel
theorem d_Model_suffix_53 : decode b_Model_suffix 53 = .ok (.istore 4, 2) := by decide +kernel
theorem d_Model_suffix_55 : decode b_Model_suffix 55 = .ok (.iconst 0, 1) := by decide +kernel
theorem d_Model_suffix_56 : decode b_Model_suffix 56 = .ok (.istore 5, 2) := by decide +kernel
theorem d_Model_suffix_58 : decode b_Model_suffix 58 = .ok (.iload_n 3, 1) := by decide +kernel
theorem d_Model_suffix_59 : decode b_Model_suffix 59 = .ok (.iload 5, 2) := by decide +kernel
theorem d_Model_suffix_61 : decode b_Model_suffix 61 = .ok (.iadd, 1) := by decide +kernel
theorem d_Model_suffix_62 : decode b_Model_suffix 62 = .ok (.aload_n 0, 1) := by decide +kernel
theorem d_Model_suffix_63 : decode b_Model_suffix 63 = .ok (.getfield 232, 3) := by decide +kernel
theorem d_Model_suffix_66 : decode b_Model_suffix 66 = .ok (.if_icmp .ge 43, 3) := by decide +kernel
theorem d_Model_suffix_69 : decode b_Model_suffix 69 = .ok (.iload 4, 2) := by decide +kernel
theorem d_Model_suffix_71 : decode b_Model_suffix 71 = .ok (.iload 5, 2) := by decide +kernel
theorem d_Model_suffix_73 : decode b_Model_suffix 73 = .ok (.iadd, 1) := by decide +kernel
theorem d_Model_suffix_74 : decode b_Model_suffix 74 = .ok (.aload_n 0, 1) := by decide +kernel
theorem d_Model_suffix_75 : decode b_Model_suffix 75 = .ok (.getfield 232, 3) := by decide +kernel
theorem d_Model_suffix_78 : decode b_Model_suffix 78 = .ok (.if_icmp .ge 31, 3) := by decide +kernel
theorem d_Model_suffix_81 : decode b_Model_suffix 81 = .ok (.aload_n 0, 1) := by decide +kernel
theorem d_Model_suffix_82 : decode b_Model_suffix 82 = .ok (.getfield 90, 3) := by decide +kernel
theorem d_Model_suffix_85 : decode b_Model_suffix 85 = .ok (.iload_n 3, 1) := by decide +kernel
theorem d_Model_suffix_86 : decode b_Model_suffix 86 = .ok (.iload 5, 2) := by decide +kernel
theorem d_Model_suffix_88 : decode b_Model_suffix 88 = .ok (.iadd, 1) := by decide +kernel
theorem d_Model_suffix_89 : decode b_Model_suffix 89 = .ok (.iaload, 1) := by decide +kernel
theorem d_Model_suffix_90 : decode b_Model_suffix 90 = .ok (.aload_n 0, 1) := by decide +kernel
theorem d_Model_suffix_91 : decode b_Model_suffix 91 = .ok (.getfield 90, 3) := by decide +kernel
theorem d_Model_suffix_94 : decode b_Model_suffix 94 = .ok (.iload 4, 2) := by decide +kernel
theorem d_Model_suffix_96 : decode b_Model_suffix 96 = .ok (.iload 5, 2) := by decide +kernel
theorem d_Model_suffix_98 : decode b_Model_suffix 98 = .ok (.iadd, 1) := by decide +kernel
theorem d_Model_suffix_99 : decode b_Model_suffix 99 = .ok (.iaload, 1) := by decide +kernel
theorem d_Model_suffix_100 : decode b_Model_suffix 100 = .ok (.if_icmp .ne 9, 3) := by decide +kernel
theorem d_Model_suffix_103 : decode b_Model_suffix 103 = .ok (.iinc 5 1, 3) := by decide +kernel
theorem d_Model_suffix_106 : decode b_Model_suffix 106 = .ok (.goto (-48), 3) := by decide +kernel
theorem d_Model_suffix_109 : decode b_Model_suffix 109 = .ok (.iload 5, 2) := by decide +kernel
theorem d_Model_suffix_111 : decode b_Model_suffix 111 = .ok (.ireturn, 1) := by decide +kernel
theorem d_Model_locate_0 : decode b_Model_locate 0 = .ok (.aload_n 0, 1) := by decide +kernel
theorem d_Model_locate_1 : decode b_Model_locate 1 = .ok (.iconst 0, 1) := by decide +kernel
theorem d_Model_locate_2 : decode b_Model_locate 2 = .ok (.putfield 99, 3) := by decide +kernel
theorem d_Model_locate_5 : decode b_Model_locate 5 = .ok (.iload_n 1, 1) := by decide +kernel
theorem d_Model_locate_6 : decode b_Model_locate 6 = .ok (.ifCond .eq 10, 3) := by decide +kernel
theorem d_Model_locate_9 : decode b_Model_locate 9 = .ok (.iload_n 1, 1) := by decide +kernel
theorem d_Model_locate_10 : decode b_Model_locate 10 = .ok (.iconst 1, 1) := by decide +kernel
theorem d_Model_locate_11 : decode b_Model_locate 11 = .ok (.if_icmp .eq 5, 3) := by decide +kernel
theorem d_Model_locate_14 : decode b_Model_locate 14 = .ok (.iconst (-1), 1) := by decide +kernel
theorem d_Model_locate_15 : decode b_Model_locate 15 = .ok (.ireturn, 1) := by decide +kernel
theorem d_Model_locate_16 : decode b_Model_locate 16 = .ok (.aload_n 0, 1) := by decide +kernel
theorem d_Model_locate_17 : decode b_Model_locate 17 = .ok (.getfield 102, 3) := by decide +kernel
theorem d_Model_locate_20 : decode b_Model_locate 20 = .ok (.istore_n 2, 1) := by decide +kernel
theorem d_Model_locate_21 : decode b_Model_locate 21 = .ok (.aload_n 0, 1) := by decide +kernel
theorem d_Model_locate_22 : decode b_Model_locate 22 = .ok (.iconst 0, 1) := by decide +kernel
theorem d_Model_locate_23 : decode b_Model_locate 23 = .ok (.putfield 102, 3) := by decide +kernel
theorem d_Model_locate_26 : decode b_Model_locate 26 = .ok (.iconst 0, 1) := by decide +kernel
theorem d_Model_locate_27 : decode b_Model_locate 27 = .ok (.istore_n 3, 1) := by decide +kernel
theorem d_Model_locate_28 : decode b_Model_locate 28 = .ok (.iconst 0, 1) := by decide +kernel
theorem d_Model_locate_29 : decode b_Model_locate 29 = .ok (.istore 4, 2) := by decide +kernel
theorem d_Model_locate_31 : decode b_Model_locate 31 = .ok (.iload 4, 2) := by decide +kernel
theorem d_Model_locate_33 : decode b_Model_locate 33 = .ok (.aload_n 0, 1) := by decide +kernel
theorem d_Model_locate_34 : decode b_Model_locate 34 = .ok (.getfield 232, 3) := by decide +kernel
theorem d_Model_locate_37 : decode b_Model_locate 37 = .ok (.if_icmp .ge 42, 3) := by decide +kernel
theorem d_Model_locate_40 : decode b_Model_locate 40 = .ok (.iload_n 3, 1) := by decide +kernel
theorem d_Model_locate_41 : decode b_Model_locate 41 = .ok (.aload_n 0, 1) := by decide +kernel
theorem d_Model_locate_42 : decode b_Model_locate 42 = .ok (.getfield 90, 3) := by decide +kernel
theorem d_Model_locate_45 : decode b_Model_locate 45 = .ok (.iload 4, 2) := by decide +kernel
theorem d_Model_locate_47 : decode b_Model_locate 47 = .ok (.aload_n 0, 1) := by decide +kernel
theorem d_Model_locate_48 : decode b_Model_locate 48 = .ok (.getfield 232, 3) := by decide +kernel
theorem d_Model_locate_51 : decode b_Model_locate 51 = .ok (.iload 4, 2) := by decide +kernel
theorem d_Model_locate_53 : decode b_Model_locate 53 = .ok (.isub, 1) := by decide +kernel
theorem d_Model_locate_54 : decode b_Model_locate 54 = .ok (.aload_n 0, 1) := by decide +kernel
theorem d_Model_locate_55 : decode b_Model_locate 55 = .ok (.getfield 7, 3) := by decide +kernel
theorem d_Model_locate_58 : decode b_Model_locate 58 = .ok (.iconst 0, 1) := by decide +kernel
theorem d_Model_locate_59 : decode b_Model_locate 59 = .ok (.iload_n 2, 1) := by decide +kernel
theorem d_Model_locate_60 : decode b_Model_locate 60 = .ok (.invokestatic 110, 3) := by decide +kernel
theorem d_Model_locate_63 : decode b_Model_locate 63 = .ok (.ifCond .eq 7, 3) := by decide +kernel
theorem d_Model_locate_66 : decode b_Model_locate 66 = .ok (.iconst 1, 1) := by decide +kernel
theorem d_Model_locate_67 : decode b_Model_locate 67 = .ok (.goto 4, 3) := by decide +kernel
theorem d_Model_locate_70 : decode b_Model_locate 70 = .ok (.iconst 0, 1) := by decide +kernel
theorem d_Model_locate_71 : decode b_Model_locate 71 = .ok (.iadd, 1) := by decide +kernel
theorem d_Model_locate_72 : decode b_Model_locate 72 = .ok (.istore_n 3, 1) := by decide +kernel
theorem d_Model_locate_73 : decode b_Model_locate 73 = .ok (.iinc 4 1, 3) := by decide +kernel
theorem d_Model_locate_76 : decode b_Model_locate 76 = .ok (.goto (-45), 3) := by decide +kernel
theorem d_Model_locate_79 : decode b_Model_locate 79 = .ok (.iload_n 1, 1) := by decide +kernel
theorem d_Model_locate_80 : decode b_Model_locate 80 = .ok (.ifCond .ne 5, 3) := by decide +kernel
theorem d_Model_locate_83 : decode b_Model_locate 83 = .ok (.iload_n 3, 1) := by decide +kernel
theorem d_Model_locate_84 : decode b_Model_locate 84 = .ok (.ireturn, 1) := by decide +kernel
theorem d_Model_locate_85 : decode b_Model_locate 85 = .ok (.iconst 0, 1) := by decide +kernel
theorem d_Model_locate_86 : decode b_Model_locate 86 = .ok (.istore 4, 2) := by decide +kernel
theorem d_Model_locate_88 : decode b_Model_locate 88 = .ok (.iload 4, 2) := by decide +kernel
theorem d_Model_locate_90 : decode b_Model_locate 90 = .ok (.aload_n 0, 1) := by decide +kernel
theorem d_Model_locate_91 : decode b_Model_locate 91 = .ok (.getfield 232, 3) := by decide +kernel
theorem d_Model_locate_94 : decode b_Model_locate 94 = .ok (.if_icmp .ge 49, 3) := by decide +kernel
theorem d_Model_locate_97 : decode b_Model_locate 97 = .ok (.iload_n 3, 1) := by decide +kernel
theorem d_Model_locate_98 : decode b_Model_locate 98 = .ok (.ifCond .le 45, 3) := by decide +kernel
theorem d_Model_locate_101 : decode b_Model_locate 101 = .ok (.aload_n 0, 1) := by decide +kernel
theorem d_Model_locate_102 : decode b_Model_locate 102 = .ok (.getfield 90, 3) := by decide +kernel
theorem d_Model_locate_105 : decode b_Model_locate 105 = .ok (.aload_n 0, 1) := by decide +kernel
theorem d_Model_locate_106 : decode b_Model_locate 106 = .ok (.iload 4, 2) := by decide +kernel
theorem d_Model_locate_108 : decode b_Model_locate 108 = .ok (.invokevirtual 240, 3) := by decide +kernel
theorem d_Model_locate_111 : decode b_Model_locate 111 = .ok (.aload_n 0, 1) := by decide +kernel
theorem d_Model_locate_112 : decode b_Model_locate 112 = .ok (.getfield 232, 3) := by decide +kernel
theorem d_Model_locate_115 : decode b_Model_locate 115 = .ok (.aload_n 0, 1) := by decide +kernel
theorem d_Model_locate_116 : decode b_Model_locate 116 = .ok (.iload 4, 2) := by decide +kernel
theorem d_Model_locate_118 : decode b_Model_locate 118 = .ok (.invokevirtual 240, 3) := by decide +kernel
theorem d_Model_locate_121 : decode b_Model_locate 121 = .ok (.isub, 1) := by decide +kernel
theorem d_Model_locate_122 : decode b_Model_locate 122 = .ok (.aload_n 0, 1) := by decide +kernel
theorem d_Model_locate_123 : decode b_Model_locate 123 = .ok (.getfield 7, 3) := by decide +kernel
theorem d_Model_locate_126 : decode b_Model_locate 126 = .ok (.iconst 0, 1) := by decide +kernel
theorem d_Model_locate_127 : decode b_Model_locate 127 = .ok (.iload_n 2, 1) := by decide +kernel
theorem d_Model_locate_128 : decode b_Model_locate 128 = .ok (.invokestatic 110, 3) := by decide +kernel
theorem d_Model_locate_131 : decode b_Model_locate 131 = .ok (.ifCond .eq 6, 3) := by decide +kernel
theorem d_Model_locate_134 : decode b_Model_locate 134 = .ok (.iload 4, 2) := by decide +kernel
theorem d_Model_locate_136 : decode b_Model_locate 136 = .ok (.ireturn, 1) := by decide +kernel
theorem d_Model_locate_137 : decode b_Model_locate 137 = .ok (.iinc 4 1, 3) := by decide +kernel
theorem d_Model_locate_140 : decode b_Model_locate 140 = .ok (.goto (-52), 3) := by decide +kernel
theorem d_Model_locate_143 : decode b_Model_locate 143 = .ok (.iconst (-1), 1) := by decide +kernel
theorem d_Model_locate_144 : decode b_Model_locate 144 = .ok (.ireturn, 1) := by decide +kernel
