theorem dX12_lots_46 : decode cX12_lots 46 = .ok (.istore 7, 2) := by decide +kernel
theorem dX12_lots_48 : decode cX12_lots 48 = .ok (.iconst 0, 1) := by decide +kernel
theorem dX12_lots_49 : decode cX12_lots 49 = .ok (.istore 8, 2) := by decide +kernel
theorem dX12_lots_51 : decode cX12_lots 51 = .ok (.iload 8, 2) := by decide +kernel
theorem dX12_lots_53 : decode cX12_lots 53 = .ok (.iload_n 1, 1) := by decide +kernel
theorem dX12_lots_54 : decode cX12_lots 54 = .ok (.if_icmp .ge 134, 3) := by decide +kernel
theorem dX12_lots_57 : decode cX12_lots 57 = .ok (.aload_n 0, 1) := by decide +kernel
theorem dX12_lots_58 : decode cX12_lots 58 = .ok (.invokevirtual 223, 3) := by decide +kernel
theorem dX12_lots_61 : decode cX12_lots 61 = .ok (.iload 6, 2) := by decide +kernel
theorem dX12_lots_63 : decode cX12_lots 63 = .ok (.aload_n 0, 1) := by decide +kernel
theorem dX12_lots_64 : decode cX12_lots 64 = .ok (.getfield 31, 3) := by decide +kernel
theorem dX12_lots_67 : decode cX12_lots 67 = .ok (.iconst 1, 1) := by decide +kernel
theorem dX12_lots_68 : decode cX12_lots 68 = .ok (.iaload, 1) := by decide +kernel
theorem dX12_lots_69 : decode cX12_lots 69 = .ok (.isub, 1) := by decide +kernel
theorem dX12_lots_70 : decode cX12_lots 70 = .ok (.istore 6, 2) := by decide +kernel
theorem dX12_lots_72 : decode cX12_lots 72 = .ok (.iload 7, 2) := by decide +kernel
theorem dX12_lots_74 : decode cX12_lots 74 = .ok (.aload_n 0, 1) := by decide +kernel
theorem dX12_lots_75 : decode cX12_lots 75 = .ok (.getfield 31, 3) := by decide +kernel
theorem dX12_lots_78 : decode cX12_lots 78 = .ok (.iconst 0, 1) := by decide +kernel
theorem dX12_lots_79 : decode cX12_lots 79 = .ok (.iaload, 1) := by decide +kernel
theorem dX12_lots_80 : decode cX12_lots 80 = .ok (.isub, 1) := by decide +kernel
theorem dX12_lots_81 : decode cX12_lots 81 = .ok (.istore 7, 2) := by decide +kernel
theorem dX12_lots_83 : decode cX12_lots 83 = .ok (.iconst 0, 1) := by decide +kernel
theorem dX12_lots_84 : decode cX12_lots 84 = .ok (.istore 9, 2) := by decide +kernel
theorem dX12_lots_86 : decode cX12_lots 86 = .ok (.iload 9, 2) := by decide +kernel
theorem dX12_lots_88 : decode cX12_lots 88 = .ok (.bipush 7, 2) := by decide +kernel
theorem dX12_lots_90 : decode cX12_lots 90 = .ok (.if_icmp .ge 66, 3) := by decide +kernel
theorem dX12_lots_93 : decode cX12_lots 93 = .ok (.iconst 0, 1) := by decide +kernel
theorem dX12_lots_94 : decode cX12_lots 94 = .ok (.istore 10, 2) := by decide +kernel
theorem dX12_lots_96 : decode cX12_lots 96 = .ok (.iload 10, 2) := by decide +kernel
theorem dX12_lots_98 : decode cX12_lots 98 = .ok (.aload_n 0, 1) := by decide +kernel
theorem dX12_lots_99 : decode cX12_lots 99 = .ok (.getfield 59, 3) := by decide +kernel
theorem dX12_lots_102 : decode cX12_lots 102 = .ok (.if_icmp .ge 43, 3) := by decide +kernel
theorem dX12_lots_105 : decode cX12_lots 105 = .ok (.iload 5, 2) := by decide +kernel
theorem dX12_lots_107 : decode cX12_lots 107 = .ok (.ldc_w 312, 3) := by decide +kernel
theorem dX12_lots_110 : decode cX12_lots 110 = .ok (.imul, 1) := by decide +kernel
theorem dX12_lots_111 : decode cX12_lots 111 = .ok (.sipush 12345, 3) := by decide +kernel
theorem dX12_lots_114 : decode cX12_lots 114 = .ok (.iadd, 1) := by decide +kernel
theorem dX12_lots_115 : decode cX12_lots 115 = .ok (.istore 5, 2) := by decide +kernel
theorem dX12_lots_117 : decode cX12_lots 117 = .ok (.iload 5, 2) := by decide +kernel
theorem dX12_lots_119 : decode cX12_lots 119 = .ok (.ldc_w 313, 3) := by decide +kernel
theorem dX12_lots_122 : decode cX12_lots 122 = .ok (.iand, 1) := by decide +kernel
theorem dX12_lots_123 : decode cX12_lots 123 = .ok (.ldc_w 314, 3) := by decide +kernel
theorem dX12_lots_126 : decode cX12_lots 126 = .ok (.idiv, 1) := by decide +kernel
theorem dX12_lots_127 : decode cX12_lots 127 = .ok (.iconst 2, 1) := by decide +kernel
theorem dX12_lots_128 : decode cX12_lots 128 = .ok (.irem, 1) := by decide +kernel
theorem dX12_lots_129 : decode cX12_lots 129 = .ok (.iconst 1, 1) := by decide +kernel
theorem dX12_lots_130 : decode cX12_lots 130 = .ok (.if_icmp .ne 9, 3) := by decide +kernel
theorem dX12_lots_133 : decode cX12_lots 133 = .ok (.aload_n 0, 1) := by decide +kernel
theorem dX12_lots_134 : decode cX12_lots 134 = .ok (.iload 10, 2) := by decide +kernel
theorem dX12_lots_136 : decode cX12_lots 136 = .ok (.invokevirtual 179, 3) := by decide +kernel
theorem dX12_lots_139 : decode cX12_lots 139 = .ok (.iinc 10 1, 3) := by decide +kernel
theorem dX12_lots_142 : decode cX12_lots 142 = .ok (.goto (-46), 3) := by decide +kernel
theorem dX12_lots_145 : decode cX12_lots 145 = .ok (.aload_n 0, 1) := by decide +kernel
theorem dX12_lots_146 : decode cX12_lots 146 = .ok (.invokevirtual 124, 3) := by decide +kernel
theorem dX12_lots_149 : decode cX12_lots 149 = .ok (.pop, 1) := by decide +kernel
theorem dX12_lots_150 : decode cX12_lots 150 = .ok (.iinc 9 1, 3) := by decide +kernel
theorem dX12_lots_153 : decode cX12_lots 153 = .ok (.goto (-67), 3) := by decide +kernel
theorem dX12_lots_156 : decode cX12_lots 156 = .ok (.iload 6, 2) := by decide +kernel
theorem dX12_lots_158 : decode cX12_lots 158 = .ok (.aload_n 0, 1) := by decide +kernel
theorem dX12_lots_159 : decode cX12_lots 159 = .ok (.getfield 31, 3) := by decide +kernel
theorem dX12_lots_162 : decode cX12_lots 162 = .ok (.iconst 1, 1) := by decide +kernel
theorem dX12_lots_163 : decode cX12_lots 163 = .ok (.iaload, 1) := by decide +kernel
theorem dX12_lots_164 : decode cX12_lots 164 = .ok (.iadd, 1) := by decide +kernel
theorem dX12_lots_165 : decode cX12_lots 165 = .ok (.istore 6, 2) := by decide +kernel
theorem dX12_lots_167 : decode cX12_lots 167 = .ok (.iload 7, 2) := by decide +kernel
theorem dX12_lots_169 : decode cX12_lots 169 = .ok (.aload_n 0, 1) := by decide +kernel
theorem dX12_lots_170 : decode cX12_lots 170 = .ok (.getfield 31, 3) := by decide +kernel
theorem dX12_lots_173 : decode cX12_lots 173 = .ok (.iconst 0, 1) := by decide +kernel
theorem dX12_lots_174 : decode cX12_lots 174 = .ok (.iaload, 1) := by decide +kernel
theorem dX12_lots_175 : decode cX12_lots 175 = .ok (.iadd, 1) := by decide +kernel
theorem dX12_lots_176 : decode cX12_lots 176 = .ok (.istore 7, 2) := by decide +kernel
theorem dX12_lots_178 : decode cX12_lots 178 = .ok (.aload_n 0, 1) := by decide +kernel
theorem dX12_lots_179 : decode cX12_lots 179 = .ok (.invokevirtual 226, 3) := by decide +kernel
theorem dX12_lots_182 : decode cX12_lots 182 = .ok (.iinc 8 1, 3) := by decide +kernel
theorem dX12_lots_185 : decode cX12_lots 185 = .ok (.goto (-134), 3) := by decide +kernel
theorem dX12_lots_188 : decode cX12_lots 188 = .ok (.iload_n 3, 1) := by decide +kernel
theorem dX12_lots_189 : decode cX12_lots 189 = .ok (.ifCond .ne 8, 3) := by decide +kernel
theorem dX12_lots_192 : decode cX12_lots 192 = .ok (.iload 6, 2) := by decide +kernel
theorem dX12_lots_194 : decode cX12_lots 194 = .ok (.goto 5, 3) := by decide +kernel
theorem dX12_lots_197 : decode cX12_lots 197 = .ok (.iload 7, 2) := by decide +kernel
theorem dX12_lots_199 : decode cX12_lots 199 = .ok (.ireturn, 1) := by decide +kernel
set_option maxRecDepth 20000 in
theorem ggX12_count_X12_isIn : GoodIn wsX12_count wsX12_isIn := goodIn_r _ [14] (by decide +kernel) (by decide +kernel)
set_option maxRecDepth 20000 in
theorem gX12_count_X12_isIn : GoodIn wsX12_count (va_wsS RX12 90 yX12_isIn wsX12_isIn) := goodIn_app (goodIn_of _ (by decide +kernel)) ggX12_count_X12_isIn
set_option maxRecDepth 20000 in
theorem ggX12_count_X12_wants : GoodIn wsX12_count wsX12_wants := goodIn_r _ [18, 2, 19, 23, 24, 25, 26, 27, 28, 29, 30, 31, 32, 33, 34, 35, 36, 37, 38, 39, 40, 41, 42, 43, 44, 45, 46, 47, 48, 49, 50, 51] (by decide +kernel) (by decide +kernel)
set_option maxRecDepth 20000 in
theorem gX12_count_X12_wants : GoodIn wsX12_count (wsV RX12 205 RX12 yX12_wants wsX12_wants) := goodIn_app (goodIn_of _ (by decide +kernel)) ggX12_count_X12_wants
set_option maxRecDepth 20000 in
theorem ggX12_count_X12_bits : GoodIn wsX12_count wsX12_bits := goodIn_r _ [22] (by decide +kernel) (by decide +kernel)
set_option maxRecDepth 20000 in
theorem gX12_count_X12_bits : GoodIn wsX12_count (va_wsS RX12 214 yX12_bits wsX12_bits) := goodIn_app (goodIn_of _ (by decide +kernel)) ggX12_count_X12_bits
theorem dX12_count_0 : decode cX12_count 0 = .ok (.iload_n 1, 1) := by decide +kernel
theorem dX12_count_1 : decode cX12_count 1 = .ok (.bipush 11, 2) := by decide +kernel
theorem dX12_count_3 : decode cX12_count 3 = .ok (.bipush 16, 2) := by decide +kernel
theorem dX12_count_5 : decode cX12_count 5 = .ok (.invokestatic 90, 3) := by decide +kernel
theorem dX12_count_8 : decode cX12_count 8 = .ok (.ifCond .eq 13, 3) := by decide +kernel
theorem dX12_count_11 : decode cX12_count 11 = .ok (.aload_n 0, 1) := by decide +kernel
theorem dX12_count_12 : decode cX12_count 12 = .ok (.getfield 7, 3) := by decide +kernel
theorem dX12_count_15 : decode cX12_count 15 = .ok (.iload_n 1, 1) := by decide +kernel
theorem dX12_count_16 : decode cX12_count 16 = .ok (.bipush 10, 2) := by decide +kernel
theorem dX12_count_18 : decode cX12_count 18 = .ok (.isub, 1) := by decide +kernel
theorem dX12_count_19 : decode cX12_count 19 = .ok (.iaload, 1) := by decide +kernel
theorem dX12_count_20 : decode cX12_count 20 = .ok (.ireturn, 1) := by decide +kernel
theorem dX12_count_21 : decode cX12_count 21 = .ok (.iconst 0, 1) := by decide +kernel
theorem dX12_count_22 : decode cX12_count 22 = .ok (.istore_n 2, 1) := by decide +kernel
theorem dX12_count_23 : decode cX12_count 23 = .ok (.iload_n 1, 1) := by decide +kernel
theorem dX12_count_24 : decode cX12_count 24 = .ok (.tableswitch 177 0 17 #[88, 93, 98, 103, 108, 108, 108, 117, 144, 162, 167, 177, 177, 177, 177, 177, 177, 172], 88) := by decide +kernel
theorem dX12_count_112 : decode cX12_count 112 = .ok (.aload_n 0, 1) := by decide +kernel
theorem dX12_count_113 : decode cX12_count 113 = .ok (.getfield 59, 3) := by decide +kernel
theorem dX12_count_116 : decode cX12_count 116 = .ok (.ireturn, 1) := by decide +kernel
theorem dX12_count_117 : decode cX12_count 117 = .ok (.aload_n 0, 1) := by decide +kernel
theorem dX12_count_118 : decode cX12_count 118 = .ok (.getfield 110, 3) := by decide +kernel
theorem dX12_count_121 : decode cX12_count 121 = .ok (.ireturn, 1) := by decide +kernel
theorem dX12_count_122 : decode cX12_count 122 = .ok (.aload_n 0, 1) := by decide +kernel
theorem dX12_count_123 : decode cX12_count 123 = .ok (.getfield 121, 3) := by decide +kernel
theorem dX12_count_126 : decode cX12_count 126 = .ok (.ireturn, 1) := by decide +kernel
theorem dX12_count_127 : decode cX12_count 127 = .ok (.aload_n 0, 1) := by decide +kernel
theorem dX12_count_128 : decode cX12_count 128 = .ok (.getfield 133, 3) := by decide +kernel
theorem dX12_count_131 : decode cX12_count 131 = .ok (.ireturn, 1) := by decide +kernel
theorem dX12_count_132 : decode cX12_count 132 = .ok (.aload_n 0, 1) := by decide +kernel
theorem dX12_count_133 : decode cX12_count 133 = .ok (.getfield 31, 3) := by decide +kernel
theorem dX12_count_136 : decode cX12_count 136 = .ok (.iload_n 1, 1) := by decide +kernel
theorem dX12_count_137 : decode cX12_count 137 = .ok (.iconst 4, 1) := by decide +kernel
theorem dX12_count_138 : decode cX12_count 138 = .ok (.isub, 1) := by decide +kernel
theorem dX12_count_139 : decode cX12_count 139 = .ok (.iaload, 1) := by decide +kernel
theorem dX12_count_140 : decode cX12_count 140 = .ok (.ireturn, 1) := by decide +kernel
theorem dX12_count_141 : decode cX12_count 141 = .ok (.iconst 0, 1) := by decide +kernel
theorem dX12_count_142 : decode cX12_count 142 = .ok (.istore_n 3, 1) := by decide +kernel
theorem dX12_count_143 : decode cX12_count 143 = .ok (.iload_n 3, 1) := by decide +kernel
theorem dX12_count_144 : decode cX12_count 144 = .ok (.aload_n 0, 1) := by decide +kernel
theorem dX12_count_145 : decode cX12_count 145 = .ok (.getfield 59, 3) := by decide +kernel
theorem dX12_count_148 : decode cX12_count 148 = .ok (.if_icmp .ge 18, 3) := by decide +kernel
theorem dX12_count_151 : decode cX12_count 151 = .ok (.iload_n 2, 1) := by decide +kernel
theorem dX12_count_152 : decode cX12_count 152 = .ok (.aload_n 0, 1) := by decide +kernel
theorem dX12_count_153 : decode cX12_count 153 = .ok (.getfield 22, 3) := by decide +kernel
theorem dX12_count_156 : decode cX12_count 156 = .ok (.iload_n 3, 1) := by decide +kernel
theorem dX12_count_157 : decode cX12_count 157 = .ok (.iaload, 1) := by decide +kernel
theorem dX12_count_158 : decode cX12_count 158 = .ok (.iadd, 1) := by decide +kernel
theorem dX12_count_159 : decode cX12_count 159 = .ok (.istore_n 2, 1) := by decide +kernel
theorem dX12_count_160 : decode cX12_count 160 = .ok (.iinc 3 1, 3) := by decide +kernel
theorem dX12_count_163 : decode cX12_count 163 = .ok (.goto (-20), 3) := by decide +kernel
theorem dX12_count_166 : decode cX12_count 166 = .ok (.iload_n 2, 1) := by decide +kernel
theorem dX12_count_167 : decode cX12_count 167 = .ok (.ireturn, 1) := by decide +kernel
theorem dX12_count_168 : decode cX12_count 168 = .ok (.aload_n 0, 1) := by decide +kernel
theorem dX12_count_169 : decode cX12_count 169 = .ok (.iconst 0, 1) := by decide +kernel
theorem dX12_count_170 : decode cX12_count 170 = .ok (.invokevirtual 205, 3) := by decide +kernel
theorem dX12_count_173 : decode cX12_count 173 = .ok (.invokestatic 214, 3) := by decide +kernel
theorem dX12_count_176 : decode cX12_count 176 = .ok (.aload_n 0, 1) := by decide +kernel
theorem dX12_count_177 : decode cX12_count 177 = .ok (.iconst 1, 1) := by decide +kernel
theorem dX12_count_178 : decode cX12_count 178 = .ok (.invokevirtual 205, 3) := by decide +kernel
theorem dX12_count_181 : decode cX12_count 181 = .ok (.invokestatic 214, 3) := by decide +kernel
theorem dX12_count_184 : decode cX12_count 184 = .ok (.iadd, 1) := by decide +kernel
theorem dX12_count_185 : decode cX12_count 185 = .ok (.ireturn, 1) := by decide +kernel
theorem dX12_count_186 : decode cX12_count 186 = .ok (.aload_n 0, 1) := by decide +kernel
theorem dX12_count_187 : decode cX12_count 187 = .ok (.getfield 76, 3) := by decide +kernel
theorem dX12_count_190 : decode cX12_count 190 = .ok (.ireturn, 1) := by decide +kernel
theorem dX12_count_191 : decode cX12_count 191 = .ok (.aload_n 0, 1) := by decide +kernel
theorem dX12_count_192 : decode cX12_count 192 = .ok (.getfield 285, 3) := by decide +kernel
theorem dX12_count_195 : decode cX12_count 195 = .ok (.ireturn, 1) := by decide +kernel
theorem dX12_count_196 : decode cX12_count 196 = .ok (.aload_n 0, 1) := by decide +kernel
theorem dX12_count_197 : decode cX12_count 197 = .ok (.getfield 153, 3) := by decide +kernel
theorem dX12_count_200 : decode cX12_count 200 = .ok (.ireturn, 1) := by decide +kernel
theorem dX12_count_201 : decode cX12_count 201 = .ok (.bipush (-9), 2) := by decide +kernel
theorem dX12_count_203 : decode cX12_count 203 = .ok (.ireturn, 1) := by decide +kernel
theorem dJ6_bitCount_0f7a4_0 : decode cJ6_bitCount_0f7a4 0 = .ok (.iload_n 0, 1) := by decide +kernel
theorem dJ6_bitCount_0f7a4_1 : decode cJ6_bitCount_0f7a4 1 = .ok (.iload_n 0, 1) := by decide +kernel
theorem dJ6_bitCount_0f7a4_2 : decode cJ6_bitCount_0f7a4 2 = .ok (.iconst 1, 1) := by decide +kernel
theorem dJ6_bitCount_0f7a4_3 : decode cJ6_bitCount_0f7a4 3 = .ok (.iushr, 1) := by decide +kernel
theorem dJ6_bitCount_0f7a4_4 : decode cJ6_bitCount_0f7a4 4 = .ok (.ldc_w 265, 3) := by decide +kernel
theorem dJ6_bitCount_0f7a4_7 : decode cJ6_bitCount_0f7a4 7 = .ok (.iand, 1) := by decide +kernel
theorem dJ6_bitCount_0f7a4_8 : decode cJ6_bitCount_0f7a4 8 = .ok (.isub, 1) := by decide +kernel
theorem dJ6_bitCount_0f7a4_9 : decode cJ6_bitCount_0f7a4 9 = .ok (.istore_n 0, 1) := by decide +kernel
theorem dJ6_bitCount_0f7a4_10 : decode cJ6_bitCount_0f7a4 10 = .ok (.iload_n 0, 1) := by decide +kernel
theorem dJ6_bitCount_0f7a4_11 : decode cJ6_bitCount_0f7a4 11 = .ok (.ldc_w 266, 3) := by decide +kernel
theorem dJ6_bitCount_0f7a4_14 : decode cJ6_bitCount_0f7a4 14 = .ok (.iand, 1) := by decide +kernel
theorem dJ6_bitCount_0f7a4_15 : decode cJ6_bitCount_0f7a4 15 = .ok (.iload_n 0, 1) := by decide +kernel
theorem dJ6_bitCount_0f7a4_16 : decode cJ6_bitCount_0f7a4 16 = .ok (.iconst 2, 1) := by decide +kernel
theorem dJ6_bitCount_0f7a4_17 : decode cJ6_bitCount_0f7a4 17 = .ok (.iushr, 1) := by decide +kernel
theorem dJ6_bitCount_0f7a4_18 : decode cJ6_bitCount_0f7a4 18 = .ok (.ldc_w 266, 3) := by decide +kernel
theorem dJ6_bitCount_0f7a4_21 : decode cJ6_bitCount_0f7a4 21 = .ok (.iand, 1) := by decide +kernel
theorem dJ6_bitCount_0f7a4_22 : decode cJ6_bitCount_0f7a4 22 = .ok (.iadd, 1) := by decide +kernel
theorem dJ6_bitCount_0f7a4_23 : decode cJ6_bitCount_0f7a4 23 = .ok (.istore_n 0, 1) := by decide +kernel
theorem dJ6_bitCount_0f7a4_24 : decode cJ6_bitCount_0f7a4 24 = .ok (.iload_n 0, 1) := by decide +kernel
theorem dJ6_bitCount_0f7a4_25 : decode cJ6_bitCount_0f7a4 25 = .ok (.iload_n 0, 1) := by decide +kernel
theorem dJ6_bitCount_0f7a4_26 : decode cJ6_bitCount_0f7a4 26 = .ok (.iconst 4, 1) := by decide +kernel
theorem dJ6_bitCount_0f7a4_27 : decode cJ6_bitCount_0f7a4 27 = .ok (.iushr, 1) := by decide +kernel
theorem dJ6_bitCount_0f7a4_28 : decode cJ6_bitCount_0f7a4 28 = .ok (.iadd, 1) := by decide +kernel
theorem dJ6_bitCount_0f7a4_29 : decode cJ6_bitCount_0f7a4 29 = .ok (.ldc_w 267, 3) := by decide +kernel
theorem dJ6_bitCount_0f7a4_32 : decode cJ6_bitCount_0f7a4 32 = .ok (.iand, 1) := by decide +kernel
theorem dJ6_bitCount_0f7a4_33 : decode cJ6_bitCount_0f7a4 33 = .ok (.istore_n 0, 1) := by decide +kernel
theorem dJ6_bitCount_0f7a4_34 : decode cJ6_bitCount_0f7a4 34 = .ok (.iload_n 0, 1) := by decide +kernel
theorem dJ6_bitCount_0f7a4_35 : decode cJ6_bitCount_0f7a4 35 = .ok (.iload_n 0, 1) := by decide +kernel
theorem dJ6_bitCount_0f7a4_36 : decode cJ6_bitCount_0f7a4 36 = .ok (.bipush 8, 2) := by decide +kernel
theorem dJ6_bitCount_0f7a4_38 : decode cJ6_bitCount_0f7a4 38 = .ok (.iushr, 1) := by decide +kernel
theorem dJ6_bitCount_0f7a4_39 : decode cJ6_bitCount_0f7a4 39 = .ok (.iadd, 1) := by decide +kernel
theorem dJ6_bitCount_0f7a4_40 : decode cJ6_bitCount_0f7a4 40 = .ok (.istore_n 0, 1) := by decide +kernel
theorem dJ6_bitCount_0f7a4_41 : decode cJ6_bitCount_0f7a4 41 = .ok (.iload_n 0, 1) := by decide +kernel
theorem dJ6_bitCount_0f7a4_42 : decode cJ6_bitCount_0f7a4 42 = .ok (.iload_n 0, 1) := by decide +kernel
theorem dJ6_bitCount_0f7a4_43 : decode cJ6_bitCount_0f7a4 43 = .ok (.bipush 16, 2) := by decide +kernel
theorem dJ6_bitCount_0f7a4_45 : decode cJ6_bitCount_0f7a4 45 = .ok (.iushr, 1) := by decide +kernel
theorem dJ6_bitCount_0f7a4_46 : decode cJ6_bitCount_0f7a4 46 = .ok (.iadd, 1) := by decide +kernel
theorem dJ6_bitCount_0f7a4_47 : decode cJ6_bitCount_0f7a4 47 = .ok (.istore_n 0, 1) := by decide +kernel
theorem dJ6_bitCount_0f7a4_48 : decode cJ6_bitCount_0f7a4 48 = .ok (.iload_n 0, 1) := by decide +kernel
theorem dJ6_bitCount_0f7a4_49 : decode cJ6_bitCount_0f7a4 49 = .ok (.bipush 63, 2) := by decide +kernel
theorem dJ6_bitCount_0f7a4_51 : decode cJ6_bitCount_0f7a4 51 = .ok (.iand, 1) := by decide +kernel
theorem dJ6_bitCount_0f7a4_52 : decode cJ6_bitCount_0f7a4 52 = .ok (.ireturn, 1) := by decide +kernel
theorem dJ9_abs_0f7a4_0 : decode cJ9_abs_0f7a4 0 = .ok (.iload_n 0, 1) := by decide +kernel
theorem dJ9_abs_0f7a4_1 : decode cJ9_abs_0f7a4 1 = .ok (.ifCond .ge 8, 3) := by decide +kernel
theorem dJ9_abs_0f7a4_4 : decode cJ9_abs_0f7a4 4 = .ok (.iload_n 0, 1) := by decide +kernel
theorem dJ9_abs_0f7a4_5 : decode cJ9_abs_0f7a4 5 = .ok (.ineg, 1) := by decide +kernel
theorem dJ9_abs_0f7a4_6 : decode cJ9_abs_0f7a4 6 = .ok (.goto 4, 3) := by decide +kernel
theorem dJ9_abs_0f7a4_9 : decode cJ9_abs_0f7a4 9 = .ok (.iload_n 0, 1) := by decide +kernel
theorem dJ9_abs_0f7a4_10 : decode cJ9_abs_0f7a4 10 = .ok (.ireturn, 1) := by decide +kernel
theorem dJ9_max_7cf53_0 : decode cJ9_max_7cf53 0 = .ok (.iload_n 0, 1) := by decide +kernel
theorem dJ9_max_7cf53_1 : decode cJ9_max_7cf53 1 = .ok (.iload_n 1, 1) := by decide +kernel
theorem dJ9_max_7cf53_2 : decode cJ9_max_7cf53 2 = .ok (.if_icmp .lt 7, 3) := by decide +kernel
theorem dJ9_max_7cf53_5 : decode cJ9_max_7cf53 5 = .ok (.iload_n 0, 1) := by decide +kernel
theorem dJ9_max_7cf53_6 : decode cJ9_max_7cf53 6 = .ok (.goto 4, 3) := by decide +kernel
theorem dJ9_max_7cf53_9 : decode cJ9_max_7cf53 9 = .ok (.iload_n 1, 1) := by decide +kernel
theorem dJ9_max_7cf53_10 : decode cJ9_max_7cf53 10 = .ok (.ireturn, 1) := by decide +kernel
theorem dJ9_min_7cf53_0 : decode cJ9_min_7cf53 0 = .ok (.iload_n 0, 1) := by decide +kernel
theorem dJ9_min_7cf53_1 : decode cJ9_min_7cf53 1 = .ok (.iload_n 1, 1) := by decide +kernel
theorem dJ9_min_7cf53_2 : decode cJ9_min_7cf53 2 = .ok (.if_icmp .gt 7, 3) := by decide +kernel
theorem dJ9_min_7cf53_5 : decode cJ9_min_7cf53 5 = .ok (.iload_n 0, 1) := by decide +kernel
theorem dJ9_min_7cf53_6 : decode cJ9_min_7cf53 6 = .ok (.goto 4, 3) := by decide +kernel
theorem dJ9_min_7cf53_9 : decode cJ9_min_7cf53 9 = .ok (.iload_n 1, 1) := by decide +kernel
theorem dJ9_min_7cf53_10 : decode cJ9_min_7cf53 10 = .ok (.ireturn, 1) := by decide +kernel
abbrev vwCl : List vw_C := [(RX0, TX0, 12), (RX1, TX1, 0), (RX2, TX2, 0), (RX3, TX3, 3), (RX4, TX4, 6), (RX5, TX5, 0), (RX6, TX6, 0), (RX7, TX7, 2), (RX8, TX8, 5), (RX9, TX9, 0), (RX10, TX10, 0), (RX11, TX11, 10), (RX12, TX12, 29)]
