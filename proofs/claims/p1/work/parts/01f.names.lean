theorem dX7_shapes_110 : decode cX7_shapes 110 = .ok (.iload_n 2, 1) := by decide +kernel
theorem dX7_shapes_111 : decode cX7_shapes 111 = .ok (.iaload, 1) := by decide +kernel
theorem dX7_shapes_112 : decode cX7_shapes 112 = .ok (.iastore, 1) := by decide +kernel
theorem dX7_shapes_113 : decode cX7_shapes 113 = .ok (.aload_n 0, 1) := by decide +kernel
theorem dX7_shapes_114 : decode cX7_shapes 114 = .ok (.getfield 29, 3) := by decide +kernel
theorem dX7_shapes_117 : decode cX7_shapes 117 = .ok (.iload_n 2, 1) := by decide +kernel
theorem dX7_shapes_118 : decode cX7_shapes 118 = .ok (.aload_n 0, 1) := by decide +kernel
theorem dX7_shapes_119 : decode cX7_shapes 119 = .ok (.getfield 68, 3) := by decide +kernel
theorem dX7_shapes_122 : decode cX7_shapes 122 = .ok (.iload_n 2, 1) := by decide +kernel
theorem dX7_shapes_123 : decode cX7_shapes 123 = .ok (.baload, 1) := by decide +kernel
theorem dX7_shapes_124 : decode cX7_shapes 124 = .ok (.bastore, 1) := by decide +kernel
theorem dX7_shapes_125 : decode cX7_shapes 125 = .ok (.aload_n 0, 1) := by decide +kernel
theorem dX7_shapes_126 : decode cX7_shapes 126 = .ok (.getfield 32, 3) := by decide +kernel
theorem dX7_shapes_129 : decode cX7_shapes 129 = .ok (.iload_n 2, 1) := by decide +kernel
theorem dX7_shapes_130 : decode cX7_shapes 130 = .ok (.aload_n 0, 1) := by decide +kernel
theorem dX7_shapes_131 : decode cX7_shapes 131 = .ok (.getfield 71, 3) := by decide +kernel
theorem dX7_shapes_134 : decode cX7_shapes 134 = .ok (.iload_n 2, 1) := by decide +kernel
theorem dX7_shapes_135 : decode cX7_shapes 135 = .ok (.iaload, 1) := by decide +kernel
theorem dX7_shapes_136 : decode cX7_shapes 136 = .ok (.iastore, 1) := by decide +kernel
theorem dX7_shapes_137 : decode cX7_shapes 137 = .ok (.aload_n 0, 1) := by decide +kernel
theorem dX7_shapes_138 : decode cX7_shapes 138 = .ok (.getfield 47, 3) := by decide +kernel
theorem dX7_shapes_141 : decode cX7_shapes 141 = .ok (.iload_n 2, 1) := by decide +kernel
theorem dX7_shapes_142 : decode cX7_shapes 142 = .ok (.aload_n 0, 1) := by decide +kernel
theorem dX7_shapes_143 : decode cX7_shapes 143 = .ok (.getfield 89, 3) := by decide +kernel
theorem dX7_shapes_146 : decode cX7_shapes 146 = .ok (.iload_n 2, 1) := by decide +kernel
theorem dX7_shapes_147 : decode cX7_shapes 147 = .ok (.iaload, 1) := by decide +kernel
theorem dX7_shapes_148 : decode cX7_shapes 148 = .ok (.iastore, 1) := by decide +kernel
theorem dX7_shapes_149 : decode cX7_shapes 149 = .ok (.iinc 2 1, 3) := by decide +kernel
theorem dX7_shapes_152 : decode cX7_shapes 152 = .ok (.goto (-59), 3) := by decide +kernel
theorem dX7_shapes_155 : decode cX7_shapes 155 = .ok (.iconst 0, 1) := by decide +kernel
theorem dX7_shapes_156 : decode cX7_shapes 156 = .ok (.istore_n 2, 1) := by decide +kernel
theorem dX7_shapes_157 : decode cX7_shapes 157 = .ok (.iload_n 2, 1) := by decide +kernel
theorem dX7_shapes_158 : decode cX7_shapes 158 = .ok (.bipush 36, 2) := by decide +kernel
theorem dX7_shapes_160 : decode cX7_shapes 160 = .ok (.if_icmp .ge 57, 3) := by decide +kernel
theorem dX7_shapes_163 : decode cX7_shapes 163 = .ok (.aload_n 0, 1) := by decide +kernel
theorem dX7_shapes_164 : decode cX7_shapes 164 = .ok (.getfield 35, 3) := by decide +kernel
theorem dX7_shapes_167 : decode cX7_shapes 167 = .ok (.iload_n 2, 1) := by decide +kernel
theorem dX7_shapes_168 : decode cX7_shapes 168 = .ok (.aload_n 0, 1) := by decide +kernel
theorem dX7_shapes_169 : decode cX7_shapes 169 = .ok (.getfield 74, 3) := by decide +kernel
theorem dX7_shapes_172 : decode cX7_shapes 172 = .ok (.iload_n 2, 1) := by decide +kernel
theorem dX7_shapes_173 : decode cX7_shapes 173 = .ok (.iaload, 1) := by decide +kernel
theorem dX7_shapes_174 : decode cX7_shapes 174 = .ok (.iastore, 1) := by decide +kernel
theorem dX7_shapes_175 : decode cX7_shapes 175 = .ok (.aload_n 0, 1) := by decide +kernel
theorem dX7_shapes_176 : decode cX7_shapes 176 = .ok (.getfield 38, 3) := by decide +kernel
theorem dX7_shapes_179 : decode cX7_shapes 179 = .ok (.iload_n 2, 1) := by decide +kernel
theorem dX7_shapes_180 : decode cX7_shapes 180 = .ok (.aload_n 0, 1) := by decide +kernel
theorem dX7_shapes_181 : decode cX7_shapes 181 = .ok (.getfield 77, 3) := by decide +kernel
theorem dX7_shapes_184 : decode cX7_shapes 184 = .ok (.iload_n 2, 1) := by decide +kernel
theorem dX7_shapes_185 : decode cX7_shapes 185 = .ok (.iaload, 1) := by decide +kernel
theorem dX7_shapes_186 : decode cX7_shapes 186 = .ok (.iastore, 1) := by decide +kernel
theorem dX7_shapes_187 : decode cX7_shapes 187 = .ok (.aload_n 0, 1) := by decide +kernel
theorem dX7_shapes_188 : decode cX7_shapes 188 = .ok (.getfield 41, 3) := by decide +kernel
theorem dX7_shapes_191 : decode cX7_shapes 191 = .ok (.iload_n 2, 1) := by decide +kernel
theorem dX7_shapes_192 : decode cX7_shapes 192 = .ok (.aload_n 0, 1) := by decide +kernel
theorem dX7_shapes_193 : decode cX7_shapes 193 = .ok (.getfield 80, 3) := by decide +kernel
theorem dX7_shapes_196 : decode cX7_shapes 196 = .ok (.iload_n 2, 1) := by decide +kernel
theorem dX7_shapes_197 : decode cX7_shapes 197 = .ok (.iaload, 1) := by decide +kernel
theorem dX7_shapes_198 : decode cX7_shapes 198 = .ok (.iastore, 1) := by decide +kernel
theorem dX7_shapes_199 : decode cX7_shapes 199 = .ok (.aload_n 0, 1) := by decide +kernel
theorem dX7_shapes_200 : decode cX7_shapes 200 = .ok (.getfield 44, 3) := by decide +kernel
theorem dX7_shapes_203 : decode cX7_shapes 203 = .ok (.iload_n 2, 1) := by decide +kernel
theorem dX7_shapes_204 : decode cX7_shapes 204 = .ok (.aload_n 0, 1) := by decide +kernel
theorem dX7_shapes_205 : decode cX7_shapes 205 = .ok (.getfield 83, 3) := by decide +kernel
theorem dX7_shapes_208 : decode cX7_shapes 208 = .ok (.iload_n 2, 1) := by decide +kernel
theorem dX7_shapes_209 : decode cX7_shapes 209 = .ok (.iaload, 1) := by decide +kernel
theorem dX7_shapes_210 : decode cX7_shapes 210 = .ok (.iastore, 1) := by decide +kernel
theorem dX7_shapes_211 : decode cX7_shapes 211 = .ok (.iinc 2 1, 3) := by decide +kernel
theorem dX7_shapes_214 : decode cX7_shapes 214 = .ok (.goto (-57), 3) := by decide +kernel
theorem dX7_shapes_217 : decode cX7_shapes 217 = .ok (.iconst 0, 1) := by decide +kernel
theorem dX7_shapes_218 : decode cX7_shapes 218 = .ok (.istore_n 2, 1) := by decide +kernel
theorem dX7_shapes_219 : decode cX7_shapes 219 = .ok (.iload_n 2, 1) := by decide +kernel
theorem dX7_shapes_220 : decode cX7_shapes 220 = .ok (.sipush 960, 3) := by decide +kernel
theorem dX7_shapes_223 : decode cX7_shapes 223 = .ok (.if_icmp .ge 69, 3) := by decide +kernel
theorem dX7_shapes_226 : decode cX7_shapes 226 = .ok (.aload_n 0, 1) := by decide +kernel
theorem dX7_shapes_227 : decode cX7_shapes 227 = .ok (.getfield 50, 3) := by decide +kernel
theorem dX7_shapes_230 : decode cX7_shapes 230 = .ok (.iload_n 2, 1) := by decide +kernel
theorem dX7_shapes_231 : decode cX7_shapes 231 = .ok (.aload_n 0, 1) := by decide +kernel
theorem dX7_shapes_232 : decode cX7_shapes 232 = .ok (.getfield 92, 3) := by decide +kernel
theorem dX7_shapes_235 : decode cX7_shapes 235 = .ok (.iload_n 2, 1) := by decide +kernel
theorem dX7_shapes_236 : decode cX7_shapes 236 = .ok (.iaload, 1) := by decide +kernel
theorem dX7_shapes_237 : decode cX7_shapes 237 = .ok (.iastore, 1) := by decide +kernel
theorem dX7_shapes_238 : decode cX7_shapes 238 = .ok (.aload_n 0, 1) := by decide +kernel
theorem dX7_shapes_239 : decode cX7_shapes 239 = .ok (.getfield 53, 3) := by decide +kernel
theorem dX7_shapes_242 : decode cX7_shapes 242 = .ok (.iload_n 2, 1) := by decide +kernel
theorem dX7_shapes_243 : decode cX7_shapes 243 = .ok (.aload_n 0, 1) := by decide +kernel
theorem dX7_shapes_244 : decode cX7_shapes 244 = .ok (.getfield 95, 3) := by decide +kernel
theorem dX7_shapes_247 : decode cX7_shapes 247 = .ok (.iload_n 2, 1) := by decide +kernel
theorem dX7_shapes_248 : decode cX7_shapes 248 = .ok (.iaload, 1) := by decide +kernel
theorem dX7_shapes_249 : decode cX7_shapes 249 = .ok (.iastore, 1) := by decide +kernel
theorem dX7_shapes_250 : decode cX7_shapes 250 = .ok (.aload_n 0, 1) := by decide +kernel
theorem dX7_shapes_251 : decode cX7_shapes 251 = .ok (.getfield 56, 3) := by decide +kernel
theorem dX7_shapes_254 : decode cX7_shapes 254 = .ok (.iload_n 2, 1) := by decide +kernel
theorem dX7_shapes_255 : decode cX7_shapes 255 = .ok (.aload_n 0, 1) := by decide +kernel
theorem dX7_shapes_256 : decode cX7_shapes 256 = .ok (.getfield 98, 3) := by decide +kernel
theorem dX7_shapes_259 : decode cX7_shapes 259 = .ok (.iload_n 2, 1) := by decide +kernel
theorem dX7_shapes_260 : decode cX7_shapes 260 = .ok (.iaload, 1) := by decide +kernel
theorem dX7_shapes_261 : decode cX7_shapes 261 = .ok (.iastore, 1) := by decide +kernel
theorem dX7_shapes_262 : decode cX7_shapes 262 = .ok (.aload_n 0, 1) := by decide +kernel
theorem dX7_shapes_263 : decode cX7_shapes 263 = .ok (.getfield 59, 3) := by decide +kernel
theorem dX7_shapes_266 : decode cX7_shapes 266 = .ok (.iload_n 2, 1) := by decide +kernel
theorem dX7_shapes_267 : decode cX7_shapes 267 = .ok (.aload_n 0, 1) := by decide +kernel
theorem dX7_shapes_268 : decode cX7_shapes 268 = .ok (.getfield 101, 3) := by decide +kernel
theorem dX7_shapes_271 : decode cX7_shapes 271 = .ok (.iload_n 2, 1) := by decide +kernel
theorem dX7_shapes_272 : decode cX7_shapes 272 = .ok (.iaload, 1) := by decide +kernel
theorem dX7_shapes_273 : decode cX7_shapes 273 = .ok (.iastore, 1) := by decide +kernel
theorem dX7_shapes_274 : decode cX7_shapes 274 = .ok (.aload_n 0, 1) := by decide +kernel
theorem dX7_shapes_275 : decode cX7_shapes 275 = .ok (.getfield 62, 3) := by decide +kernel
theorem dX7_shapes_278 : decode cX7_shapes 278 = .ok (.iload_n 2, 1) := by decide +kernel
theorem dX7_shapes_279 : decode cX7_shapes 279 = .ok (.aload_n 0, 1) := by decide +kernel
theorem dX7_shapes_280 : decode cX7_shapes 280 = .ok (.getfield 104, 3) := by decide +kernel
theorem dX7_shapes_283 : decode cX7_shapes 283 = .ok (.iload_n 2, 1) := by decide +kernel
theorem dX7_shapes_284 : decode cX7_shapes 284 = .ok (.iaload, 1) := by decide +kernel
theorem dX7_shapes_285 : decode cX7_shapes 285 = .ok (.iastore, 1) := by decide +kernel
theorem dX7_shapes_286 : decode cX7_shapes 286 = .ok (.iinc 2 1, 3) := by decide +kernel
theorem dX7_shapes_289 : decode cX7_shapes 289 = .ok (.goto (-70), 3) := by decide +kernel
theorem dX7_shapes_292 : decode cX7_shapes 292 = .ok (.aload_n 0, 1) := by decide +kernel
theorem dX7_shapes_293 : decode cX7_shapes 293 = .ok (.iconst 0, 1) := by decide +kernel
theorem dX7_shapes_294 : decode cX7_shapes 294 = .ok (.putfield 148, 3) := by decide +kernel
theorem dX7_shapes_297 : decode cX7_shapes 297 = .ok (.aload_n 0, 1) := by decide +kernel
theorem dX7_shapes_298 : decode cX7_shapes 298 = .ok (.getfield 258, 3) := by decide +kernel
theorem dX7_shapes_301 : decode cX7_shapes 301 = .ok (.ireturn, 1) := by decide +kernel
theorem dX7_fault_0 : decode cX7_fault 0 = .ok (.aload_n 0, 1) := by decide +kernel
theorem dX7_fault_1 : decode cX7_fault 1 = .ok (.getfield 177, 3) := by decide +kernel
theorem dX7_fault_4 : decode cX7_fault 4 = .ok (.ireturn, 1) := by decide +kernel
set_option maxRecDepth 20000 in
theorem ggX7_takes_X7_in : GoodIn wsX7_takes wsX7_in := goodIn_r _ [14] (by decide +kernel) (by decide +kernel)
set_option maxRecDepth 20000 in
theorem gX7_takes_X7_in : GoodIn wsX7_takes (va_wsS RX7 144 yX7_in wsX7_in) := goodIn_app (goodIn_of _ (by decide +kernel)) ggX7_takes_X7_in
theorem dX7_takes_0 : decode cX7_takes 0 = .ok (.aload_n 0, 1) := by decide +kernel
theorem dX7_takes_1 : decode cX7_takes 1 = .ok (.getfield 20, 3) := by decide +kernel
theorem dX7_takes_4 : decode cX7_takes 4 = .ok (.iconst 5, 1) := by decide +kernel
theorem dX7_takes_5 : decode cX7_takes 5 = .ok (.iload_n 2, 1) := by decide +kernel
theorem dX7_takes_6 : decode cX7_takes 6 = .ok (.imul, 1) := by decide +kernel
theorem dX7_takes_7 : decode cX7_takes 7 = .ok (.iload_n 3, 1) := by decide +kernel
theorem dX7_takes_8 : decode cX7_takes 8 = .ok (.iadd, 1) := by decide +kernel
theorem dX7_takes_9 : decode cX7_takes 9 = .ok (.iaload, 1) := by decide +kernel
theorem dX7_takes_10 : decode cX7_takes 10 = .ok (.aload_n 0, 1) := by decide +kernel
theorem dX7_takes_11 : decode cX7_takes 11 = .ok (.getfield 35, 3) := by decide +kernel
theorem dX7_takes_14 : decode cX7_takes 14 = .ok (.iload_n 1, 1) := by decide +kernel
theorem dX7_takes_15 : decode cX7_takes 15 = .ok (.iaload, 1) := by decide +kernel
theorem dX7_takes_16 : decode cX7_takes 16 = .ok (.if_icmp .eq 5, 3) := by decide +kernel
theorem dX7_takes_19 : decode cX7_takes 19 = .ok (.iconst 0, 1) := by decide +kernel
theorem dX7_takes_20 : decode cX7_takes 20 = .ok (.ireturn, 1) := by decide +kernel
theorem dX7_takes_21 : decode cX7_takes 21 = .ok (.aload_n 0, 1) := by decide +kernel
theorem dX7_takes_22 : decode cX7_takes 22 = .ok (.getfield 23, 3) := by decide +kernel
theorem dX7_takes_25 : decode cX7_takes 25 = .ok (.iconst 5, 1) := by decide +kernel
theorem dX7_takes_26 : decode cX7_takes 26 = .ok (.iload_n 2, 1) := by decide +kernel
theorem dX7_takes_27 : decode cX7_takes 27 = .ok (.imul, 1) := by decide +kernel
theorem dX7_takes_28 : decode cX7_takes 28 = .ok (.iload_n 3, 1) := by decide +kernel
theorem dX7_takes_29 : decode cX7_takes 29 = .ok (.iadd, 1) := by decide +kernel
theorem dX7_takes_30 : decode cX7_takes 30 = .ok (.iaload, 1) := by decide +kernel
theorem dX7_takes_31 : decode cX7_takes 31 = .ok (.istore 5, 2) := by decide +kernel
theorem dX7_takes_33 : decode cX7_takes 33 = .ok (.aload_n 0, 1) := by decide +kernel
theorem dX7_takes_34 : decode cX7_takes 34 = .ok (.getfield 38, 3) := by decide +kernel
theorem dX7_takes_37 : decode cX7_takes 37 = .ok (.iload_n 1, 1) := by decide +kernel
theorem dX7_takes_38 : decode cX7_takes 38 = .ok (.iaload, 1) := by decide +kernel
theorem dX7_takes_39 : decode cX7_takes 39 = .ok (.iconst 1, 1) := by decide +kernel
theorem dX7_takes_40 : decode cX7_takes 40 = .ok (.if_icmp .ne 46, 3) := by decide +kernel
theorem dX7_takes_43 : decode cX7_takes 43 = .ok (.iload 4, 2) := by decide +kernel
theorem dX7_takes_45 : decode cX7_takes 45 = .ok (.ifCond .eq 23, 3) := by decide +kernel
theorem dX7_takes_48 : decode cX7_takes 48 = .ok (.aload_n 0, 1) := by decide +kernel
theorem dX7_takes_49 : decode cX7_takes 49 = .ok (.getfield 122, 3) := by decide +kernel
theorem dX7_takes_52 : decode cX7_takes 52 = .ok (.bipush 10, 2) := by decide +kernel
theorem dX7_takes_54 : decode cX7_takes 54 = .ok (.aload_n 0, 1) := by decide +kernel
theorem dX7_takes_55 : decode cX7_takes 55 = .ok (.getfield 41, 3) := by decide +kernel
theorem dX7_takes_58 : decode cX7_takes 58 = .ok (.iload_n 1, 1) := by decide +kernel
theorem dX7_takes_59 : decode cX7_takes 59 = .ok (.iaload, 1) := by decide +kernel
theorem dX7_takes_60 : decode cX7_takes 60 = .ok (.imul, 1) := by decide +kernel
theorem dX7_takes_61 : decode cX7_takes 61 = .ok (.iload 5, 2) := by decide +kernel
theorem dX7_takes_63 : decode cX7_takes 63 = .ok (.iadd, 1) := by decide +kernel
theorem dX7_takes_64 : decode cX7_takes 64 = .ok (.baload, 1) := by decide +kernel
theorem dX7_takes_65 : decode cX7_takes 65 = .ok (.goto 20, 3) := by decide +kernel
theorem dX7_takes_68 : decode cX7_takes 68 = .ok (.aload_n 0, 1) := by decide +kernel
theorem dX7_takes_69 : decode cX7_takes 69 = .ok (.getfield 119, 3) := by decide +kernel
theorem dX7_takes_72 : decode cX7_takes 72 = .ok (.bipush 10, 2) := by decide +kernel
theorem dX7_takes_74 : decode cX7_takes 74 = .ok (.aload_n 0, 1) := by decide +kernel
theorem dX7_takes_75 : decode cX7_takes 75 = .ok (.getfield 41, 3) := by decide +kernel
theorem dX7_takes_78 : decode cX7_takes 78 = .ok (.iload_n 1, 1) := by decide +kernel
theorem dX7_takes_79 : decode cX7_takes 79 = .ok (.iaload, 1) := by decide +kernel
theorem dX7_takes_80 : decode cX7_takes 80 = .ok (.imul, 1) := by decide +kernel
theorem dX7_takes_81 : decode cX7_takes 81 = .ok (.iload 5, 2) := by decide +kernel
theorem dX7_takes_83 : decode cX7_takes 83 = .ok (.iadd, 1) := by decide +kernel
theorem dX7_takes_84 : decode cX7_takes 84 = .ok (.baload, 1) := by decide +kernel
theorem dX7_takes_85 : decode cX7_takes 85 = .ok (.ireturn, 1) := by decide +kernel
theorem dX7_takes_86 : decode cX7_takes 86 = .ok (.aload_n 0, 1) := by decide +kernel
theorem dX7_takes_87 : decode cX7_takes 87 = .ok (.getfield 38, 3) := by decide +kernel
theorem dX7_takes_90 : decode cX7_takes 90 = .ok (.iload_n 1, 1) := by decide +kernel
theorem dX7_takes_91 : decode cX7_takes 91 = .ok (.iaload, 1) := by decide +kernel
theorem dX7_takes_92 : decode cX7_takes 92 = .ok (.iconst 2, 1) := by decide +kernel
theorem dX7_takes_93 : decode cX7_takes 93 = .ok (.if_icmp .ne 29, 3) := by decide +kernel
theorem dX7_takes_96 : decode cX7_takes 96 = .ok (.aload_n 0, 1) := by decide +kernel
theorem dX7_takes_97 : decode cX7_takes 97 = .ok (.getfield 119, 3) := by decide +kernel
theorem dX7_takes_100 : decode cX7_takes 100 = .ok (.bipush 10, 2) := by decide +kernel
theorem dX7_takes_102 : decode cX7_takes 102 = .ok (.aload_n 0, 1) := by decide +kernel
theorem dX7_takes_103 : decode cX7_takes 103 = .ok (.getfield 41, 3) := by decide +kernel
theorem dX7_takes_106 : decode cX7_takes 106 = .ok (.iload_n 1, 1) := by decide +kernel
theorem dX7_takes_107 : decode cX7_takes 107 = .ok (.iaload, 1) := by decide +kernel
theorem dX7_takes_108 : decode cX7_takes 108 = .ok (.imul, 1) := by decide +kernel
theorem dX7_takes_109 : decode cX7_takes 109 = .ok (.iload 5, 2) := by decide +kernel
theorem dX7_takes_111 : decode cX7_takes 111 = .ok (.iadd, 1) := by decide +kernel
theorem dX7_takes_112 : decode cX7_takes 112 = .ok (.baload, 1) := by decide +kernel
theorem dX7_takes_113 : decode cX7_takes 113 = .ok (.ifCond .ne 7, 3) := by decide +kernel
theorem dX7_takes_116 : decode cX7_takes 116 = .ok (.iconst 1, 1) := by decide +kernel
theorem dX7_takes_117 : decode cX7_takes 117 = .ok (.goto 4, 3) := by decide +kernel
theorem dX7_takes_120 : decode cX7_takes 120 = .ok (.iconst 0, 1) := by decide +kernel
theorem dX7_takes_121 : decode cX7_takes 121 = .ok (.ireturn, 1) := by decide +kernel
theorem dX7_takes_122 : decode cX7_takes 122 = .ok (.aload_n 0, 1) := by decide +kernel
theorem dX7_takes_123 : decode cX7_takes 123 = .ok (.getfield 38, 3) := by decide +kernel
theorem dX7_takes_126 : decode cX7_takes 126 = .ok (.iload_n 1, 1) := by decide +kernel
theorem dX7_takes_127 : decode cX7_takes 127 = .ok (.iaload, 1) := by decide +kernel
theorem dX7_takes_128 : decode cX7_takes 128 = .ok (.ifCond .eq 41, 3) := by decide +kernel
theorem dX7_takes_131 : decode cX7_takes 131 = .ok (.aload_n 0, 1) := by decide +kernel
theorem dX7_takes_132 : decode cX7_takes 132 = .ok (.getfield 7, 3) := by decide +kernel
theorem dX7_takes_135 : decode cX7_takes 135 = .ok (.iload 5, 2) := by decide +kernel
theorem dX7_takes_137 : decode cX7_takes 137 = .ok (.baload, 1) := by decide +kernel
theorem dX7_takes_138 : decode cX7_takes 138 = .ok (.ifCond .eq 35, 3) := by decide +kernel
theorem dX7_takes_141 : decode cX7_takes 141 = .ok (.aload_n 0, 1) := by decide +kernel
theorem dX7_takes_142 : decode cX7_takes 142 = .ok (.getfield 13, 3) := by decide +kernel
theorem dX7_takes_145 : decode cX7_takes 145 = .ok (.iload 5, 2) := by decide +kernel
theorem dX7_takes_147 : decode cX7_takes 147 = .ok (.iaload, 1) := by decide +kernel
theorem dX7_takes_148 : decode cX7_takes 148 = .ok (.i2l, 1) := by decide +kernel
theorem dX7_takes_149 : decode cX7_takes 149 = .ok (.aload_n 0, 1) := by decide +kernel
theorem dX7_takes_150 : decode cX7_takes 150 = .ok (.getfield 41, 3) := by decide +kernel
theorem dX7_takes_153 : decode cX7_takes 153 = .ok (.iload_n 1, 1) := by decide +kernel
theorem dX7_takes_154 : decode cX7_takes 154 = .ok (.iaload, 1) := by decide +kernel
theorem dX7_takes_155 : decode cX7_takes 155 = .ok (.i2l, 1) := by decide +kernel
theorem dX7_takes_156 : decode cX7_takes 156 = .ok (.aload_n 0, 1) := by decide +kernel
theorem dX7_takes_157 : decode cX7_takes 157 = .ok (.getfield 44, 3) := by decide +kernel
theorem dX7_takes_160 : decode cX7_takes 160 = .ok (.iload_n 1, 1) := by decide +kernel
theorem dX7_takes_161 : decode cX7_takes 161 = .ok (.iaload, 1) := by decide +kernel
theorem dX7_takes_162 : decode cX7_takes 162 = .ok (.i2l, 1) := by decide +kernel
theorem dX7_takes_163 : decode cX7_takes 163 = .ok (.invokestatic 144, 3) := by decide +kernel
theorem dX7_takes_166 : decode cX7_takes 166 = .ok (.ifCond .eq 7, 3) := by decide +kernel
theorem dX7_takes_169 : decode cX7_takes 169 = .ok (.iconst 1, 1) := by decide +kernel
theorem dX7_takes_170 : decode cX7_takes 170 = .ok (.goto 4, 3) := by decide +kernel
theorem dX7_takes_173 : decode cX7_takes 173 = .ok (.iconst 0, 1) := by decide +kernel
theorem dX7_takes_174 : decode cX7_takes 174 = .ok (.ireturn, 1) := by decide +kernel
theorem dX7_joined_0 : decode cX7_joined 0 = .ok (.iconst 0, 1) := by decide +kernel
theorem dX7_joined_1 : decode cX7_joined 1 = .ok (.istore_n 2, 1) := by decide +kernel
theorem dX7_joined_2 : decode cX7_joined 2 = .ok (.iconst 0, 1) := by decide +kernel
theorem dX7_joined_3 : decode cX7_joined 3 = .ok (.istore_n 3, 1) := by decide +kernel
theorem dX7_joined_4 : decode cX7_joined 4 = .ok (.iload_n 3, 1) := by decide +kernel
theorem dX7_joined_5 : decode cX7_joined 5 = .ok (.bipush 32, 2) := by decide +kernel
theorem dX7_joined_7 : decode cX7_joined 7 = .ok (.if_icmp .ge 60, 3) := by decide +kernel
theorem dX7_joined_10 : decode cX7_joined 10 = .ok (.iload_n 0, 1) := by decide +kernel
theorem dX7_joined_11 : decode cX7_joined 11 = .ok (.iload_n 3, 1) := by decide +kernel
theorem dX7_joined_12 : decode cX7_joined 12 = .ok (.ishr, 1) := by decide +kernel
theorem dX7_joined_13 : decode cX7_joined 13 = .ok (.iconst 1, 1) := by decide +kernel
theorem dX7_joined_14 : decode cX7_joined 14 = .ok (.iand, 1) := by decide +kernel
theorem dX7_joined_15 : decode cX7_joined 15 = .ok (.iconst 1, 1) := by decide +kernel
theorem dX7_joined_16 : decode cX7_joined 16 = .ok (.if_icmp .ne 45, 3) := by decide +kernel
theorem dX7_joined_19 : decode cX7_joined 19 = .ok (.iconst 0, 1) := by decide +kernel
theorem dX7_joined_20 : decode cX7_joined 20 = .ok (.istore 4, 2) := by decide +kernel
theorem dX7_joined_22 : decode cX7_joined 22 = .ok (.iload 4, 2) := by decide +kernel
theorem dX7_joined_24 : decode cX7_joined 24 = .ok (.bipush 32, 2) := by decide +kernel
theorem dX7_joined_26 : decode cX7_joined 26 = .ok (.if_icmp .ge 35, 3) := by decide +kernel
theorem dX7_joined_29 : decode cX7_joined 29 = .ok (.iload_n 1, 1) := by decide +kernel
theorem dX7_joined_30 : decode cX7_joined 30 = .ok (.iload 4, 2) := by decide +kernel
theorem dX7_joined_32 : decode cX7_joined 32 = .ok (.ishr, 1) := by decide +kernel
theorem dX7_joined_33 : decode cX7_joined 33 = .ok (.iconst 1, 1) := by decide +kernel
theorem dX7_joined_34 : decode cX7_joined 34 = .ok (.iand, 1) := by decide +kernel
theorem dX7_joined_35 : decode cX7_joined 35 = .ok (.iconst 1, 1) := by decide +kernel
theorem dX7_joined_36 : decode cX7_joined 36 = .ok (.if_icmp .ne 19, 3) := by decide +kernel
theorem dX7_joined_39 : decode cX7_joined 39 = .ok (.iload_n 3, 1) := by decide +kernel
theorem dX7_joined_40 : decode cX7_joined 40 = .ok (.iload 4, 2) := by decide +kernel
theorem dX7_joined_42 : decode cX7_joined 42 = .ok (.iand, 1) := by decide +kernel
theorem dX7_joined_43 : decode cX7_joined 43 = .ok (.ifCond .ne 12, 3) := by decide +kernel
theorem dX7_joined_46 : decode cX7_joined 46 = .ok (.iload_n 2, 1) := by decide +kernel
theorem dX7_joined_47 : decode cX7_joined 47 = .ok (.iconst 1, 1) := by decide +kernel
theorem dX7_joined_48 : decode cX7_joined 48 = .ok (.iload_n 3, 1) := by decide +kernel
theorem dX7_joined_49 : decode cX7_joined 49 = .ok (.iload 4, 2) := by decide +kernel
theorem dX7_joined_51 : decode cX7_joined 51 = .ok (.ior, 1) := by decide +kernel
theorem dX7_joined_52 : decode cX7_joined 52 = .ok (.ishl, 1) := by decide +kernel
theorem dX7_joined_53 : decode cX7_joined 53 = .ok (.ior, 1) := by decide +kernel
theorem dX7_joined_54 : decode cX7_joined 54 = .ok (.istore_n 2, 1) := by decide +kernel
theorem dX7_joined_55 : decode cX7_joined 55 = .ok (.iinc 4 1, 3) := by decide +kernel
theorem dX7_joined_58 : decode cX7_joined 58 = .ok (.goto (-36), 3) := by decide +kernel
theorem dX7_joined_61 : decode cX7_joined 61 = .ok (.iinc 3 1, 3) := by decide +kernel
theorem dX7_joined_64 : decode cX7_joined 64 = .ok (.goto (-60), 3) := by decide +kernel
theorem dX7_joined_67 : decode cX7_joined 67 = .ok (.iload_n 2, 1) := by decide +kernel
theorem dX7_joined_68 : decode cX7_joined 68 = .ok (.ireturn, 1) := by decide +kernel
set_option maxRecDepth 20000 in
theorem ggX7_counted_X7_joined : GoodIn wsX7_counted wsX7_joined := goodIn_r _ [4] (by decide +kernel) (by decide +kernel)
set_option maxRecDepth 20000 in
theorem gX7_counted_X7_joined : GoodIn wsX7_counted (va_wsS RX7 274 yX7_joined wsX7_joined) := goodIn_app (goodIn_of _ (by decide +kernel)) ggX7_counted_X7_joined
theorem dX7_counted_0 : decode cX7_counted 0 = .ok (.iconst 1, 1) := by decide +kernel
theorem dX7_counted_1 : decode cX7_counted 1 = .ok (.istore 4, 2) := by decide +kernel
theorem dX7_counted_3 : decode cX7_counted 3 = .ok (.iload_n 2, 1) := by decide +kernel
theorem dX7_counted_4 : decode cX7_counted 4 = .ok (.ifCond .ne 7, 3) := by decide +kernel
theorem dX7_counted_7 : decode cX7_counted 7 = .ok (.iconst 1, 1) := by decide +kernel
theorem dX7_counted_8 : decode cX7_counted 8 = .ok (.goto 4, 3) := by decide +kernel
theorem dX7_counted_11 : decode cX7_counted 11 = .ok (.iconst 0, 1) := by decide +kernel
theorem dX7_counted_12 : decode cX7_counted 12 = .ok (.istore 5, 2) := by decide +kernel
theorem dX7_counted_14 : decode cX7_counted 14 = .ok (.iconst 1, 1) := by decide +kernel
theorem dX7_counted_15 : decode cX7_counted 15 = .ok (.istore 6, 2) := by decide +kernel
theorem dX7_counted_17 : decode cX7_counted 17 = .ok (.iload 6, 2) := by decide +kernel
theorem dX7_counted_19 : decode cX7_counted 19 = .ok (.iload_n 3, 1) := by decide +kernel
theorem dX7_counted_20 : decode cX7_counted 20 = .ok (.if_icmp .gt 34, 3) := by decide +kernel
theorem dX7_counted_23 : decode cX7_counted 23 = .ok (.iload 4, 2) := by decide +kernel
theorem dX7_counted_25 : decode cX7_counted 25 = .ok (.iload_n 1, 1) := by decide +kernel
theorem dX7_counted_26 : decode cX7_counted 26 = .ok (.invokestatic 274, 3) := by decide +kernel
theorem dX7_counted_29 : decode cX7_counted 29 = .ok (.istore 4, 2) := by decide +kernel
theorem dX7_counted_31 : decode cX7_counted 31 = .ok (.iload 5, 2) := by decide +kernel
theorem dX7_counted_33 : decode cX7_counted 33 = .ok (.iload 6, 2) := by decide +kernel
theorem dX7_counted_35 : decode cX7_counted 35 = .ok (.iload_n 2, 1) := by decide +kernel
theorem dX7_counted_36 : decode cX7_counted 36 = .ok (.if_icmp .lt 8, 3) := by decide +kernel
theorem dX7_counted_39 : decode cX7_counted 39 = .ok (.iload 4, 2) := by decide +kernel
theorem dX7_counted_41 : decode cX7_counted 41 = .ok (.goto 4, 3) := by decide +kernel
theorem dX7_counted_44 : decode cX7_counted 44 = .ok (.iconst 0, 1) := by decide +kernel
theorem dX7_counted_45 : decode cX7_counted 45 = .ok (.ior, 1) := by decide +kernel
theorem dX7_counted_46 : decode cX7_counted 46 = .ok (.istore 5, 2) := by decide +kernel
theorem dX7_counted_48 : decode cX7_counted 48 = .ok (.iinc 6 1, 3) := by decide +kernel
theorem dX7_counted_51 : decode cX7_counted 51 = .ok (.goto (-34), 3) := by decide +kernel
theorem dX7_counted_54 : decode cX7_counted 54 = .ok (.iload 5, 2) := by decide +kernel
theorem dX7_counted_56 : decode cX7_counted 56 = .ok (.ireturn, 1) := by decide +kernel
set_option maxRecDepth 20000 in
theorem ggX7_dealtTo_X7_takes : GoodIn wsX7_dealtTo wsX7_takes := goodIn_r _ [14, 15, 16, 17, 18, 19, 20, 21, 22, 23, 24, 25, 26, 13, 27, 35, 36, 37, 38, 39, 40, 41, 42, 43, 44, 45, 46, 47, 48, 49, 50, 51, 52, 53, 54, 55, 56, 57, 58, 59, 60, 61, 62, 63, 64, 65, 66, 67, 68, 69, 70, 71, 72, 73, 74, 75, 76, 77, 78, 79, 80, 81, 82, 83, 84, 85, 86, 87, 88, 89, 90, 91] (by decide +kernel) (by decide +kernel)
set_option maxRecDepth 20000 in
theorem gX7_dealtTo_X7_takes : GoodIn wsX7_dealtTo (wsV RX7 277 RX7 yX7_takes wsX7_takes) := goodIn_app (goodIn_of _ (by decide +kernel)) ggX7_dealtTo_X7_takes
set_option maxRecDepth 20000 in
theorem ggX7_dealtTo_X7_counted : GoodIn wsX7_dealtTo wsX7_counted := goodIn_r _ [31, 32, 33, 13, 34] (by decide +kernel) (by decide +kernel)
set_option maxRecDepth 20000 in
theorem gX7_dealtTo_X7_counted : GoodIn wsX7_dealtTo (wsV RX7 281 RX7 yX7_counted wsX7_counted) := goodIn_app (goodIn_of _ (by decide +kernel)) ggX7_dealtTo_X7_counted
set_option maxRecDepth 20000 in
theorem ggX7_dealtTo_X7_joined : GoodIn wsX7_dealtTo wsX7_joined := goodIn_r _ [34] (by decide +kernel) (by decide +kernel)
set_option maxRecDepth 20000 in
theorem gX7_dealtTo_X7_joined : GoodIn wsX7_dealtTo (va_wsS RX7 274 yX7_joined wsX7_joined) := goodIn_app (goodIn_of _ (by decide +kernel)) ggX7_dealtTo_X7_joined
theorem dX7_dealtTo_0 : decode cX7_dealtTo 0 = .ok (.sipush 160, 3) := by decide +kernel
theorem dX7_dealtTo_3 : decode cX7_dealtTo 3 = .ok (.iload_n 1, 1) := by decide +kernel
theorem dX7_dealtTo_4 : decode cX7_dealtTo 4 = .ok (.imul, 1) := by decide +kernel
theorem dX7_dealtTo_5 : decode cX7_dealtTo 5 = .ok (.istore 4, 2) := by decide +kernel
theorem dX7_dealtTo_7 : decode cX7_dealtTo 7 = .ok (.iconst 0, 1) := by decide +kernel
theorem dX7_dealtTo_8 : decode cX7_dealtTo 8 = .ok (.istore 5, 2) := by decide +kernel
theorem dX7_dealtTo_10 : decode cX7_dealtTo 10 = .ok (.iload 5, 2) := by decide +kernel
theorem dX7_dealtTo_12 : decode cX7_dealtTo 12 = .ok (.aload_n 0, 1) := by decide +kernel
theorem dX7_dealtTo_13 : decode cX7_dealtTo 13 = .ok (.getfield 47, 3) := by decide +kernel
theorem dX7_dealtTo_16 : decode cX7_dealtTo 16 = .ok (.iload_n 1, 1) := by decide +kernel
theorem dX7_dealtTo_17 : decode cX7_dealtTo 17 = .ok (.iaload, 1) := by decide +kernel
theorem dX7_dealtTo_18 : decode cX7_dealtTo 18 = .ok (.if_icmp .ge 35, 3) := by decide +kernel
theorem dX7_dealtTo_21 : decode cX7_dealtTo 21 = .ok (.aload_n 0, 1) := by decide +kernel
theorem dX7_dealtTo_22 : decode cX7_dealtTo 22 = .ok (.getfield 128, 3) := by decide +kernel
theorem dX7_dealtTo_25 : decode cX7_dealtTo 25 = .ok (.iload 5, 2) := by decide +kernel
theorem dX7_dealtTo_27 : decode cX7_dealtTo 27 = .ok (.aload_n 0, 1) := by decide +kernel
theorem dX7_dealtTo_28 : decode cX7_dealtTo 28 = .ok (.getfield 50, 3) := by decide +kernel
theorem dX7_dealtTo_31 : decode cX7_dealtTo 31 = .ok (.iload 4, 2) := by decide +kernel
theorem dX7_dealtTo_33 : decode cX7_dealtTo 33 = .ok (.iload 5, 2) := by decide +kernel
theorem dX7_dealtTo_35 : decode cX7_dealtTo 35 = .ok (.iadd, 1) := by decide +kernel
theorem dX7_dealtTo_36 : decode cX7_dealtTo 36 = .ok (.iaload, 1) := by decide +kernel
theorem dX7_dealtTo_37 : decode cX7_dealtTo 37 = .ok (.iconst 1, 1) := by decide +kernel
theorem dX7_dealtTo_38 : decode cX7_dealtTo 38 = .ok (.if_icmp .ne 7, 3) := by decide +kernel
theorem dX7_dealtTo_41 : decode cX7_dealtTo 41 = .ok (.iconst 1, 1) := by decide +kernel
theorem dX7_dealtTo_42 : decode cX7_dealtTo 42 = .ok (.goto 4, 3) := by decide +kernel
theorem dX7_dealtTo_45 : decode cX7_dealtTo 45 = .ok (.iconst 0, 1) := by decide +kernel
theorem dX7_dealtTo_46 : decode cX7_dealtTo 46 = .ok (.iastore, 1) := by decide +kernel
theorem dX7_dealtTo_47 : decode cX7_dealtTo 47 = .ok (.iinc 5 1, 3) := by decide +kernel
theorem dX7_dealtTo_50 : decode cX7_dealtTo 50 = .ok (.goto (-40), 3) := by decide +kernel
theorem dX7_dealtTo_53 : decode cX7_dealtTo 53 = .ok (.iconst 1, 1) := by decide +kernel
theorem dX7_dealtTo_54 : decode cX7_dealtTo 54 = .ok (.istore 5, 2) := by decide +kernel
theorem dX7_dealtTo_56 : decode cX7_dealtTo 56 = .ok (.aload_n 0, 1) := by decide +kernel
theorem dX7_dealtTo_57 : decode cX7_dealtTo 57 = .ok (.getfield 47, 3) := by decide +kernel
theorem dX7_dealtTo_60 : decode cX7_dealtTo 60 = .ok (.iload_n 1, 1) := by decide +kernel
theorem dX7_dealtTo_61 : decode cX7_dealtTo 61 = .ok (.iaload, 1) := by decide +kernel
theorem dX7_dealtTo_62 : decode cX7_dealtTo 62 = .ok (.iconst 1, 1) := by decide +kernel
theorem dX7_dealtTo_63 : decode cX7_dealtTo 63 = .ok (.isub, 1) := by decide +kernel
theorem dX7_dealtTo_64 : decode cX7_dealtTo 64 = .ok (.istore 6, 2) := by decide +kernel
theorem dX7_dealtTo_66 : decode cX7_dealtTo 66 = .ok (.iload 6, 2) := by decide +kernel
theorem dX7_dealtTo_68 : decode cX7_dealtTo 68 = .ok (.ifCond .lt 283, 3) := by decide +kernel
theorem dX7_dealtTo_71 : decode cX7_dealtTo 71 = .ok (.aload_n 0, 1) := by decide +kernel
theorem dX7_dealtTo_72 : decode cX7_dealtTo 72 = .ok (.getfield 53, 3) := by decide +kernel
theorem dX7_dealtTo_75 : decode cX7_dealtTo 75 = .ok (.iload 4, 2) := by decide +kernel
theorem dX7_dealtTo_77 : decode cX7_dealtTo 77 = .ok (.iload 6, 2) := by decide +kernel
theorem dX7_dealtTo_79 : decode cX7_dealtTo 79 = .ok (.iadd, 1) := by decide +kernel
theorem dX7_dealtTo_80 : decode cX7_dealtTo 80 = .ok (.iaload, 1) := by decide +kernel
theorem dX7_dealtTo_81 : decode cX7_dealtTo 81 = .ok (.bipush (-4), 2) := by decide +kernel
theorem dX7_dealtTo_83 : decode cX7_dealtTo 83 = .ok (.if_icmp .ne 8, 3) := by decide +kernel
theorem dX7_dealtTo_86 : decode cX7_dealtTo 86 = .ok (.bipush (-4), 2) := by decide +kernel
theorem dX7_dealtTo_88 : decode cX7_dealtTo 88 = .ok (.goto 16, 3) := by decide +kernel
theorem dX7_dealtTo_91 : decode cX7_dealtTo 91 = .ok (.aload_n 0, 1) := by decide +kernel
theorem dX7_dealtTo_92 : decode cX7_dealtTo 92 = .ok (.getfield 53, 3) := by decide +kernel
theorem dX7_dealtTo_95 : decode cX7_dealtTo 95 = .ok (.iload 4, 2) := by decide +kernel
theorem dX7_dealtTo_97 : decode cX7_dealtTo 97 = .ok (.iload 6, 2) := by decide +kernel
theorem dX7_dealtTo_99 : decode cX7_dealtTo 99 = .ok (.iadd, 1) := by decide +kernel
theorem dX7_dealtTo_100 : decode cX7_dealtTo 100 = .ok (.iaload, 1) := by decide +kernel
theorem dX7_dealtTo_101 : decode cX7_dealtTo 101 = .ok (.iload 4, 2) := by decide +kernel
theorem dX7_dealtTo_103 : decode cX7_dealtTo 103 = .ok (.isub, 1) := by decide +kernel
theorem dX7_dealtTo_104 : decode cX7_dealtTo 104 = .ok (.istore 7, 2) := by decide +kernel
theorem dX7_dealtTo_106 : decode cX7_dealtTo 106 = .ok (.aload_n 0, 1) := by decide +kernel
theorem dX7_dealtTo_107 : decode cX7_dealtTo 107 = .ok (.getfield 50, 3) := by decide +kernel
theorem dX7_dealtTo_110 : decode cX7_dealtTo 110 = .ok (.iload 4, 2) := by decide +kernel
theorem dX7_dealtTo_112 : decode cX7_dealtTo 112 = .ok (.iload 6, 2) := by decide +kernel
theorem dX7_dealtTo_114 : decode cX7_dealtTo 114 = .ok (.iadd, 1) := by decide +kernel
theorem dX7_dealtTo_115 : decode cX7_dealtTo 115 = .ok (.iaload, 1) := by decide +kernel
theorem dX7_dealtTo_116 : decode cX7_dealtTo 116 = .ok (.iconst 2, 1) := by decide +kernel
theorem dX7_dealtTo_117 : decode cX7_dealtTo 117 = .ok (.if_icmp .ne 161, 3) := by decide +kernel
theorem dX7_dealtTo_120 : decode cX7_dealtTo 120 = .ok (.aload_n 0, 1) := by decide +kernel
theorem dX7_dealtTo_121 : decode cX7_dealtTo 121 = .ok (.getfield 62, 3) := by decide +kernel
theorem dX7_dealtTo_124 : decode cX7_dealtTo 124 = .ok (.iload 4, 2) := by decide +kernel
theorem dX7_dealtTo_126 : decode cX7_dealtTo 126 = .ok (.iload 6, 2) := by decide +kernel
theorem dX7_dealtTo_128 : decode cX7_dealtTo 128 = .ok (.iadd, 1) := by decide +kernel
theorem dX7_dealtTo_129 : decode cX7_dealtTo 129 = .ok (.iaload, 1) := by decide +kernel
theorem dX7_dealtTo_130 : decode cX7_dealtTo 130 = .ok (.istore 8, 2) := by decide +kernel
theorem dX7_dealtTo_132 : decode cX7_dealtTo 132 = .ok (.aload_n 0, 1) := by decide +kernel
theorem dX7_dealtTo_133 : decode cX7_dealtTo 133 = .ok (.getfield 128, 3) := by decide +kernel
theorem dX7_dealtTo_136 : decode cX7_dealtTo 136 = .ok (.iload 6, 2) := by decide +kernel
theorem dX7_dealtTo_138 : decode cX7_dealtTo 138 = .ok (.iaload, 1) := by decide +kernel
theorem dX7_dealtTo_139 : decode cX7_dealtTo 139 = .ok (.istore 9, 2) := by decide +kernel
theorem dX7_dealtTo_141 : decode cX7_dealtTo 141 = .ok (.iconst 0, 1) := by decide +kernel
theorem dX7_dealtTo_142 : decode cX7_dealtTo 142 = .ok (.istore 10, 2) := by decide +kernel
theorem dX7_dealtTo_144 : decode cX7_dealtTo 144 = .ok (.iload 10, 2) := by decide +kernel
theorem dX7_dealtTo_146 : decode cX7_dealtTo 146 = .ok (.aload_n 0, 1) := by decide +kernel
theorem dX7_dealtTo_147 : decode cX7_dealtTo 147 = .ok (.getfield 17, 3) := by decide +kernel
theorem dX7_dealtTo_150 : decode cX7_dealtTo 150 = .ok (.iload_n 2, 1) := by decide +kernel
theorem dX7_dealtTo_151 : decode cX7_dealtTo 151 = .ok (.iaload, 1) := by decide +kernel
theorem dX7_dealtTo_152 : decode cX7_dealtTo 152 = .ok (.if_icmp .ge 80, 3) := by decide +kernel
theorem dX7_dealtTo_155 : decode cX7_dealtTo 155 = .ok (.iload 8, 2) := by decide +kernel
theorem dX7_dealtTo_157 : decode cX7_dealtTo 157 = .ok (.bipush (-4), 2) := by decide +kernel
theorem dX7_dealtTo_159 : decode cX7_dealtTo 159 = .ok (.if_icmp .eq 73, 3) := by decide +kernel
theorem dX7_dealtTo_162 : decode cX7_dealtTo 162 = .ok (.aload_n 0, 1) := by decide +kernel
theorem dX7_dealtTo_163 : decode cX7_dealtTo 163 = .ok (.getfield 125, 3) := by decide +kernel
theorem dX7_dealtTo_166 : decode cX7_dealtTo 166 = .ok (.iload 10, 2) := by decide +kernel
theorem dX7_dealtTo_168 : decode cX7_dealtTo 168 = .ok (.iaload, 1) := by decide +kernel
theorem dX7_dealtTo_169 : decode cX7_dealtTo 169 = .ok (.bipush (-4), 2) := by decide +kernel
theorem dX7_dealtTo_171 : decode cX7_dealtTo 171 = .ok (.if_icmp .eq 15, 3) := by decide +kernel
theorem dX7_dealtTo_174 : decode cX7_dealtTo 174 = .ok (.aload_n 0, 1) := by decide +kernel
theorem dX7_dealtTo_175 : decode cX7_dealtTo 175 = .ok (.getfield 125, 3) := by decide +kernel
theorem dX7_dealtTo_178 : decode cX7_dealtTo 178 = .ok (.iload 10, 2) := by decide +kernel
theorem dX7_dealtTo_180 : decode cX7_dealtTo 180 = .ok (.iaload, 1) := by decide +kernel
theorem dX7_dealtTo_181 : decode cX7_dealtTo 181 = .ok (.iload 8, 2) := by decide +kernel
theorem dX7_dealtTo_183 : decode cX7_dealtTo 183 = .ok (.if_icmp .ne 7, 3) := by decide +kernel
theorem dX7_dealtTo_186 : decode cX7_dealtTo 186 = .ok (.iconst 1, 1) := by decide +kernel
theorem dX7_dealtTo_187 : decode cX7_dealtTo 187 = .ok (.goto 4, 3) := by decide +kernel
theorem dX7_dealtTo_190 : decode cX7_dealtTo 190 = .ok (.iconst 0, 1) := by decide +kernel
theorem dX7_dealtTo_191 : decode cX7_dealtTo 191 = .ok (.istore 11, 2) := by decide +kernel
theorem dX7_dealtTo_193 : decode cX7_dealtTo 193 = .ok (.iload 9, 2) := by decide +kernel
theorem dX7_dealtTo_195 : decode cX7_dealtTo 195 = .ok (.iload 11, 2) := by decide +kernel
theorem dX7_dealtTo_197 : decode cX7_dealtTo 197 = .ok (.ifCond .eq 25, 3) := by decide +kernel
theorem dX7_dealtTo_200 : decode cX7_dealtTo 200 = .ok (.aload_n 0, 1) := by decide +kernel
theorem dX7_dealtTo_201 : decode cX7_dealtTo 201 = .ok (.iload 8, 2) := by decide +kernel
theorem dX7_dealtTo_203 : decode cX7_dealtTo 203 = .ok (.iload_n 2, 1) := by decide +kernel
theorem dX7_dealtTo_204 : decode cX7_dealtTo 204 = .ok (.iload 10, 2) := by decide +kernel
theorem dX7_dealtTo_206 : decode cX7_dealtTo 206 = .ok (.iload_n 3, 1) := by decide +kernel
theorem dX7_dealtTo_207 : decode cX7_dealtTo 207 = .ok (.invokevirtual 277, 3) := by decide +kernel
theorem dX7_dealtTo_210 : decode cX7_dealtTo 210 = .ok (.ifCond .eq 12, 3) := by decide +kernel
theorem dX7_dealtTo_213 : decode cX7_dealtTo 213 = .ok (.iconst 1, 1) := by decide +kernel
theorem dX7_dealtTo_214 : decode cX7_dealtTo 214 = .ok (.iconst 1, 1) := by decide +kernel
theorem dX7_dealtTo_215 : decode cX7_dealtTo 215 = .ok (.iload 10, 2) := by decide +kernel
theorem dX7_dealtTo_217 : decode cX7_dealtTo 217 = .ok (.ishl, 1) := by decide +kernel
theorem dX7_dealtTo_218 : decode cX7_dealtTo 218 = .ok (.ishl, 1) := by decide +kernel
theorem dX7_dealtTo_219 : decode cX7_dealtTo 219 = .ok (.goto 4, 3) := by decide +kernel
theorem dX7_dealtTo_222 : decode cX7_dealtTo 222 = .ok (.iconst 0, 1) := by decide +kernel
theorem dX7_dealtTo_223 : decode cX7_dealtTo 223 = .ok (.ior, 1) := by decide +kernel
theorem dX7_dealtTo_224 : decode cX7_dealtTo 224 = .ok (.istore 9, 2) := by decide +kernel
theorem dX7_dealtTo_226 : decode cX7_dealtTo 226 = .ok (.iinc 10 1, 3) := by decide +kernel
theorem dX7_dealtTo_229 : decode cX7_dealtTo 229 = .ok (.goto (-85), 3) := by decide +kernel
theorem dX7_dealtTo_232 : decode cX7_dealtTo 232 = .ok (.aload_n 0, 1) := by decide +kernel
theorem dX7_dealtTo_233 : decode cX7_dealtTo 233 = .ok (.getfield 128, 3) := by decide +kernel
theorem dX7_dealtTo_236 : decode cX7_dealtTo 236 = .ok (.iload 7, 2) := by decide +kernel
theorem dX7_dealtTo_238 : decode cX7_dealtTo 238 = .ok (.aload_n 0, 1) := by decide +kernel
theorem dX7_dealtTo_239 : decode cX7_dealtTo 239 = .ok (.getfield 128, 3) := by decide +kernel
theorem dX7_dealtTo_242 : decode cX7_dealtTo 242 = .ok (.iload 7, 2) := by decide +kernel
theorem dX7_dealtTo_244 : decode cX7_dealtTo 244 = .ok (.iaload, 1) := by decide +kernel
theorem dX7_dealtTo_245 : decode cX7_dealtTo 245 = .ok (.aload_n 0, 1) := by decide +kernel
theorem dX7_dealtTo_246 : decode cX7_dealtTo 246 = .ok (.iload 9, 2) := by decide +kernel
theorem dX7_dealtTo_248 : decode cX7_dealtTo 248 = .ok (.aload_n 0, 1) := by decide +kernel
theorem dX7_dealtTo_249 : decode cX7_dealtTo 249 = .ok (.getfield 56, 3) := by decide +kernel
theorem dX7_dealtTo_252 : decode cX7_dealtTo 252 = .ok (.iload 4, 2) := by decide +kernel
theorem dX7_dealtTo_254 : decode cX7_dealtTo 254 = .ok (.iload 6, 2) := by decide +kernel
theorem dX7_dealtTo_256 : decode cX7_dealtTo 256 = .ok (.iadd, 1) := by decide +kernel
theorem dX7_dealtTo_257 : decode cX7_dealtTo 257 = .ok (.iaload, 1) := by decide +kernel
theorem dX7_dealtTo_258 : decode cX7_dealtTo 258 = .ok (.aload_n 0, 1) := by decide +kernel
theorem dX7_dealtTo_259 : decode cX7_dealtTo 259 = .ok (.getfield 59, 3) := by decide +kernel
theorem dX7_dealtTo_262 : decode cX7_dealtTo 262 = .ok (.iload 4, 2) := by decide +kernel
theorem dX7_dealtTo_264 : decode cX7_dealtTo 264 = .ok (.iload 6, 2) := by decide +kernel
theorem dX7_dealtTo_266 : decode cX7_dealtTo 266 = .ok (.iadd, 1) := by decide +kernel
theorem dX7_dealtTo_267 : decode cX7_dealtTo 267 = .ok (.iaload, 1) := by decide +kernel
theorem dX7_dealtTo_268 : decode cX7_dealtTo 268 = .ok (.invokevirtual 281, 3) := by decide +kernel
theorem dX7_dealtTo_271 : decode cX7_dealtTo 271 = .ok (.invokestatic 274, 3) := by decide +kernel
theorem dX7_dealtTo_274 : decode cX7_dealtTo 274 = .ok (.iastore, 1) := by decide +kernel
theorem dX7_dealtTo_275 : decode cX7_dealtTo 275 = .ok (.goto 70, 3) := by decide +kernel
theorem dX7_dealtTo_278 : decode cX7_dealtTo 278 = .ok (.aload_n 0, 1) := by decide +kernel
theorem dX7_dealtTo_279 : decode cX7_dealtTo 279 = .ok (.getfield 50, 3) := by decide +kernel
theorem dX7_dealtTo_282 : decode cX7_dealtTo 282 = .ok (.iload 4, 2) := by decide +kernel
theorem dX7_dealtTo_284 : decode cX7_dealtTo 284 = .ok (.iload 6, 2) := by decide +kernel
theorem dX7_dealtTo_286 : decode cX7_dealtTo 286 = .ok (.iadd, 1) := by decide +kernel
theorem dX7_dealtTo_287 : decode cX7_dealtTo 287 = .ok (.iaload, 1) := by decide +kernel
theorem dX7_dealtTo_288 : decode cX7_dealtTo 288 = .ok (.iconst 1, 1) := by decide +kernel
theorem dX7_dealtTo_289 : decode cX7_dealtTo 289 = .ok (.if_icmp .ne 23, 3) := by decide +kernel
theorem dX7_dealtTo_292 : decode cX7_dealtTo 292 = .ok (.aload_n 0, 1) := by decide +kernel
theorem dX7_dealtTo_293 : decode cX7_dealtTo 293 = .ok (.getfield 128, 3) := by decide +kernel
theorem dX7_dealtTo_296 : decode cX7_dealtTo 296 = .ok (.iload 7, 2) := by decide +kernel
theorem dX7_dealtTo_298 : decode cX7_dealtTo 298 = .ok (.dup2, 1) := by decide +kernel
theorem dX7_dealtTo_299 : decode cX7_dealtTo 299 = .ok (.iaload, 1) := by decide +kernel
theorem dX7_dealtTo_300 : decode cX7_dealtTo 300 = .ok (.aload_n 0, 1) := by decide +kernel
theorem dX7_dealtTo_301 : decode cX7_dealtTo 301 = .ok (.getfield 128, 3) := by decide +kernel
theorem dX7_dealtTo_304 : decode cX7_dealtTo 304 = .ok (.iload 6, 2) := by decide +kernel
theorem dX7_dealtTo_306 : decode cX7_dealtTo 306 = .ok (.iaload, 1) := by decide +kernel
theorem dX7_dealtTo_307 : decode cX7_dealtTo 307 = .ok (.ior, 1) := by decide +kernel
theorem dX7_dealtTo_308 : decode cX7_dealtTo 308 = .ok (.iastore, 1) := by decide +kernel
theorem dX7_dealtTo_309 : decode cX7_dealtTo 309 = .ok (.goto 36, 3) := by decide +kernel
theorem dX7_dealtTo_312 : decode cX7_dealtTo 312 = .ok (.iload 7, 2) := by decide +kernel
theorem dX7_dealtTo_314 : decode cX7_dealtTo 314 = .ok (.bipush (-4), 2) := by decide +kernel
theorem dX7_dealtTo_316 : decode cX7_dealtTo 316 = .ok (.if_icmp .ne 15, 3) := by decide +kernel
theorem dX7_dealtTo_319 : decode cX7_dealtTo 319 = .ok (.aload_n 0, 1) := by decide +kernel
theorem dX7_dealtTo_320 : decode cX7_dealtTo 320 = .ok (.getfield 128, 3) := by decide +kernel
theorem dX7_dealtTo_323 : decode cX7_dealtTo 323 = .ok (.iload 6, 2) := by decide +kernel
theorem dX7_dealtTo_325 : decode cX7_dealtTo 325 = .ok (.iaload, 1) := by decide +kernel
theorem dX7_dealtTo_326 : decode cX7_dealtTo 326 = .ok (.istore 5, 2) := by decide +kernel
theorem dX7_dealtTo_328 : decode cX7_dealtTo 328 = .ok (.goto 17, 3) := by decide +kernel
theorem dX7_dealtTo_331 : decode cX7_dealtTo 331 = .ok (.aload_n 0, 1) := by decide +kernel
theorem dX7_dealtTo_332 : decode cX7_dealtTo 332 = .ok (.getfield 128, 3) := by decide +kernel
theorem dX7_dealtTo_335 : decode cX7_dealtTo 335 = .ok (.iload 7, 2) := by decide +kernel
theorem dX7_dealtTo_337 : decode cX7_dealtTo 337 = .ok (.aload_n 0, 1) := by decide +kernel
theorem dX7_dealtTo_338 : decode cX7_dealtTo 338 = .ok (.getfield 128, 3) := by decide +kernel
theorem dX7_dealtTo_341 : decode cX7_dealtTo 341 = .ok (.iload 6, 2) := by decide +kernel
theorem dX7_dealtTo_343 : decode cX7_dealtTo 343 = .ok (.iaload, 1) := by decide +kernel
theorem dX7_dealtTo_344 : decode cX7_dealtTo 344 = .ok (.iastore, 1) := by decide +kernel
theorem dX7_dealtTo_345 : decode cX7_dealtTo 345 = .ok (.iinc 6 (-1), 3) := by decide +kernel
theorem dX7_dealtTo_348 : decode cX7_dealtTo 348 = .ok (.goto (-282), 3) := by decide +kernel
theorem dX7_dealtTo_351 : decode cX7_dealtTo 351 = .ok (.iload 5, 2) := by decide +kernel
theorem dX7_dealtTo_353 : decode cX7_dealtTo 353 = .ok (.ireturn, 1) := by decide +kernel
theorem dX7_isWanted_0 : decode cX7_isWanted 0 = .ok (.iconst 0, 1) := by decide +kernel
theorem dX7_isWanted_1 : decode cX7_isWanted 1 = .ok (.istore_n 3, 1) := by decide +kernel
theorem dX7_isWanted_2 : decode cX7_isWanted 2 = .ok (.iconst 0, 1) := by decide +kernel
theorem dX7_isWanted_3 : decode cX7_isWanted 3 = .ok (.istore 4, 2) := by decide +kernel
theorem dX7_isWanted_5 : decode cX7_isWanted 5 = .ok (.iload 4, 2) := by decide +kernel
theorem dX7_isWanted_7 : decode cX7_isWanted 7 = .ok (.aload_n 0, 1) := by decide +kernel
theorem dX7_isWanted_8 : decode cX7_isWanted 8 = .ok (.getfield 32, 3) := by decide +kernel
theorem dX7_isWanted_11 : decode cX7_isWanted 11 = .ok (.iload_n 1, 1) := by decide +kernel
theorem dX7_isWanted_12 : decode cX7_isWanted 12 = .ok (.iaload, 1) := by decide +kernel
theorem dX7_isWanted_13 : decode cX7_isWanted 13 = .ok (.if_icmp .ge 35, 3) := by decide +kernel
theorem dX7_isWanted_16 : decode cX7_isWanted 16 = .ok (.iload_n 3, 1) := by decide +kernel
theorem dX7_isWanted_17 : decode cX7_isWanted 17 = .ok (.ifCond .ne 19, 3) := by decide +kernel
theorem dX7_isWanted_20 : decode cX7_isWanted 20 = .ok (.aload_n 0, 1) := by decide +kernel
theorem dX7_isWanted_21 : decode cX7_isWanted 21 = .ok (.getfield 35, 3) := by decide +kernel
theorem dX7_isWanted_24 : decode cX7_isWanted 24 = .ok (.bipush 6, 2) := by decide +kernel
theorem dX7_isWanted_26 : decode cX7_isWanted 26 = .ok (.iload_n 1, 1) := by decide +kernel
theorem dX7_isWanted_27 : decode cX7_isWanted 27 = .ok (.imul, 1) := by decide +kernel
theorem dX7_isWanted_28 : decode cX7_isWanted 28 = .ok (.iload 4, 2) := by decide +kernel
theorem dX7_isWanted_30 : decode cX7_isWanted 30 = .ok (.iadd, 1) := by decide +kernel
theorem dX7_isWanted_31 : decode cX7_isWanted 31 = .ok (.iaload, 1) := by decide +kernel
theorem dX7_isWanted_32 : decode cX7_isWanted 32 = .ok (.iload_n 2, 1) := by decide +kernel
theorem dX7_isWanted_33 : decode cX7_isWanted 33 = .ok (.if_icmp .ne 7, 3) := by decide +kernel
theorem dX7_isWanted_36 : decode cX7_isWanted 36 = .ok (.iconst 1, 1) := by decide +kernel
theorem dX7_isWanted_37 : decode cX7_isWanted 37 = .ok (.goto 4, 3) := by decide +kernel
theorem dX7_isWanted_40 : decode cX7_isWanted 40 = .ok (.iconst 0, 1) := by decide +kernel
theorem dX7_isWanted_41 : decode cX7_isWanted 41 = .ok (.istore_n 3, 1) := by decide +kernel
theorem dX7_isWanted_42 : decode cX7_isWanted 42 = .ok (.iinc 4 1, 3) := by decide +kernel
theorem dX7_isWanted_45 : decode cX7_isWanted 45 = .ok (.goto (-40), 3) := by decide +kernel
theorem dX7_isWanted_48 : decode cX7_isWanted 48 = .ok (.iload_n 3, 1) := by decide +kernel
theorem dX7_isWanted_49 : decode cX7_isWanted 49 = .ok (.ireturn, 1) := by decide +kernel
set_option maxRecDepth 20000 in
theorem ggX7_wantedSet_X7_isWanted : GoodIn wsX7_wantedSet wsX7_isWanted := goodIn_r _ [7, 8, 9, 10, 11, 12, 13, 14, 15, 16, 17, 18, 19, 20, 21, 22, 23, 24, 25, 26, 27, 28, 29, 30, 31, 32, 33, 34, 35, 36, 37, 38, 39, 40, 41, 42, 43, 44, 45, 46, 47, 48, 49, 50, 51, 52, 53, 54, 55, 56, 57, 58, 59, 60, 61, 62, 63, 64, 65, 66] (by decide +kernel) (by decide +kernel)
set_option maxRecDepth 20000 in
theorem gX7_wantedSet_X7_isWanted : GoodIn wsX7_wantedSet (wsV RX7 284 RX7 yX7_isWanted wsX7_isWanted) := goodIn_app (goodIn_of _ (by decide +kernel)) ggX7_wantedSet_X7_isWanted
theorem dX7_wantedSet_0 : decode cX7_wantedSet 0 = .ok (.iconst 0, 1) := by decide +kernel
theorem dX7_wantedSet_1 : decode cX7_wantedSet 1 = .ok (.istore_n 3, 1) := by decide +kernel
theorem dX7_wantedSet_2 : decode cX7_wantedSet 2 = .ok (.iconst 0, 1) := by decide +kernel
theorem dX7_wantedSet_3 : decode cX7_wantedSet 3 = .ok (.istore 4, 2) := by decide +kernel
theorem dX7_wantedSet_5 : decode cX7_wantedSet 5 = .ok (.iload 4, 2) := by decide +kernel
theorem dX7_wantedSet_7 : decode cX7_wantedSet 7 = .ok (.aload_n 0, 1) := by decide +kernel
theorem dX7_wantedSet_8 : decode cX7_wantedSet 8 = .ok (.getfield 17, 3) := by decide +kernel
theorem dX7_wantedSet_11 : decode cX7_wantedSet 11 = .ok (.iload_n 2, 1) := by decide +kernel
theorem dX7_wantedSet_12 : decode cX7_wantedSet 12 = .ok (.iaload, 1) := by decide +kernel
theorem dX7_wantedSet_13 : decode cX7_wantedSet 13 = .ok (.if_icmp .ge 39, 3) := by decide +kernel
theorem dX7_wantedSet_16 : decode cX7_wantedSet 16 = .ok (.iload_n 3, 1) := by decide +kernel
theorem dX7_wantedSet_17 : decode cX7_wantedSet 17 = .ok (.aload_n 0, 1) := by decide +kernel
theorem dX7_wantedSet_18 : decode cX7_wantedSet 18 = .ok (.iload_n 1, 1) := by decide +kernel
theorem dX7_wantedSet_19 : decode cX7_wantedSet 19 = .ok (.aload_n 0, 1) := by decide +kernel
theorem dX7_wantedSet_20 : decode cX7_wantedSet 20 = .ok (.getfield 20, 3) := by decide +kernel
theorem dX7_wantedSet_23 : decode cX7_wantedSet 23 = .ok (.iconst 5, 1) := by decide +kernel
theorem dX7_wantedSet_24 : decode cX7_wantedSet 24 = .ok (.iload_n 2, 1) := by decide +kernel
theorem dX7_wantedSet_25 : decode cX7_wantedSet 25 = .ok (.imul, 1) := by decide +kernel
theorem dX7_wantedSet_26 : decode cX7_wantedSet 26 = .ok (.iload 4, 2) := by decide +kernel
theorem dX7_wantedSet_28 : decode cX7_wantedSet 28 = .ok (.iadd, 1) := by decide +kernel
theorem dX7_wantedSet_29 : decode cX7_wantedSet 29 = .ok (.iaload, 1) := by decide +kernel
theorem dX7_wantedSet_30 : decode cX7_wantedSet 30 = .ok (.invokevirtual 284, 3) := by decide +kernel
theorem dX7_wantedSet_33 : decode cX7_wantedSet 33 = .ok (.ifCond .eq 10, 3) := by decide +kernel
theorem dX7_wantedSet_36 : decode cX7_wantedSet 36 = .ok (.iconst 1, 1) := by decide +kernel
theorem dX7_wantedSet_37 : decode cX7_wantedSet 37 = .ok (.iload 4, 2) := by decide +kernel
theorem dX7_wantedSet_39 : decode cX7_wantedSet 39 = .ok (.ishl, 1) := by decide +kernel
theorem dX7_wantedSet_40 : decode cX7_wantedSet 40 = .ok (.goto 4, 3) := by decide +kernel
theorem dX7_wantedSet_43 : decode cX7_wantedSet 43 = .ok (.iconst 0, 1) := by decide +kernel
theorem dX7_wantedSet_44 : decode cX7_wantedSet 44 = .ok (.ior, 1) := by decide +kernel
theorem dX7_wantedSet_45 : decode cX7_wantedSet 45 = .ok (.istore_n 3, 1) := by decide +kernel
theorem dX7_wantedSet_46 : decode cX7_wantedSet 46 = .ok (.iinc 4 1, 3) := by decide +kernel
theorem dX7_wantedSet_49 : decode cX7_wantedSet 49 = .ok (.goto (-44), 3) := by decide +kernel
theorem dX7_wantedSet_52 : decode cX7_wantedSet 52 = .ok (.iload_n 3, 1) := by decide +kernel
theorem dX7_wantedSet_53 : decode cX7_wantedSet 53 = .ok (.ireturn, 1) := by decide +kernel
set_option maxRecDepth 20000 in
theorem ggX7_can_X7_wantedSet : GoodIn wsX7_can wsX7_wantedSet := goodIn_r _ [7, 2, 8, 9, 10, 11, 6, 12, 13, 14, 49, 50, 51, 52, 53, 54, 55, 56, 57, 58, 59, 60, 61, 62, 63, 64, 65, 66, 67, 68, 69, 70, 71, 72, 73, 74, 75, 76, 77, 78, 79, 80, 81, 82, 83, 84, 85, 86, 87, 88, 89, 90, 91, 92, 93, 94, 95, 96, 97, 98, 99, 100, 101, 102, 103, 104, 105] (by decide +kernel) (by decide +kernel)
set_option maxRecDepth 20000 in
theorem gX7_can_X7_wantedSet : GoodIn wsX7_can (wsV RX7 288 RX7 yX7_wantedSet wsX7_wantedSet) := goodIn_app (goodIn_of _ (by decide +kernel)) ggX7_can_X7_wantedSet
set_option maxRecDepth 20000 in
theorem ggX7_can_X7_dealtTo : GoodIn wsX7_can wsX7_dealtTo := goodIn_r _ [18, 19, 20, 21, 22, 23, 2, 24, 25, 26, 27, 28, 29, 6, 30, 8, 14, 31, 32, 33, 34, 35, 36, 37, 38, 39, 40, 41, 42, 43, 44, 45, 46, 47, 48, 49, 50, 51, 52, 53, 54, 55, 56, 57, 58, 59, 60, 61, 62, 63, 64, 65, 66, 67, 68, 69, 70, 71, 72, 73, 74, 75, 76, 77, 78, 79, 80, 81, 82, 83, 84, 85, 86, 87, 88, 89, 90, 91, 92, 93, 94, 95, 96, 97, 98, 99, 100, 101, 102, 103, 104, 105] (by decide +kernel) (by decide +kernel)
set_option maxRecDepth 20000 in
theorem gX7_can_X7_dealtTo : GoodIn wsX7_can (wsV RX7 291 RX7 yX7_dealtTo wsX7_dealtTo) := goodIn_app (goodIn_of _ (by decide +kernel)) ggX7_can_X7_dealtTo
theorem dX7_can_0 : decode cX7_can 0 = .ok (.aload_n 0, 1) := by decide +kernel
theorem dX7_can_1 : decode cX7_can 1 = .ok (.iload_n 1, 1) := by decide +kernel
theorem dX7_can_2 : decode cX7_can 2 = .ok (.iload_n 2, 1) := by decide +kernel
theorem dX7_can_3 : decode cX7_can 3 = .ok (.invokevirtual 288, 3) := by decide +kernel
theorem dX7_can_6 : decode cX7_can 6 = .ok (.istore 4, 2) := by decide +kernel
theorem dX7_can_8 : decode cX7_can 8 = .ok (.aload_n 0, 1) := by decide +kernel
theorem dX7_can_9 : decode cX7_can 9 = .ok (.getfield 29, 3) := by decide +kernel
theorem dX7_can_12 : decode cX7_can 12 = .ok (.iload_n 1, 1) := by decide +kernel
theorem dX7_can_13 : decode cX7_can 13 = .ok (.baload, 1) := by decide +kernel
theorem dX7_can_14 : decode cX7_can 14 = .ok (.ifCond .eq 20, 3) := by decide +kernel
theorem dX7_can_17 : decode cX7_can 17 = .ok (.iload 4, 2) := by decide +kernel
theorem dX7_can_19 : decode cX7_can 19 = .ok (.iconst 1, 1) := by decide +kernel
theorem dX7_can_20 : decode cX7_can 20 = .ok (.aload_n 0, 1) := by decide +kernel
theorem dX7_can_21 : decode cX7_can 21 = .ok (.getfield 17, 3) := by decide +kernel
theorem dX7_can_24 : decode cX7_can 24 = .ok (.iload_n 2, 1) := by decide +kernel
theorem dX7_can_25 : decode cX7_can 25 = .ok (.iaload, 1) := by decide +kernel
theorem dX7_can_26 : decode cX7_can 26 = .ok (.ishl, 1) := by decide +kernel
theorem dX7_can_27 : decode cX7_can 27 = .ok (.iconst 1, 1) := by decide +kernel
theorem dX7_can_28 : decode cX7_can 28 = .ok (.isub, 1) := by decide +kernel
theorem dX7_can_29 : decode cX7_can 29 = .ok (.if_icmp .eq 5, 3) := by decide +kernel
theorem dX7_can_32 : decode cX7_can 32 = .ok (.iconst 0, 1) := by decide +kernel
theorem dX7_can_33 : decode cX7_can 33 = .ok (.ireturn, 1) := by decide +kernel
theorem dX7_can_34 : decode cX7_can 34 = .ok (.aload_n 0, 1) := by decide +kernel
theorem dX7_can_35 : decode cX7_can 35 = .ok (.iload_n 1, 1) := by decide +kernel
theorem dX7_can_36 : decode cX7_can 36 = .ok (.iload_n 2, 1) := by decide +kernel
theorem dX7_can_37 : decode cX7_can 37 = .ok (.iload_n 3, 1) := by decide +kernel
theorem dX7_can_38 : decode cX7_can 38 = .ok (.invokevirtual 291, 3) := by decide +kernel
theorem dX7_can_41 : decode cX7_can 41 = .ok (.iload 4, 2) := by decide +kernel
theorem dX7_can_43 : decode cX7_can 43 = .ok (.ishr, 1) := by decide +kernel
theorem dX7_can_44 : decode cX7_can 44 = .ok (.iconst 1, 1) := by decide +kernel
theorem dX7_can_45 : decode cX7_can 45 = .ok (.iand, 1) := by decide +kernel
theorem dX7_can_46 : decode cX7_can 46 = .ok (.iconst 1, 1) := by decide +kernel
theorem dX7_can_47 : decode cX7_can 47 = .ok (.if_icmp .ne 7, 3) := by decide +kernel
theorem dX7_can_50 : decode cX7_can 50 = .ok (.iconst 1, 1) := by decide +kernel
theorem dX7_can_51 : decode cX7_can 51 = .ok (.goto 4, 3) := by decide +kernel
theorem dX7_can_54 : decode cX7_can 54 = .ok (.iconst 0, 1) := by decide +kernel
theorem dX7_can_55 : decode cX7_can 55 = .ok (.ireturn, 1) := by decide +kernel
theorem dX7_findRanks_0 : decode cX7_findRanks 0 = .ok (.iconst 0, 1) := by decide +kernel
theorem dX7_findRanks_1 : decode cX7_findRanks 1 = .ok (.istore_n 1, 1) := by decide +kernel
theorem dX7_findRanks_2 : decode cX7_findRanks 2 = .ok (.iload_n 1, 1) := by decide +kernel
theorem dX7_findRanks_3 : decode cX7_findRanks 3 = .ok (.aload_n 0, 1) := by decide +kernel
theorem dX7_findRanks_4 : decode cX7_findRanks 4 = .ok (.getfield 258, 3) := by decide +kernel
theorem dX7_findRanks_7 : decode cX7_findRanks 7 = .ok (.if_icmp .ge 16, 3) := by decide +kernel
theorem dX7_findRanks_10 : decode cX7_findRanks 10 = .ok (.aload_n 0, 1) := by decide +kernel
theorem dX7_findRanks_11 : decode cX7_findRanks 11 = .ok (.getfield 131, 3) := by decide +kernel
theorem dX7_findRanks_14 : decode cX7_findRanks 14 = .ok (.iload_n 1, 1) := by decide +kernel
theorem dX7_findRanks_15 : decode cX7_findRanks 15 = .ok (.iconst 0, 1) := by decide +kernel
theorem dX7_findRanks_16 : decode cX7_findRanks 16 = .ok (.iastore, 1) := by decide +kernel
theorem dX7_findRanks_17 : decode cX7_findRanks 17 = .ok (.iinc 1 1, 3) := by decide +kernel
theorem dX7_findRanks_20 : decode cX7_findRanks 20 = .ok (.goto (-18), 3) := by decide +kernel
theorem dX7_findRanks_23 : decode cX7_findRanks 23 = .ok (.iconst 0, 1) := by decide +kernel
theorem dX7_findRanks_24 : decode cX7_findRanks 24 = .ok (.istore_n 1, 1) := by decide +kernel
theorem dX7_findRanks_25 : decode cX7_findRanks 25 = .ok (.iload_n 1, 1) := by decide +kernel
theorem dX7_findRanks_26 : decode cX7_findRanks 26 = .ok (.bipush 7, 2) := by decide +kernel
theorem dX7_findRanks_28 : decode cX7_findRanks 28 = .ok (.if_icmp .ge 132, 3) := by decide +kernel
theorem dX7_findRanks_31 : decode cX7_findRanks 31 = .ok (.iconst 0, 1) := by decide +kernel
theorem dX7_findRanks_32 : decode cX7_findRanks 32 = .ok (.istore_n 2, 1) := by decide +kernel
theorem dX7_findRanks_33 : decode cX7_findRanks 33 = .ok (.iload_n 2, 1) := by decide +kernel
theorem dX7_findRanks_34 : decode cX7_findRanks 34 = .ok (.aload_n 0, 1) := by decide +kernel
theorem dX7_findRanks_35 : decode cX7_findRanks 35 = .ok (.getfield 258, 3) := by decide +kernel
theorem dX7_findRanks_38 : decode cX7_findRanks 38 = .ok (.if_icmp .ge 116, 3) := by decide +kernel
theorem dX7_findRanks_41 : decode cX7_findRanks 41 = .ok (.iconst 0, 1) := by decide +kernel
theorem dX7_findRanks_42 : decode cX7_findRanks 42 = .ok (.istore_n 3, 1) := by decide +kernel
theorem dX7_findRanks_43 : decode cX7_findRanks 43 = .ok (.iload_n 3, 1) := by decide +kernel
theorem dX7_findRanks_44 : decode cX7_findRanks 44 = .ok (.aload_n 0, 1) := by decide +kernel
theorem dX7_findRanks_45 : decode cX7_findRanks 45 = .ok (.getfield 32, 3) := by decide +kernel
theorem dX7_findRanks_48 : decode cX7_findRanks 48 = .ok (.iload_n 2, 1) := by decide +kernel
theorem dX7_findRanks_49 : decode cX7_findRanks 49 = .ok (.iaload, 1) := by decide +kernel
theorem dX7_findRanks_50 : decode cX7_findRanks 50 = .ok (.if_icmp .ge 98, 3) := by decide +kernel
theorem dX7_findRanks_53 : decode cX7_findRanks 53 = .ok (.bipush 6, 2) := by decide +kernel
theorem dX7_findRanks_55 : decode cX7_findRanks 55 = .ok (.iload_n 2, 1) := by decide +kernel
theorem dX7_findRanks_56 : decode cX7_findRanks 56 = .ok (.imul, 1) := by decide +kernel
theorem dX7_findRanks_57 : decode cX7_findRanks 57 = .ok (.iload_n 3, 1) := by decide +kernel
theorem dX7_findRanks_58 : decode cX7_findRanks 58 = .ok (.iadd, 1) := by decide +kernel
theorem dX7_findRanks_59 : decode cX7_findRanks 59 = .ok (.istore 4, 2) := by decide +kernel
theorem dX7_findRanks_61 : decode cX7_findRanks 61 = .ok (.aload_n 0, 1) := by decide +kernel
theorem dX7_findRanks_62 : decode cX7_findRanks 62 = .ok (.getfield 38, 3) := by decide +kernel
theorem dX7_findRanks_65 : decode cX7_findRanks 65 = .ok (.iload 4, 2) := by decide +kernel
theorem dX7_findRanks_67 : decode cX7_findRanks 67 = .ok (.iaload, 1) := by decide +kernel
theorem dX7_findRanks_68 : decode cX7_findRanks 68 = .ok (.iconst 1, 1) := by decide +kernel
theorem dX7_findRanks_69 : decode cX7_findRanks 69 = .ok (.if_icmp .eq 14, 3) := by decide +kernel
theorem dX7_findRanks_72 : decode cX7_findRanks 72 = .ok (.aload_n 0, 1) := by decide +kernel
theorem dX7_findRanks_73 : decode cX7_findRanks 73 = .ok (.getfield 38, 3) := by decide +kernel
theorem dX7_findRanks_76 : decode cX7_findRanks 76 = .ok (.iload 4, 2) := by decide +kernel
theorem dX7_findRanks_78 : decode cX7_findRanks 78 = .ok (.iaload, 1) := by decide +kernel
theorem dX7_findRanks_79 : decode cX7_findRanks 79 = .ok (.iconst 2, 1) := by decide +kernel
theorem dX7_findRanks_80 : decode cX7_findRanks 80 = .ok (.if_icmp .ne 62, 3) := by decide +kernel
theorem dX7_findRanks_83 : decode cX7_findRanks 83 = .ok (.aload_n 0, 1) := by decide +kernel
theorem dX7_findRanks_84 : decode cX7_findRanks 84 = .ok (.getfield 131, 3) := by decide +kernel
theorem dX7_findRanks_87 : decode cX7_findRanks 87 = .ok (.aload_n 0, 1) := by decide +kernel
theorem dX7_findRanks_88 : decode cX7_findRanks 88 = .ok (.getfield 41, 3) := by decide +kernel
theorem dX7_findRanks_91 : decode cX7_findRanks 91 = .ok (.iload 4, 2) := by decide +kernel
theorem dX7_findRanks_93 : decode cX7_findRanks 93 = .ok (.iaload, 1) := by decide +kernel
theorem dX7_findRanks_94 : decode cX7_findRanks 94 = .ok (.iaload, 1) := by decide +kernel
theorem dX7_findRanks_95 : decode cX7_findRanks 95 = .ok (.aload_n 0, 1) := by decide +kernel
theorem dX7_findRanks_96 : decode cX7_findRanks 96 = .ok (.getfield 38, 3) := by decide +kernel
theorem dX7_findRanks_99 : decode cX7_findRanks 99 = .ok (.iload 4, 2) := by decide +kernel
theorem dX7_findRanks_101 : decode cX7_findRanks 101 = .ok (.iaload, 1) := by decide +kernel
theorem dX7_findRanks_102 : decode cX7_findRanks 102 = .ok (.iconst 2, 1) := by decide +kernel
theorem dX7_findRanks_103 : decode cX7_findRanks 103 = .ok (.if_icmp .ne 7, 3) := by decide +kernel
theorem dX7_findRanks_106 : decode cX7_findRanks 106 = .ok (.iconst 1, 1) := by decide +kernel
theorem dX7_findRanks_107 : decode cX7_findRanks 107 = .ok (.goto 4, 3) := by decide +kernel
theorem dX7_findRanks_110 : decode cX7_findRanks 110 = .ok (.iconst 0, 1) := by decide +kernel
theorem dX7_findRanks_111 : decode cX7_findRanks 111 = .ok (.iadd, 1) := by decide +kernel
theorem dX7_findRanks_112 : decode cX7_findRanks 112 = .ok (.istore 5, 2) := by decide +kernel
theorem dX7_findRanks_114 : decode cX7_findRanks 114 = .ok (.aload_n 0, 1) := by decide +kernel
theorem dX7_findRanks_115 : decode cX7_findRanks 115 = .ok (.getfield 131, 3) := by decide +kernel
theorem dX7_findRanks_118 : decode cX7_findRanks 118 = .ok (.iload_n 2, 1) := by decide +kernel
theorem dX7_findRanks_119 : decode cX7_findRanks 119 = .ok (.iload 5, 2) := by decide +kernel
theorem dX7_findRanks_121 : decode cX7_findRanks 121 = .ok (.aload_n 0, 1) := by decide +kernel
theorem dX7_findRanks_122 : decode cX7_findRanks 122 = .ok (.getfield 131, 3) := by decide +kernel
theorem dX7_findRanks_125 : decode cX7_findRanks 125 = .ok (.iload_n 2, 1) := by decide +kernel
theorem dX7_findRanks_126 : decode cX7_findRanks 126 = .ok (.iaload, 1) := by decide +kernel
theorem dX7_findRanks_127 : decode cX7_findRanks 127 = .ok (.if_icmp .le 8, 3) := by decide +kernel
theorem dX7_findRanks_130 : decode cX7_findRanks 130 = .ok (.iload 5, 2) := by decide +kernel
theorem dX7_findRanks_132 : decode cX7_findRanks 132 = .ok (.goto 9, 3) := by decide +kernel
theorem dX7_findRanks_135 : decode cX7_findRanks 135 = .ok (.aload_n 0, 1) := by decide +kernel
theorem dX7_findRanks_136 : decode cX7_findRanks 136 = .ok (.getfield 131, 3) := by decide +kernel
theorem dX7_findRanks_139 : decode cX7_findRanks 139 = .ok (.iload_n 2, 1) := by decide +kernel
theorem dX7_findRanks_140 : decode cX7_findRanks 140 = .ok (.iaload, 1) := by decide +kernel
theorem dX7_findRanks_141 : decode cX7_findRanks 141 = .ok (.iastore, 1) := by decide +kernel
theorem dX7_findRanks_142 : decode cX7_findRanks 142 = .ok (.iinc 3 1, 3) := by decide +kernel
theorem dX7_findRanks_145 : decode cX7_findRanks 145 = .ok (.goto (-102), 3) := by decide +kernel
theorem dX7_findRanks_148 : decode cX7_findRanks 148 = .ok (.iinc 2 1, 3) := by decide +kernel
theorem dX7_findRanks_151 : decode cX7_findRanks 151 = .ok (.goto (-118), 3) := by decide +kernel
theorem dX7_findRanks_154 : decode cX7_findRanks 154 = .ok (.iinc 1 1, 3) := by decide +kernel
theorem dX7_findRanks_157 : decode cX7_findRanks 157 = .ok (.goto (-132), 3) := by decide +kernel
theorem dX7_findRanks_160 : decode cX7_findRanks 160 = .ok (.return_, 1) := by decide +kernel
theorem dX7_free_0 : decode cX7_free 0 = .ok (.iconst 0, 1) := by decide +kernel
theorem dX7_free_1 : decode cX7_free 1 = .ok (.istore_n 1, 1) := by decide +kernel
theorem dX7_free_2 : decode cX7_free 2 = .ok (.iload_n 1, 1) := by decide +kernel
theorem dX7_free_3 : decode cX7_free 3 = .ok (.iconst 5, 1) := by decide +kernel
theorem dX7_free_4 : decode cX7_free 4 = .ok (.if_icmp .ge 17, 3) := by decide +kernel
theorem dX7_free_7 : decode cX7_free 7 = .ok (.aload_n 0, 1) := by decide +kernel
theorem dX7_free_8 : decode cX7_free 8 = .ok (.getfield 125, 3) := by decide +kernel
theorem dX7_free_11 : decode cX7_free 11 = .ok (.iload_n 1, 1) := by decide +kernel
theorem dX7_free_12 : decode cX7_free 12 = .ok (.bipush (-4), 2) := by decide +kernel
theorem dX7_free_14 : decode cX7_free 14 = .ok (.iastore, 1) := by decide +kernel
theorem dX7_free_15 : decode cX7_free 15 = .ok (.iinc 1 1, 3) := by decide +kernel
theorem dX7_free_18 : decode cX7_free 18 = .ok (.goto (-16), 3) := by decide +kernel
theorem dX7_free_21 : decode cX7_free 21 = .ok (.return_, 1) := by decide +kernel
set_option maxRecDepth 20000 in
theorem ggX7_changes_X7_can : GoodIn wsX7_changes wsX7_can := goodIn_r _ [10, 11, 12, 13, 14, 15, 9, 16, 17, 18, 19, 20, 21, 22, 23, 24, 25, 26, 27, 28, 29, 30, 31, 32, 33, 34, 35, 36, 37, 38, 39, 40, 41, 4, 42, 5, 43, 44, 45, 46, 47, 48, 49, 50, 51, 52, 53, 54, 55, 56, 57, 58, 59, 60, 61, 62, 63, 64, 65, 66, 67, 68, 69, 70, 71, 72, 73, 74, 75, 76, 77, 78, 79, 80, 81, 82, 83, 84, 85, 86, 87, 88, 89, 90, 91, 92, 93, 94, 95, 96, 97, 98, 99, 100, 101, 102, 103, 104, 105, 106, 107, 108, 109, 110, 111, 112] (by decide +kernel) (by decide +kernel)
set_option maxRecDepth 20000 in
theorem gX7_changes_X7_can : GoodIn wsX7_changes (wsV RX7 295 RX7 yX7_can wsX7_can) := goodIn_app (goodIn_of _ (by decide +kernel)) ggX7_changes_X7_can
theorem dX7_changes_0 : decode cX7_changes 0 = .ok (.iconst 0, 1) := by decide +kernel
theorem dX7_changes_1 : decode cX7_changes 1 = .ok (.istore_n 3, 1) := by decide +kernel
theorem dX7_changes_2 : decode cX7_changes 2 = .ok (.iconst 0, 1) := by decide +kernel
theorem dX7_changes_3 : decode cX7_changes 3 = .ok (.istore 4, 2) := by decide +kernel
theorem dX7_changes_5 : decode cX7_changes 5 = .ok (.iload 4, 2) := by decide +kernel
theorem dX7_changes_7 : decode cX7_changes 7 = .ok (.aload_n 0, 1) := by decide +kernel
theorem dX7_changes_8 : decode cX7_changes 8 = .ok (.getfield 258, 3) := by decide +kernel
theorem dX7_changes_11 : decode cX7_changes 11 = .ok (.if_icmp .ge 131, 3) := by decide +kernel
theorem dX7_changes_14 : decode cX7_changes 14 = .ok (.iconst 0, 1) := by decide +kernel
theorem dX7_changes_15 : decode cX7_changes 15 = .ok (.istore 5, 2) := by decide +kernel
theorem dX7_changes_17 : decode cX7_changes 17 = .ok (.iload 5, 2) := by decide +kernel
theorem dX7_changes_19 : decode cX7_changes 19 = .ok (.aload_n 0, 1) := by decide +kernel
theorem dX7_changes_20 : decode cX7_changes 20 = .ok (.getfield 140, 3) := by decide +kernel
theorem dX7_changes_23 : decode cX7_changes 23 = .ok (.if_icmp .ge 113, 3) := by decide +kernel
theorem dX7_changes_26 : decode cX7_changes 26 = .ok (.aload_n 0, 1) := by decide +kernel
theorem dX7_changes_27 : decode cX7_changes 27 = .ok (.getfield 131, 3) := by decide +kernel
theorem dX7_changes_30 : decode cX7_changes 30 = .ok (.iload 4, 2) := by decide +kernel
theorem dX7_changes_32 : decode cX7_changes 32 = .ok (.iaload, 1) := by decide +kernel
theorem dX7_changes_33 : decode cX7_changes 33 = .ok (.iload_n 1, 1) := by decide +kernel
theorem dX7_changes_34 : decode cX7_changes 34 = .ok (.if_icmp .ne 102, 3) := by decide +kernel
theorem dX7_changes_37 : decode cX7_changes 37 = .ok (.bipush 10, 2) := by decide +kernel
theorem dX7_changes_39 : decode cX7_changes 39 = .ok (.iload 4, 2) := by decide +kernel
theorem dX7_changes_41 : decode cX7_changes 41 = .ok (.imul, 1) := by decide +kernel
theorem dX7_changes_42 : decode cX7_changes 42 = .ok (.iload 5, 2) := by decide +kernel
theorem dX7_changes_44 : decode cX7_changes 44 = .ok (.iadd, 1) := by decide +kernel
theorem dX7_changes_45 : decode cX7_changes 45 = .ok (.istore 6, 2) := by decide +kernel
theorem dX7_changes_47 : decode cX7_changes 47 = .ok (.iload_n 2, 1) := by decide +kernel
theorem dX7_changes_48 : decode cX7_changes 48 = .ok (.ifCond .eq 28, 3) := by decide +kernel
theorem dX7_changes_51 : decode cX7_changes 51 = .ok (.aload_n 0, 1) := by decide +kernel
theorem dX7_changes_52 : decode cX7_changes 52 = .ok (.getfield 122, 3) := by decide +kernel
theorem dX7_changes_55 : decode cX7_changes 55 = .ok (.iload 6, 2) := by decide +kernel
theorem dX7_changes_57 : decode cX7_changes 57 = .ok (.baload, 1) := by decide +kernel
theorem dX7_changes_58 : decode cX7_changes 58 = .ok (.ifCond .ne 72, 3) := by decide +kernel
theorem dX7_changes_61 : decode cX7_changes 61 = .ok (.aload_n 0, 1) := by decide +kernel
theorem dX7_changes_62 : decode cX7_changes 62 = .ok (.iload 4, 2) := by decide +kernel
theorem dX7_changes_64 : decode cX7_changes 64 = .ok (.iload 5, 2) := by decide +kernel
theorem dX7_changes_66 : decode cX7_changes 66 = .ok (.iconst 1, 1) := by decide +kernel
theorem dX7_changes_67 : decode cX7_changes 67 = .ok (.invokevirtual 295, 3) := by decide +kernel
theorem dX7_changes_70 : decode cX7_changes 70 = .ok (.ifCond .eq 60, 3) := by decide +kernel
theorem dX7_changes_73 : decode cX7_changes 73 = .ok (.goto 25, 3) := by decide +kernel
theorem dX7_changes_76 : decode cX7_changes 76 = .ok (.aload_n 0, 1) := by decide +kernel
theorem dX7_changes_77 : decode cX7_changes 77 = .ok (.getfield 119, 3) := by decide +kernel
theorem dX7_changes_80 : decode cX7_changes 80 = .ok (.iload 6, 2) := by decide +kernel
theorem dX7_changes_82 : decode cX7_changes 82 = .ok (.baload, 1) := by decide +kernel
theorem dX7_changes_83 : decode cX7_changes 83 = .ok (.ifCond .eq 47, 3) := by decide +kernel
theorem dX7_changes_86 : decode cX7_changes 86 = .ok (.aload_n 0, 1) := by decide +kernel
theorem dX7_changes_87 : decode cX7_changes 87 = .ok (.iload 4, 2) := by decide +kernel
theorem dX7_changes_89 : decode cX7_changes 89 = .ok (.iload 5, 2) := by decide +kernel
theorem dX7_changes_91 : decode cX7_changes 91 = .ok (.iconst 0, 1) := by decide +kernel
theorem dX7_changes_92 : decode cX7_changes 92 = .ok (.invokevirtual 295, 3) := by decide +kernel
theorem dX7_changes_95 : decode cX7_changes 95 = .ok (.ifCond .ne 35, 3) := by decide +kernel
theorem dX7_changes_98 : decode cX7_changes 98 = .ok (.aload_n 0, 1) := by decide +kernel
theorem dX7_changes_99 : decode cX7_changes 99 = .ok (.getfield 119, 3) := by decide +kernel
theorem dX7_changes_102 : decode cX7_changes 102 = .ok (.iload 6, 2) := by decide +kernel
theorem dX7_changes_104 : decode cX7_changes 104 = .ok (.iload_n 2, 1) := by decide +kernel
theorem dX7_changes_105 : decode cX7_changes 105 = .ok (.ifCond .eq 13, 3) := by decide +kernel
theorem dX7_changes_108 : decode cX7_changes 108 = .ok (.aload_n 0, 1) := by decide +kernel
theorem dX7_changes_109 : decode cX7_changes 109 = .ok (.getfield 119, 3) := by decide +kernel
theorem dX7_changes_112 : decode cX7_changes 112 = .ok (.iload 6, 2) := by decide +kernel
theorem dX7_changes_114 : decode cX7_changes 114 = .ok (.baload, 1) := by decide +kernel
theorem dX7_changes_115 : decode cX7_changes 115 = .ok (.goto 4, 3) := by decide +kernel
theorem dX7_changes_118 : decode cX7_changes 118 = .ok (.iconst 0, 1) := by decide +kernel
theorem dX7_changes_119 : decode cX7_changes 119 = .ok (.bastore, 1) := by decide +kernel
theorem dX7_changes_120 : decode cX7_changes 120 = .ok (.aload_n 0, 1) := by decide +kernel
theorem dX7_changes_121 : decode cX7_changes 121 = .ok (.getfield 122, 3) := by decide +kernel
theorem dX7_changes_124 : decode cX7_changes 124 = .ok (.iload 6, 2) := by decide +kernel
theorem dX7_changes_126 : decode cX7_changes 126 = .ok (.iload_n 2, 1) := by decide +kernel
theorem dX7_changes_127 : decode cX7_changes 127 = .ok (.bastore, 1) := by decide +kernel
theorem dX7_changes_128 : decode cX7_changes 128 = .ok (.iconst 1, 1) := by decide +kernel
theorem dX7_changes_129 : decode cX7_changes 129 = .ok (.istore_n 3, 1) := by decide +kernel
theorem dX7_changes_130 : decode cX7_changes 130 = .ok (.iinc 5 1, 3) := by decide +kernel
theorem dX7_changes_133 : decode cX7_changes 133 = .ok (.goto (-116), 3) := by decide +kernel
theorem dX7_changes_136 : decode cX7_changes 136 = .ok (.iinc 4 1, 3) := by decide +kernel
theorem dX7_changes_139 : decode cX7_changes 139 = .ok (.goto (-134), 3) := by decide +kernel
theorem dX7_changes_142 : decode cX7_changes 142 = .ok (.iload_n 3, 1) := by decide +kernel
theorem dX7_changes_143 : decode cX7_changes 143 = .ok (.ireturn, 1) := by decide +kernel
set_option maxRecDepth 20000 in
theorem ggX7_read_X7_free : GoodIn wsX7_read wsX7_free := goodIn_r _ [8, 9, 69, 70, 71, 72, 73, 74, 75, 76, 77, 78, 79, 80, 81, 82, 83, 84, 85, 86, 87, 88, 89, 90, 91, 92, 93, 94, 95, 96, 97, 98, 99, 100, 101, 102, 103, 104, 105, 106, 107, 108, 109, 110, 111, 112, 113, 114, 115, 116, 117, 118, 119, 120, 121, 122, 123, 124, 125] (by decide +kernel) (by decide +kernel)
set_option maxRecDepth 20000 in
theorem gX7_read_X7_free : GoodIn wsX7_read (wsV RX7 299 RX7 yX7_free wsX7_free) := goodIn_app (goodIn_of _ (by decide +kernel)) ggX7_read_X7_free
set_option maxRecDepth 20000 in
theorem ggX7_read_X7_findRanks : GoodIn wsX7_read wsX7_findRanks := goodIn_r _ [13, 14, 15, 16, 17, 18, 69, 70, 71, 72, 73, 74, 75, 76, 77, 78, 79, 80, 81, 82, 83, 84, 85, 86, 87, 88, 89, 90, 91, 92, 93, 94, 95, 96, 97, 98, 99, 100, 101, 102, 103, 104, 105, 106, 107, 108, 109, 110, 111, 112, 113, 114, 115, 116, 117, 118, 119, 120, 121, 122, 123, 124, 125] (by decide +kernel) (by decide +kernel)
set_option maxRecDepth 20000 in
theorem gX7_read_X7_findRanks : GoodIn wsX7_read (wsV RX7 302 RX7 yX7_findRanks wsX7_findRanks) := goodIn_app (goodIn_of _ (by decide +kernel)) ggX7_read_X7_findRanks
set_option maxRecDepth 20000 in
theorem ggX7_read_X7_changes : GoodIn wsX7_read wsX7_changes := goodIn_r _ [22, 14, 23, 15, 3, 2, 24, 25, 26, 7, 27, 28, 29, 30, 31, 32, 33, 34, 35, 36, 37, 38, 16, 39, 40, 41, 42, 43, 44, 45, 46, 47, 48, 9, 49, 50, 51, 52, 53, 54, 55, 17, 18, 56, 57, 58, 59, 60, 61, 62, 63, 64, 65, 66, 67, 68, 69, 70, 71, 72, 73, 74, 75, 76, 77, 78, 79, 80, 81, 82, 83, 84, 85, 86, 87, 88, 89, 90, 91, 92, 93, 94, 95, 96, 97, 98, 99, 100, 101, 102, 103, 104, 105, 106, 107, 108, 109, 110, 111, 112, 113, 114, 115, 116, 117, 118, 119, 120, 121, 122, 123, 124, 125] (by decide +kernel) (by decide +kernel)
set_option maxRecDepth 20000 in
theorem gX7_read_X7_changes : GoodIn wsX7_read (wsV RX7 305 RX7 yX7_changes wsX7_changes) := goodIn_app (goodIn_of _ (by decide +kernel)) ggX7_read_X7_changes
theorem dX7_read_0 : decode cX7_read 0 = .ok (.aload_n 0, 1) := by decide +kernel
theorem dX7_read_1 : decode cX7_read 1 = .ok (.getfield 148, 3) := by decide +kernel
theorem dX7_read_4 : decode cX7_read 4 = .ok (.ifCond .eq 4, 3) := by decide +kernel
theorem dX7_read_7 : decode cX7_read 7 = .ok (.return_, 1) := by decide +kernel
theorem dX7_read_8 : decode cX7_read 8 = .ok (.aload_n 0, 1) := by decide +kernel
theorem dX7_read_9 : decode cX7_read 9 = .ok (.iconst 1, 1) := by decide +kernel
theorem dX7_read_10 : decode cX7_read 10 = .ok (.putfield 148, 3) := by decide +kernel
theorem dX7_read_13 : decode cX7_read 13 = .ok (.aload_n 0, 1) := by decide +kernel
theorem dX7_read_14 : decode cX7_read 14 = .ok (.invokevirtual 299, 3) := by decide +kernel
theorem dX7_read_17 : decode cX7_read 17 = .ok (.aload_n 0, 1) := by decide +kernel
theorem dX7_read_18 : decode cX7_read 18 = .ok (.invokevirtual 302, 3) := by decide +kernel
theorem dX7_read_21 : decode cX7_read 21 = .ok (.iconst 0, 1) := by decide +kernel
theorem dX7_read_22 : decode cX7_read 22 = .ok (.istore_n 1, 1) := by decide +kernel
theorem dX7_read_23 : decode cX7_read 23 = .ok (.iload_n 1, 1) := by decide +kernel
theorem dX7_read_24 : decode cX7_read 24 = .ok (.bipush 60, 2) := by decide +kernel
theorem dX7_read_26 : decode cX7_read 26 = .ok (.if_icmp .ge 23, 3) := by decide +kernel
theorem dX7_read_29 : decode cX7_read 29 = .ok (.aload_n 0, 1) := by decide +kernel
theorem dX7_read_30 : decode cX7_read 30 = .ok (.getfield 119, 3) := by decide +kernel
theorem dX7_read_33 : decode cX7_read 33 = .ok (.iload_n 1, 1) := by decide +kernel
theorem dX7_read_34 : decode cX7_read 34 = .ok (.iconst 1, 1) := by decide +kernel
theorem dX7_read_35 : decode cX7_read 35 = .ok (.bastore, 1) := by decide +kernel
theorem dX7_read_36 : decode cX7_read 36 = .ok (.aload_n 0, 1) := by decide +kernel
theorem dX7_read_37 : decode cX7_read 37 = .ok (.getfield 122, 3) := by decide +kernel
theorem dX7_read_40 : decode cX7_read 40 = .ok (.iload_n 1, 1) := by decide +kernel
theorem dX7_read_41 : decode cX7_read 41 = .ok (.iconst 0, 1) := by decide +kernel
theorem dX7_read_42 : decode cX7_read 42 = .ok (.bastore, 1) := by decide +kernel
theorem dX7_read_43 : decode cX7_read 43 = .ok (.iinc 1 1, 3) := by decide +kernel
theorem dX7_read_46 : decode cX7_read 46 = .ok (.goto (-23), 3) := by decide +kernel
theorem dX7_read_49 : decode cX7_read 49 = .ok (.iconst 0, 1) := by decide +kernel
theorem dX7_read_50 : decode cX7_read 50 = .ok (.istore_n 1, 1) := by decide +kernel
theorem dX7_read_51 : decode cX7_read 51 = .ok (.iload_n 1, 1) := by decide +kernel
theorem dX7_read_52 : decode cX7_read 52 = .ok (.bipush 7, 2) := by decide +kernel
theorem dX7_read_54 : decode cX7_read 54 = .ok (.if_icmp .ge 25, 3) := by decide +kernel
theorem dX7_read_57 : decode cX7_read 57 = .ok (.iconst 1, 1) := by decide +kernel
theorem dX7_read_58 : decode cX7_read 58 = .ok (.istore_n 2, 1) := by decide +kernel
theorem dX7_read_59 : decode cX7_read 59 = .ok (.iload_n 2, 1) := by decide +kernel
theorem dX7_read_60 : decode cX7_read 60 = .ok (.ifCond .eq 13, 3) := by decide +kernel
theorem dX7_read_63 : decode cX7_read 63 = .ok (.aload_n 0, 1) := by decide +kernel
theorem dX7_read_64 : decode cX7_read 64 = .ok (.iload_n 1, 1) := by decide +kernel
theorem dX7_read_65 : decode cX7_read 65 = .ok (.iconst 0, 1) := by decide +kernel
theorem dX7_read_66 : decode cX7_read 66 = .ok (.invokevirtual 305, 3) := by decide +kernel
theorem dX7_read_69 : decode cX7_read 69 = .ok (.istore_n 2, 1) := by decide +kernel
theorem dX7_read_70 : decode cX7_read 70 = .ok (.goto (-11), 3) := by decide +kernel
theorem dX7_read_73 : decode cX7_read 73 = .ok (.iinc 1 1, 3) := by decide +kernel
theorem dX7_read_76 : decode cX7_read 76 = .ok (.goto (-25), 3) := by decide +kernel
theorem dX7_read_79 : decode cX7_read 79 = .ok (.iconst 0, 1) := by decide +kernel
theorem dX7_read_80 : decode cX7_read 80 = .ok (.istore_n 1, 1) := by decide +kernel
theorem dX7_read_81 : decode cX7_read 81 = .ok (.iload_n 1, 1) := by decide +kernel
theorem dX7_read_82 : decode cX7_read 82 = .ok (.bipush 7, 2) := by decide +kernel
theorem dX7_read_84 : decode cX7_read 84 = .ok (.if_icmp .ge 25, 3) := by decide +kernel
theorem dX7_read_87 : decode cX7_read 87 = .ok (.iconst 1, 1) := by decide +kernel
theorem dX7_read_88 : decode cX7_read 88 = .ok (.istore_n 2, 1) := by decide +kernel
theorem dX7_read_89 : decode cX7_read 89 = .ok (.iload_n 2, 1) := by decide +kernel
theorem dX7_read_90 : decode cX7_read 90 = .ok (.ifCond .eq 13, 3) := by decide +kernel
theorem dX7_read_93 : decode cX7_read 93 = .ok (.aload_n 0, 1) := by decide +kernel
theorem dX7_read_94 : decode cX7_read 94 = .ok (.iload_n 1, 1) := by decide +kernel
theorem dX7_read_95 : decode cX7_read 95 = .ok (.iconst 1, 1) := by decide +kernel
theorem dX7_read_96 : decode cX7_read 96 = .ok (.invokevirtual 305, 3) := by decide +kernel
theorem dX7_read_99 : decode cX7_read 99 = .ok (.istore_n 2, 1) := by decide +kernel
theorem dX7_read_100 : decode cX7_read 100 = .ok (.goto (-11), 3) := by decide +kernel
theorem dX7_read_103 : decode cX7_read 103 = .ok (.iinc 1 1, 3) := by decide +kernel
theorem dX7_read_106 : decode cX7_read 106 = .ok (.goto (-25), 3) := by decide +kernel
theorem dX7_read_109 : decode cX7_read 109 = .ok (.return_, 1) := by decide +kernel
set_option maxRecDepth 20000 in
theorem ggX7_isShape_X7_in : GoodIn wsX7_isShape wsX7_in := goodIn_r _ [5] (by decide +kernel) (by decide +kernel)
set_option maxRecDepth 20000 in
theorem gX7_isShape_X7_in : GoodIn wsX7_isShape (va_wsS RX7 144 yX7_in wsX7_in) := goodIn_app (goodIn_of _ (by decide +kernel)) ggX7_isShape_X7_in
theorem dX7_isShape_0 : decode cX7_isShape 0 = .ok (.iload_n 1, 1) := by decide +kernel
theorem dX7_isShape_1 : decode cX7_isShape 1 = .ok (.i2l, 1) := by decide +kernel
theorem dX7_isShape_2 : decode cX7_isShape 2 = .ok (.lconst 0, 1) := by decide +kernel
theorem dX7_isShape_3 : decode cX7_isShape 3 = .ok (.aload_n 0, 1) := by decide +kernel
theorem dX7_isShape_4 : decode cX7_isShape 4 = .ok (.getfield 258, 3) := by decide +kernel
theorem dX7_isShape_7 : decode cX7_isShape 7 = .ok (.iconst 1, 1) := by decide +kernel
theorem dX7_isShape_8 : decode cX7_isShape 8 = .ok (.isub, 1) := by decide +kernel
theorem dX7_isShape_9 : decode cX7_isShape 9 = .ok (.i2l, 1) := by decide +kernel
theorem dX7_isShape_10 : decode cX7_isShape 10 = .ok (.invokestatic 144, 3) := by decide +kernel
theorem dX7_isShape_13 : decode cX7_isShape 13 = .ok (.ireturn, 1) := by decide +kernel
set_option maxRecDepth 20000 in
theorem ggX7_areBoth_X7_isNode : GoodIn wsX7_areBoth wsX7_isNode := goodIn_r _ [5, 6, 7, 8, 4, 9, 15, 16, 17, 18, 19, 20, 21, 22, 23, 24, 25, 26, 27, 28, 29, 30, 31, 32, 33, 34, 35, 36, 37, 38, 39, 40, 41, 42, 43, 44, 45, 46, 47, 48, 49, 50, 51, 52, 53, 54, 55, 56, 57, 58, 59, 60, 61, 62, 63, 64, 65, 66, 67, 68, 69, 70, 71] (by decide +kernel) (by decide +kernel)
set_option maxRecDepth 20000 in
theorem gX7_areBoth_X7_isNode : GoodIn wsX7_areBoth (wsV RX7 152 RX7 yX7_isNode wsX7_isNode) := goodIn_app (goodIn_of _ (by decide +kernel)) ggX7_areBoth_X7_isNode
set_option maxRecDepth 20000 in
theorem ggX7_areBoth_X7_isShape : GoodIn wsX7_areBoth wsX7_isShape := goodIn_r _ [13, 14, 7, 8, 4, 9, 15, 16, 17, 18, 19, 20, 21, 22, 23, 24, 25, 26, 27, 28, 29, 30, 31, 32, 33, 34, 35, 36, 37, 38, 39, 40, 41, 42, 43, 44, 45, 46, 47, 48, 49, 50, 51, 52, 53, 54, 55, 56, 57, 58, 59, 60, 61, 62, 63, 64, 65, 66, 67, 68, 69, 70, 71] (by decide +kernel) (by decide +kernel)
set_option maxRecDepth 20000 in
theorem gX7_areBoth_X7_isShape : GoodIn wsX7_areBoth (wsV RX7 309 RX7 yX7_isShape wsX7_isShape) := goodIn_app (goodIn_of _ (by decide +kernel)) ggX7_areBoth_X7_isShape
theorem dX7_areBoth_0 : decode cX7_areBoth 0 = .ok (.aload_n 0, 1) := by decide +kernel
theorem dX7_areBoth_1 : decode cX7_areBoth 1 = .ok (.iload_n 1, 1) := by decide +kernel
theorem dX7_areBoth_2 : decode cX7_areBoth 2 = .ok (.invokevirtual 152, 3) := by decide +kernel
theorem dX7_areBoth_5 : decode cX7_areBoth 5 = .ok (.ifCond .eq 15, 3) := by decide +kernel
theorem dX7_areBoth_8 : decode cX7_areBoth 8 = .ok (.aload_n 0, 1) := by decide +kernel
theorem dX7_areBoth_9 : decode cX7_areBoth 9 = .ok (.iload_n 2, 1) := by decide +kernel
theorem dX7_areBoth_10 : decode cX7_areBoth 10 = .ok (.invokevirtual 309, 3) := by decide +kernel
theorem dX7_areBoth_13 : decode cX7_areBoth 13 = .ok (.ifCond .eq 7, 3) := by decide +kernel
theorem dX7_areBoth_16 : decode cX7_areBoth 16 = .ok (.iconst 1, 1) := by decide +kernel
theorem dX7_areBoth_17 : decode cX7_areBoth 17 = .ok (.goto 4, 3) := by decide +kernel
theorem dX7_areBoth_20 : decode cX7_areBoth 20 = .ok (.iconst 0, 1) := by decide +kernel
theorem dX7_areBoth_21 : decode cX7_areBoth 21 = .ok (.ireturn, 1) := by decide +kernel
set_option maxRecDepth 20000 in
theorem ggX7_fits_X7_areBoth : GoodIn wsX7_fits wsX7_areBoth := goodIn_r _ [6, 7, 8, 9, 5, 10, 11, 12, 13, 14, 15, 16, 17, 18, 19, 85, 86, 87, 88, 89, 90, 91, 92, 93, 94, 95, 96, 97, 98, 99, 100, 101, 102, 103, 104, 105, 106, 107, 108, 109, 110, 111, 112, 113, 114, 115, 116, 117, 118, 119, 120, 121, 122, 123, 124, 125, 126, 127, 128, 129, 130, 131, 132, 133, 134, 135, 136, 137, 138, 139, 140, 141] (by decide +kernel) (by decide +kernel)
set_option maxRecDepth 20000 in
theorem gX7_fits_X7_areBoth : GoodIn wsX7_fits (wsV RX7 312 RX7 yX7_areBoth wsX7_areBoth) := goodIn_app (goodIn_of _ (by decide +kernel)) ggX7_fits_X7_areBoth
set_option maxRecDepth 20000 in
theorem ggX7_fits_X7_read : GoodIn wsX7_fits wsX7_read := goodIn_r _ [23, 24, 1, 25, 26, 27, 28, 5, 29, 30, 31, 32, 33, 34, 19, 35, 36, 37, 38, 39, 40, 41, 42, 11, 43, 44, 45, 46, 47, 48, 49, 50, 51, 52, 53, 54, 55, 56, 57, 58, 59, 60, 61, 62, 63, 64, 65, 66, 67, 68, 69, 70, 71, 72, 73, 74, 75, 76, 77, 12, 13, 14, 78, 79, 80, 81, 82, 83, 84, 85, 86, 87, 88, 89, 90, 91, 92, 93, 94, 95, 96, 97, 98, 99, 100, 101, 102, 103, 104, 105, 106, 107, 108, 109, 110, 111, 112, 113, 114, 115, 116, 117, 118, 119, 120, 121, 122, 123, 124, 125, 126, 127, 128, 129, 130, 131, 132, 133, 134, 135, 136, 137, 138, 139, 140, 141] (by decide +kernel) (by decide +kernel)
set_option maxRecDepth 20000 in
theorem gX7_fits_X7_read : GoodIn wsX7_fits (wsV RX7 315 RX7 yX7_read wsX7_read) := goodIn_app (goodIn_of _ (by decide +kernel)) ggX7_fits_X7_read
theorem dX7_fits_0 : decode cX7_fits 0 = .ok (.aload_n 0, 1) := by decide +kernel
theorem dX7_fits_1 : decode cX7_fits 1 = .ok (.iload_n 1, 1) := by decide +kernel
theorem dX7_fits_2 : decode cX7_fits 2 = .ok (.iload_n 2, 1) := by decide +kernel
theorem dX7_fits_3 : decode cX7_fits 3 = .ok (.invokevirtual 312, 3) := by decide +kernel
theorem dX7_fits_6 : decode cX7_fits 6 = .ok (.ifCond .ne 5, 3) := by decide +kernel
theorem dX7_fits_9 : decode cX7_fits 9 = .ok (.iconst (-1), 1) := by decide +kernel
theorem dX7_fits_10 : decode cX7_fits 10 = .ok (.ireturn, 1) := by decide +kernel
theorem dX7_fits_11 : decode cX7_fits 11 = .ok (.aload_n 0, 1) := by decide +kernel
theorem dX7_fits_12 : decode cX7_fits 12 = .ok (.invokevirtual 315, 3) := by decide +kernel
theorem dX7_fits_15 : decode cX7_fits 15 = .ok (.aload_n 0, 1) := by decide +kernel
theorem dX7_fits_16 : decode cX7_fits 16 = .ok (.getfield 119, 3) := by decide +kernel
theorem dX7_fits_19 : decode cX7_fits 19 = .ok (.bipush 10, 2) := by decide +kernel
theorem dX7_fits_21 : decode cX7_fits 21 = .ok (.iload_n 2, 1) := by decide +kernel
theorem dX7_fits_22 : decode cX7_fits 22 = .ok (.imul, 1) := by decide +kernel
theorem dX7_fits_23 : decode cX7_fits 23 = .ok (.iload_n 1, 1) := by decide +kernel
theorem dX7_fits_24 : decode cX7_fits 24 = .ok (.iadd, 1) := by decide +kernel
theorem dX7_fits_25 : decode cX7_fits 25 = .ok (.baload, 1) := by decide +kernel
theorem dX7_fits_26 : decode cX7_fits 26 = .ok (.ifCond .eq 7, 3) := by decide +kernel
theorem dX7_fits_29 : decode cX7_fits 29 = .ok (.iconst 1, 1) := by decide +kernel
theorem dX7_fits_30 : decode cX7_fits 30 = .ok (.goto 4, 3) := by decide +kernel
theorem dX7_fits_33 : decode cX7_fits 33 = .ok (.iconst 0, 1) := by decide +kernel
theorem dX7_fits_34 : decode cX7_fits 34 = .ok (.ireturn, 1) := by decide +kernel
set_option maxRecDepth 20000 in
theorem ggX7_surely_X7_areBoth : GoodIn wsX7_surely wsX7_areBoth := goodIn_r _ [6, 7, 8, 9, 5, 10, 11, 12, 13, 14, 15, 16, 17, 18, 19, 85, 86, 87, 88, 89, 90, 91, 92, 93, 94, 95, 96, 97, 98, 99, 100, 101, 102, 103, 104, 105, 106, 107, 108, 109, 110, 111, 112, 113, 114, 115, 116, 117, 118, 119, 120, 121, 122, 123, 124, 125, 126, 127, 128, 129, 130, 131, 132, 133, 134, 135, 136, 137, 138, 139, 140, 141] (by decide +kernel) (by decide +kernel)
set_option maxRecDepth 20000 in
theorem gX7_surely_X7_areBoth : GoodIn wsX7_surely (wsV RX7 312 RX7 yX7_areBoth wsX7_areBoth) := goodIn_app (goodIn_of _ (by decide +kernel)) ggX7_surely_X7_areBoth
set_option maxRecDepth 20000 in
theorem ggX7_surely_X7_read : GoodIn wsX7_surely wsX7_read := goodIn_r _ [23, 24, 25, 1, 26, 27, 28, 5, 29, 30, 31, 32, 33, 34, 19, 35, 36, 37, 38, 39, 40, 41, 42, 11, 43, 44, 45, 46, 47, 48, 49, 50, 51, 52, 53, 54, 55, 56, 57, 58, 59, 60, 61, 62, 63, 64, 65, 66, 67, 68, 69, 70, 71, 72, 73, 74, 75, 76, 77, 12, 13, 14, 78, 79, 80, 81, 82, 83, 84, 85, 86, 87, 88, 89, 90, 91, 92, 93, 94, 95, 96, 97, 98, 99, 100, 101, 102, 103, 104, 105, 106, 107, 108, 109, 110, 111, 112, 113, 114, 115, 116, 117, 118, 119, 120, 121, 122, 123, 124, 125, 126, 127, 128, 129, 130, 131, 132, 133, 134, 135, 136, 137, 138, 139, 140, 141] (by decide +kernel) (by decide +kernel)
set_option maxRecDepth 20000 in
theorem gX7_surely_X7_read : GoodIn wsX7_surely (wsV RX7 315 RX7 yX7_read wsX7_read) := goodIn_app (goodIn_of _ (by decide +kernel)) ggX7_surely_X7_read
theorem dX7_surely_0 : decode cX7_surely 0 = .ok (.aload_n 0, 1) := by decide +kernel
theorem dX7_surely_1 : decode cX7_surely 1 = .ok (.iload_n 1, 1) := by decide +kernel
theorem dX7_surely_2 : decode cX7_surely 2 = .ok (.iload_n 2, 1) := by decide +kernel
theorem dX7_surely_3 : decode cX7_surely 3 = .ok (.invokevirtual 312, 3) := by decide +kernel
theorem dX7_surely_6 : decode cX7_surely 6 = .ok (.ifCond .ne 5, 3) := by decide +kernel
theorem dX7_surely_9 : decode cX7_surely 9 = .ok (.iconst (-1), 1) := by decide +kernel
theorem dX7_surely_10 : decode cX7_surely 10 = .ok (.ireturn, 1) := by decide +kernel
theorem dX7_surely_11 : decode cX7_surely 11 = .ok (.aload_n 0, 1) := by decide +kernel
theorem dX7_surely_12 : decode cX7_surely 12 = .ok (.invokevirtual 315, 3) := by decide +kernel
theorem dX7_surely_15 : decode cX7_surely 15 = .ok (.aload_n 0, 1) := by decide +kernel
theorem dX7_surely_16 : decode cX7_surely 16 = .ok (.getfield 122, 3) := by decide +kernel
theorem dX7_surely_19 : decode cX7_surely 19 = .ok (.bipush 10, 2) := by decide +kernel
theorem dX7_surely_21 : decode cX7_surely 21 = .ok (.iload_n 2, 1) := by decide +kernel
theorem dX7_surely_22 : decode cX7_surely 22 = .ok (.imul, 1) := by decide +kernel
theorem dX7_surely_23 : decode cX7_surely 23 = .ok (.iload_n 1, 1) := by decide +kernel
theorem dX7_surely_24 : decode cX7_surely 24 = .ok (.iadd, 1) := by decide +kernel
theorem dX7_surely_25 : decode cX7_surely 25 = .ok (.baload, 1) := by decide +kernel
theorem dX7_surely_26 : decode cX7_surely 26 = .ok (.ifCond .eq 7, 3) := by decide +kernel
theorem dX7_surely_29 : decode cX7_surely 29 = .ok (.iconst 1, 1) := by decide +kernel
theorem dX7_surely_30 : decode cX7_surely 30 = .ok (.goto 4, 3) := by decide +kernel
theorem dX7_surely_33 : decode cX7_surely 33 = .ok (.iconst 0, 1) := by decide +kernel
theorem dX7_surely_34 : decode cX7_surely 34 = .ok (.ireturn, 1) := by decide +kernel
set_option maxRecDepth 20000 in
theorem ggX7_all_X7_isShape : GoodIn wsX7_all wsX7_isShape := goodIn_r _ [7, 8, 9, 10, 6, 11, 77, 78, 79, 80, 81, 82, 83, 84, 85, 86, 87, 88, 89, 90, 91, 92, 93, 94, 95, 96, 97, 98, 99, 100, 101, 102, 103, 104, 105, 106, 107, 108, 109, 110, 111, 112, 113, 114, 115, 116, 117, 118, 119, 120, 121, 122, 123, 124, 125, 126, 127, 128, 129, 130, 131, 132, 133] (by decide +kernel) (by decide +kernel)
set_option maxRecDepth 20000 in
theorem gX7_all_X7_isShape : GoodIn wsX7_all (wsV RX7 309 RX7 yX7_isShape wsX7_isShape) := goodIn_app (goodIn_of _ (by decide +kernel)) ggX7_all_X7_isShape
set_option maxRecDepth 20000 in
theorem ggX7_all_X7_read : GoodIn wsX7_all wsX7_read := goodIn_r _ [15, 16, 2, 17, 18, 19, 20, 6, 21, 22, 23, 24, 25, 26, 8, 27, 28, 29, 30, 31, 32, 33, 34, 1, 35, 36, 37, 38, 39, 40, 41, 42, 43, 44, 45, 46, 47, 48, 49, 50, 51, 52, 53, 54, 55, 56, 57, 58, 59, 60, 61, 62, 63, 64, 65, 66, 67, 68, 69, 9, 10, 11, 70, 71, 72, 73, 74, 75, 76, 77, 78, 79, 80, 81, 82, 83, 84, 85, 86, 87, 88, 89, 90, 91, 92, 93, 94, 95, 96, 97, 98, 99, 100, 101, 102, 103, 104, 105, 106, 107, 108, 109, 110, 111, 112, 113, 114, 115, 116, 117, 118, 119, 120, 121, 122, 123, 124, 125, 126, 127, 128, 129, 130, 131, 132, 133] (by decide +kernel) (by decide +kernel)
set_option maxRecDepth 20000 in
theorem gX7_all_X7_read : GoodIn wsX7_all (wsV RX7 315 RX7 yX7_read wsX7_read) := goodIn_app (goodIn_of _ (by decide +kernel)) ggX7_all_X7_read
theorem dX7_all_0 : decode cX7_all 0 = .ok (.aload_n 0, 1) := by decide +kernel
theorem dX7_all_1 : decode cX7_all 1 = .ok (.iload_n 1, 1) := by decide +kernel
theorem dX7_all_2 : decode cX7_all 2 = .ok (.invokevirtual 309, 3) := by decide +kernel
theorem dX7_all_5 : decode cX7_all 5 = .ok (.ifCond .ne 5, 3) := by decide +kernel
theorem dX7_all_8 : decode cX7_all 8 = .ok (.iconst (-1), 1) := by decide +kernel
theorem dX7_all_9 : decode cX7_all 9 = .ok (.ireturn, 1) := by decide +kernel
theorem dX7_all_10 : decode cX7_all 10 = .ok (.aload_n 0, 1) := by decide +kernel
theorem dX7_all_11 : decode cX7_all 11 = .ok (.invokevirtual 315, 3) := by decide +kernel
theorem dX7_all_14 : decode cX7_all 14 = .ok (.iconst 0, 1) := by decide +kernel
theorem dX7_all_15 : decode cX7_all 15 = .ok (.istore_n 2, 1) := by decide +kernel
theorem dX7_all_16 : decode cX7_all 16 = .ok (.iconst 0, 1) := by decide +kernel
theorem dX7_all_17 : decode cX7_all 17 = .ok (.istore_n 3, 1) := by decide +kernel
theorem dX7_all_18 : decode cX7_all 18 = .ok (.iload_n 3, 1) := by decide +kernel
theorem dX7_all_19 : decode cX7_all 19 = .ok (.aload_n 0, 1) := by decide +kernel
theorem dX7_all_20 : decode cX7_all 20 = .ok (.getfield 140, 3) := by decide +kernel
theorem dX7_all_23 : decode cX7_all 23 = .ok (.if_icmp .ge 33, 3) := by decide +kernel
theorem dX7_all_26 : decode cX7_all 26 = .ok (.iload_n 2, 1) := by decide +kernel
theorem dX7_all_27 : decode cX7_all 27 = .ok (.aload_n 0, 1) := by decide +kernel
theorem dX7_all_28 : decode cX7_all 28 = .ok (.getfield 119, 3) := by decide +kernel
theorem dX7_all_31 : decode cX7_all 31 = .ok (.bipush 10, 2) := by decide +kernel
theorem dX7_all_33 : decode cX7_all 33 = .ok (.iload_n 1, 1) := by decide +kernel
theorem dX7_all_34 : decode cX7_all 34 = .ok (.imul, 1) := by decide +kernel
theorem dX7_all_35 : decode cX7_all 35 = .ok (.iload_n 3, 1) := by decide +kernel
theorem dX7_all_36 : decode cX7_all 36 = .ok (.iadd, 1) := by decide +kernel
theorem dX7_all_37 : decode cX7_all 37 = .ok (.baload, 1) := by decide +kernel
theorem dX7_all_38 : decode cX7_all 38 = .ok (.ifCond .eq 9, 3) := by decide +kernel
theorem dX7_all_41 : decode cX7_all 41 = .ok (.iconst 1, 1) := by decide +kernel
theorem dX7_all_42 : decode cX7_all 42 = .ok (.iload_n 3, 1) := by decide +kernel
theorem dX7_all_43 : decode cX7_all 43 = .ok (.ishl, 1) := by decide +kernel
theorem dX7_all_44 : decode cX7_all 44 = .ok (.goto 4, 3) := by decide +kernel
theorem dX7_all_47 : decode cX7_all 47 = .ok (.iconst 0, 1) := by decide +kernel
theorem dX7_all_48 : decode cX7_all 48 = .ok (.iadd, 1) := by decide +kernel
theorem dX7_all_49 : decode cX7_all 49 = .ok (.istore_n 2, 1) := by decide +kernel
theorem dX7_all_50 : decode cX7_all 50 = .ok (.iinc 3 1, 3) := by decide +kernel
theorem dX7_all_53 : decode cX7_all 53 = .ok (.goto (-35), 3) := by decide +kernel
theorem dX7_all_56 : decode cX7_all 56 = .ok (.iload_n 2, 1) := by decide +kernel
theorem dX7_all_57 : decode cX7_all 57 = .ok (.ireturn, 1) := by decide +kernel
set_option maxRecDepth 20000 in
theorem ggX7_wanted_X7_areBoth : GoodIn wsX7_wanted wsX7_areBoth := goodIn_r _ [7, 8, 9, 10, 6, 11, 12, 13, 14, 15, 16, 17, 18, 19, 20, 27, 28, 29, 30, 31, 32, 33, 34, 35, 36, 37, 38, 39, 40, 41, 42, 43, 44, 45, 46, 47, 48, 49, 50, 51, 52, 53, 54, 55, 56, 57, 58, 59, 60, 61, 62, 63, 64, 65, 66, 67, 68, 69, 70, 71, 72, 73, 74, 75, 76, 77, 78, 79, 80, 81, 82, 83] (by decide +kernel) (by decide +kernel)
set_option maxRecDepth 20000 in
theorem gX7_wanted_X7_areBoth : GoodIn wsX7_wanted (wsV RX7 312 RX7 yX7_areBoth wsX7_areBoth) := goodIn_app (goodIn_of _ (by decide +kernel)) ggX7_wanted_X7_areBoth
set_option maxRecDepth 20000 in
theorem ggX7_wanted_X7_isWanted : GoodIn wsX7_wanted wsX7_isWanted := goodIn_r _ [24, 25, 26, 27, 28, 29, 30, 31, 32, 33, 34, 35, 36, 37, 38, 39, 40, 41, 42, 43, 44, 45, 46, 47, 48, 49, 50, 51, 52, 53, 54, 55, 56, 57, 58, 59, 60, 61, 62, 63, 64, 65, 66, 67, 68, 69, 70, 71, 72, 73, 74, 75, 76, 77, 78, 79, 80, 81, 82, 83] (by decide +kernel) (by decide +kernel)
set_option maxRecDepth 20000 in
theorem gX7_wanted_X7_isWanted : GoodIn wsX7_wanted (wsV RX7 284 RX7 yX7_isWanted wsX7_isWanted) := goodIn_app (goodIn_of _ (by decide +kernel)) ggX7_wanted_X7_isWanted
theorem dX7_wanted_0 : decode cX7_wanted 0 = .ok (.aload_n 0, 1) := by decide +kernel
theorem dX7_wanted_1 : decode cX7_wanted 1 = .ok (.iload_n 1, 1) := by decide +kernel
theorem dX7_wanted_2 : decode cX7_wanted 2 = .ok (.iload_n 2, 1) := by decide +kernel
theorem dX7_wanted_3 : decode cX7_wanted 3 = .ok (.invokevirtual 312, 3) := by decide +kernel
theorem dX7_wanted_6 : decode cX7_wanted 6 = .ok (.ifCond .ne 5, 3) := by decide +kernel
theorem dX7_wanted_9 : decode cX7_wanted 9 = .ok (.iconst (-1), 1) := by decide +kernel
theorem dX7_wanted_10 : decode cX7_wanted 10 = .ok (.ireturn, 1) := by decide +kernel
theorem dX7_wanted_11 : decode cX7_wanted 11 = .ok (.iconst 0, 1) := by decide +kernel
theorem dX7_wanted_12 : decode cX7_wanted 12 = .ok (.istore_n 3, 1) := by decide +kernel
theorem dX7_wanted_13 : decode cX7_wanted 13 = .ok (.iconst 0, 1) := by decide +kernel
theorem dX7_wanted_14 : decode cX7_wanted 14 = .ok (.istore 4, 2) := by decide +kernel
theorem dX7_wanted_16 : decode cX7_wanted 16 = .ok (.iload 4, 2) := by decide +kernel
theorem dX7_wanted_18 : decode cX7_wanted 18 = .ok (.aload_n 0, 1) := by decide +kernel
theorem dX7_wanted_19 : decode cX7_wanted 19 = .ok (.getfield 17, 3) := by decide +kernel
theorem dX7_wanted_22 : decode cX7_wanted 22 = .ok (.iload_n 1, 1) := by decide +kernel
theorem dX7_wanted_23 : decode cX7_wanted 23 = .ok (.iaload, 1) := by decide +kernel
theorem dX7_wanted_24 : decode cX7_wanted 24 = .ok (.if_icmp .ge 36, 3) := by decide +kernel
theorem dX7_wanted_27 : decode cX7_wanted 27 = .ok (.iload_n 3, 1) := by decide +kernel
theorem dX7_wanted_28 : decode cX7_wanted 28 = .ok (.aload_n 0, 1) := by decide +kernel
theorem dX7_wanted_29 : decode cX7_wanted 29 = .ok (.iload_n 2, 1) := by decide +kernel
theorem dX7_wanted_30 : decode cX7_wanted 30 = .ok (.aload_n 0, 1) := by decide +kernel
theorem dX7_wanted_31 : decode cX7_wanted 31 = .ok (.getfield 20, 3) := by decide +kernel
theorem dX7_wanted_34 : decode cX7_wanted 34 = .ok (.iconst 5, 1) := by decide +kernel
theorem dX7_wanted_35 : decode cX7_wanted 35 = .ok (.iload_n 1, 1) := by decide +kernel
theorem dX7_wanted_36 : decode cX7_wanted 36 = .ok (.imul, 1) := by decide +kernel
theorem dX7_wanted_37 : decode cX7_wanted 37 = .ok (.iload 4, 2) := by decide +kernel
theorem dX7_wanted_39 : decode cX7_wanted 39 = .ok (.iadd, 1) := by decide +kernel
theorem dX7_wanted_40 : decode cX7_wanted 40 = .ok (.iaload, 1) := by decide +kernel
theorem dX7_wanted_41 : decode cX7_wanted 41 = .ok (.invokevirtual 284, 3) := by decide +kernel
theorem dX7_wanted_44 : decode cX7_wanted 44 = .ok (.ifCond .eq 7, 3) := by decide +kernel
theorem dX7_wanted_47 : decode cX7_wanted 47 = .ok (.iconst 1, 1) := by decide +kernel
theorem dX7_wanted_48 : decode cX7_wanted 48 = .ok (.goto 4, 3) := by decide +kernel
theorem dX7_wanted_51 : decode cX7_wanted 51 = .ok (.iconst 0, 1) := by decide +kernel
theorem dX7_wanted_52 : decode cX7_wanted 52 = .ok (.iadd, 1) := by decide +kernel
theorem dX7_wanted_53 : decode cX7_wanted 53 = .ok (.istore_n 3, 1) := by decide +kernel
theorem dX7_wanted_54 : decode cX7_wanted 54 = .ok (.iinc 4 1, 3) := by decide +kernel
theorem dX7_wanted_57 : decode cX7_wanted 57 = .ok (.goto (-41), 3) := by decide +kernel
theorem dX7_wanted_60 : decode cX7_wanted 60 = .ok (.iload_n 3, 1) := by decide +kernel
theorem dX7_wanted_61 : decode cX7_wanted 61 = .ok (.ireturn, 1) := by decide +kernel
set_option maxRecDepth 20000 in
theorem ggX7_dealt_X7_areBoth : GoodIn wsX7_dealt wsX7_areBoth := goodIn_r _ [9, 10, 11, 12, 8, 13, 14, 15, 16, 17, 18, 19, 20, 21, 22, 85, 86, 87, 88, 89, 90, 91, 92, 93, 94, 95, 96, 97, 98, 99, 100, 101, 102, 103, 104, 105, 106, 107, 108, 109, 110, 111, 112, 113, 114, 115, 116, 117, 118, 119, 120, 121, 122, 123, 124, 125, 126, 127, 128, 129, 130, 131, 132, 133, 134, 135, 136, 137, 138, 139, 140, 141] (by decide +kernel) (by decide +kernel)
set_option maxRecDepth 20000 in
theorem gX7_dealt_X7_areBoth : GoodIn wsX7_dealt (wsV RX7 312 RX7 yX7_areBoth wsX7_areBoth) := goodIn_app (goodIn_of _ (by decide +kernel)) ggX7_dealt_X7_areBoth
set_option maxRecDepth 20000 in
theorem ggX7_dealt_X7_in : GoodIn wsX7_dealt wsX7_in := goodIn_r _ [17] (by decide +kernel) (by decide +kernel)
set_option maxRecDepth 20000 in
theorem gX7_dealt_X7_in : GoodIn wsX7_dealt (va_wsS RX7 144 yX7_in wsX7_in) := goodIn_app (goodIn_of _ (by decide +kernel)) ggX7_dealt_X7_in
set_option maxRecDepth 20000 in
theorem ggX7_dealt_X7_read : GoodIn wsX7_dealt wsX7_read := goodIn_r _ [26, 27, 2, 28, 29, 30, 31, 8, 32, 4, 33, 34, 35, 36, 22, 37, 38, 39, 40, 41, 42, 43, 44, 14, 45, 46, 47, 48, 49, 1, 50, 51, 52, 53, 3, 54, 55, 56, 57, 58, 59, 60, 61, 62, 63, 64, 65, 66, 67, 68, 69, 70, 71, 72, 73, 74, 75, 76, 77, 15, 16, 17, 78, 79, 80, 81, 82, 83, 84, 85, 86, 87, 88, 89, 90, 91, 92, 93, 94, 95, 96, 97, 98, 99, 100, 101, 102, 103, 104, 105, 106, 107, 108, 109, 110, 111, 112, 113, 114, 115, 116, 117, 118, 119, 120, 121, 122, 123, 124, 125, 126, 127, 128, 129, 130, 131, 132, 133, 134, 135, 136, 137, 138, 139, 140, 141] (by decide +kernel) (by decide +kernel)
set_option maxRecDepth 20000 in
theorem gX7_dealt_X7_read : GoodIn wsX7_dealt (wsV RX7 315 RX7 yX7_read wsX7_read) := goodIn_app (goodIn_of _ (by decide +kernel)) ggX7_dealt_X7_read
set_option maxRecDepth 20000 in
theorem ggX7_dealt_X7_isWanted : GoodIn wsX7_dealt wsX7_isWanted := goodIn_r _ [57, 38, 58, 85, 86, 87, 88, 89, 90, 91, 92, 93, 94, 95, 96, 97, 98, 99, 100, 101, 102, 103, 104, 105, 106, 107, 108, 109, 110, 111, 112, 113, 114, 115, 116, 117, 118, 119, 120, 121, 122, 123, 124, 125, 126, 127, 128, 129, 130, 131, 132, 133, 134, 135, 136, 137, 138, 139, 140, 141] (by decide +kernel) (by decide +kernel)
set_option maxRecDepth 20000 in
theorem gX7_dealt_X7_isWanted : GoodIn wsX7_dealt (wsV RX7 284 RX7 yX7_isWanted wsX7_isWanted) := goodIn_app (goodIn_of _ (by decide +kernel)) ggX7_dealt_X7_isWanted
set_option maxRecDepth 20000 in
theorem ggX7_dealt_X7_free : GoodIn wsX7_dealt wsX7_free := goodIn_r _ [32, 4, 85, 86, 87, 88, 89, 90, 91, 92, 93, 94, 95, 96, 97, 98, 99, 100, 101, 102, 103, 104, 105, 106, 107, 108, 109, 110, 111, 112, 113, 114, 115, 116, 117, 118, 119, 120, 121, 122, 123, 124, 125, 126, 127, 128, 129, 130, 131, 132, 133, 134, 135, 136, 137, 138, 139, 140, 141] (by decide +kernel) (by decide +kernel)
set_option maxRecDepth 20000 in
theorem gX7_dealt_X7_free : GoodIn wsX7_dealt (wsV RX7 299 RX7 yX7_free wsX7_free) := goodIn_app (goodIn_of _ (by decide +kernel)) ggX7_dealt_X7_free
set_option maxRecDepth 20000 in
theorem ggX7_dealt_X7_can : GoodIn wsX7_dealt wsX7_can := goodIn_r _ [48, 49, 1, 50, 51, 52, 8, 53, 3, 54, 55, 56, 57, 38, 58, 59, 60, 61, 62, 63, 64, 65, 66, 67, 4, 68, 69, 70, 71, 72, 73, 74, 39, 28, 40, 2, 75, 76, 77, 15, 16, 17, 78, 79, 80, 81, 82, 83, 84, 85, 86, 87, 88, 89, 90, 91, 92, 93, 94, 95, 96, 97, 98, 99, 100, 101, 102, 103, 104, 105, 106, 107, 108, 109, 110, 111, 112, 113, 114, 115, 116, 117, 118, 119, 120, 121, 122, 123, 124, 125, 126, 127, 128, 129, 130, 131, 132, 133, 134, 135, 136, 137, 138, 139, 140, 141] (by decide +kernel) (by decide +kernel)
set_option maxRecDepth 20000 in
theorem gX7_dealt_X7_can : GoodIn wsX7_dealt (wsV RX7 295 RX7 yX7_can wsX7_can) := goodIn_app (goodIn_of _ (by decide +kernel)) ggX7_dealt_X7_can
theorem dX7_dealt_0 : decode cX7_dealt 0 = .ok (.aload_n 0, 1) := by decide +kernel
theorem dX7_dealt_1 : decode cX7_dealt 1 = .ok (.iload_n 1, 1) := by decide +kernel
theorem dX7_dealt_2 : decode cX7_dealt 2 = .ok (.iload_n 2, 1) := by decide +kernel
theorem dX7_dealt_3 : decode cX7_dealt 3 = .ok (.invokevirtual 312, 3) := by decide +kernel
theorem dX7_dealt_6 : decode cX7_dealt 6 = .ok (.ifCond .eq 21, 3) := by decide +kernel
theorem dX7_dealt_9 : decode cX7_dealt 9 = .ok (.iload_n 3, 1) := by decide +kernel
theorem dX7_dealt_10 : decode cX7_dealt 10 = .ok (.i2l, 1) := by decide +kernel
theorem dX7_dealt_11 : decode cX7_dealt 11 = .ok (.lconst 0, 1) := by decide +kernel
theorem dX7_dealt_12 : decode cX7_dealt 12 = .ok (.aload_n 0, 1) := by decide +kernel
theorem dX7_dealt_13 : decode cX7_dealt 13 = .ok (.getfield 17, 3) := by decide +kernel
theorem dX7_dealt_16 : decode cX7_dealt 16 = .ok (.iload_n 1, 1) := by decide +kernel
theorem dX7_dealt_17 : decode cX7_dealt 17 = .ok (.iaload, 1) := by decide +kernel
theorem dX7_dealt_18 : decode cX7_dealt 18 = .ok (.iconst 1, 1) := by decide +kernel
theorem dX7_dealt_19 : decode cX7_dealt 19 = .ok (.isub, 1) := by decide +kernel
theorem dX7_dealt_20 : decode cX7_dealt 20 = .ok (.i2l, 1) := by decide +kernel
theorem dX7_dealt_21 : decode cX7_dealt 21 = .ok (.invokestatic 144, 3) := by decide +kernel
theorem dX7_dealt_24 : decode cX7_dealt 24 = .ok (.ifCond .ne 5, 3) := by decide +kernel
theorem dX7_dealt_27 : decode cX7_dealt 27 = .ok (.iconst (-1), 1) := by decide +kernel
theorem dX7_dealt_28 : decode cX7_dealt 28 = .ok (.ireturn, 1) := by decide +kernel
theorem dX7_dealt_29 : decode cX7_dealt 29 = .ok (.aload_n 0, 1) := by decide +kernel
theorem dX7_dealt_30 : decode cX7_dealt 30 = .ok (.invokevirtual 315, 3) := by decide +kernel
theorem dX7_dealt_33 : decode cX7_dealt 33 = .ok (.aload_n 0, 1) := by decide +kernel
theorem dX7_dealt_34 : decode cX7_dealt 34 = .ok (.getfield 119, 3) := by decide +kernel
theorem dX7_dealt_37 : decode cX7_dealt 37 = .ok (.bipush 10, 2) := by decide +kernel
theorem dX7_dealt_39 : decode cX7_dealt 39 = .ok (.iload_n 2, 1) := by decide +kernel
theorem dX7_dealt_40 : decode cX7_dealt 40 = .ok (.imul, 1) := by decide +kernel
theorem dX7_dealt_41 : decode cX7_dealt 41 = .ok (.iload_n 1, 1) := by decide +kernel
theorem dX7_dealt_42 : decode cX7_dealt 42 = .ok (.iadd, 1) := by decide +kernel
theorem dX7_dealt_43 : decode cX7_dealt 43 = .ok (.baload, 1) := by decide +kernel
theorem dX7_dealt_44 : decode cX7_dealt 44 = .ok (.ifCond .ne 6, 3) := by decide +kernel
theorem dX7_dealt_47 : decode cX7_dealt 47 = .ok (.bipush (-2), 2) := by decide +kernel
theorem dX7_dealt_49 : decode cX7_dealt 49 = .ok (.ireturn, 1) := by decide +kernel
theorem dX7_dealt_50 : decode cX7_dealt 50 = .ok (.aload_n 0, 1) := by decide +kernel
theorem dX7_dealt_51 : decode cX7_dealt 51 = .ok (.iload_n 2, 1) := by decide +kernel
theorem dX7_dealt_52 : decode cX7_dealt 52 = .ok (.aload_n 0, 1) := by decide +kernel
theorem dX7_dealt_53 : decode cX7_dealt 53 = .ok (.getfield 20, 3) := by decide +kernel
theorem dX7_dealt_56 : decode cX7_dealt 56 = .ok (.iconst 5, 1) := by decide +kernel
theorem dX7_dealt_57 : decode cX7_dealt 57 = .ok (.iload_n 1, 1) := by decide +kernel
theorem dX7_dealt_58 : decode cX7_dealt 58 = .ok (.imul, 1) := by decide +kernel
theorem dX7_dealt_59 : decode cX7_dealt 59 = .ok (.iload_n 3, 1) := by decide +kernel
theorem dX7_dealt_60 : decode cX7_dealt 60 = .ok (.iadd, 1) := by decide +kernel
theorem dX7_dealt_61 : decode cX7_dealt 61 = .ok (.iaload, 1) := by decide +kernel
theorem dX7_dealt_62 : decode cX7_dealt 62 = .ok (.invokevirtual 284, 3) := by decide +kernel
theorem dX7_dealt_65 : decode cX7_dealt 65 = .ok (.ifCond .ne 6, 3) := by decide +kernel
theorem dX7_dealt_68 : decode cX7_dealt 68 = .ok (.bipush (-4), 2) := by decide +kernel
theorem dX7_dealt_70 : decode cX7_dealt 70 = .ok (.ireturn, 1) := by decide +kernel
theorem dX7_dealt_71 : decode cX7_dealt 71 = .ok (.aload_n 0, 1) := by decide +kernel
theorem dX7_dealt_72 : decode cX7_dealt 72 = .ok (.invokevirtual 299, 3) := by decide +kernel
theorem dX7_dealt_75 : decode cX7_dealt 75 = .ok (.iconst 0, 1) := by decide +kernel
theorem dX7_dealt_76 : decode cX7_dealt 76 = .ok (.istore 4, 2) := by decide +kernel
theorem dX7_dealt_78 : decode cX7_dealt 78 = .ok (.iload 4, 2) := by decide +kernel
theorem dX7_dealt_80 : decode cX7_dealt 80 = .ok (.iload_n 3, 1) := by decide +kernel
theorem dX7_dealt_81 : decode cX7_dealt 81 = .ok (.if_icmp .gt 63, 3) := by decide +kernel
theorem dX7_dealt_84 : decode cX7_dealt 84 = .ok (.aload_n 0, 1) := by decide +kernel
theorem dX7_dealt_85 : decode cX7_dealt 85 = .ok (.iload_n 2, 1) := by decide +kernel
theorem dX7_dealt_86 : decode cX7_dealt 86 = .ok (.aload_n 0, 1) := by decide +kernel
theorem dX7_dealt_87 : decode cX7_dealt 87 = .ok (.getfield 20, 3) := by decide +kernel
theorem dX7_dealt_90 : decode cX7_dealt 90 = .ok (.iconst 5, 1) := by decide +kernel
theorem dX7_dealt_91 : decode cX7_dealt 91 = .ok (.iload_n 1, 1) := by decide +kernel
theorem dX7_dealt_92 : decode cX7_dealt 92 = .ok (.imul, 1) := by decide +kernel
theorem dX7_dealt_93 : decode cX7_dealt 93 = .ok (.iload 4, 2) := by decide +kernel
theorem dX7_dealt_95 : decode cX7_dealt 95 = .ok (.iadd, 1) := by decide +kernel
theorem dX7_dealt_96 : decode cX7_dealt 96 = .ok (.iaload, 1) := by decide +kernel
theorem dX7_dealt_97 : decode cX7_dealt 97 = .ok (.invokevirtual 284, 3) := by decide +kernel
theorem dX7_dealt_100 : decode cX7_dealt 100 = .ok (.ifCond .eq 38, 3) := by decide +kernel
theorem dX7_dealt_103 : decode cX7_dealt 103 = .ok (.aload_n 0, 1) := by decide +kernel
theorem dX7_dealt_104 : decode cX7_dealt 104 = .ok (.getfield 125, 3) := by decide +kernel
theorem dX7_dealt_107 : decode cX7_dealt 107 = .ok (.iload 4, 2) := by decide +kernel
theorem dX7_dealt_109 : decode cX7_dealt 109 = .ok (.bipush 6, 2) := by decide +kernel
theorem dX7_dealt_111 : decode cX7_dealt 111 = .ok (.iload_n 2, 1) := by decide +kernel
theorem dX7_dealt_112 : decode cX7_dealt 112 = .ok (.imul, 1) := by decide +kernel
theorem dX7_dealt_113 : decode cX7_dealt 113 = .ok (.iastore, 1) := by decide +kernel
theorem dX7_dealt_114 : decode cX7_dealt 114 = .ok (.aload_n 0, 1) := by decide +kernel
theorem dX7_dealt_115 : decode cX7_dealt 115 = .ok (.iload_n 2, 1) := by decide +kernel
theorem dX7_dealt_116 : decode cX7_dealt 116 = .ok (.iload_n 1, 1) := by decide +kernel
theorem dX7_dealt_117 : decode cX7_dealt 117 = .ok (.iconst 0, 1) := by decide +kernel
theorem dX7_dealt_118 : decode cX7_dealt 118 = .ok (.invokevirtual 295, 3) := by decide +kernel
theorem dX7_dealt_121 : decode cX7_dealt 121 = .ok (.ifCond .ne 17, 3) := by decide +kernel
theorem dX7_dealt_124 : decode cX7_dealt 124 = .ok (.aload_n 0, 1) := by decide +kernel
theorem dX7_dealt_125 : decode cX7_dealt 125 = .ok (.getfield 125, 3) := by decide +kernel
theorem dX7_dealt_128 : decode cX7_dealt 128 = .ok (.iload 4, 2) := by decide +kernel
theorem dX7_dealt_130 : decode cX7_dealt 130 = .ok (.dup2, 1) := by decide +kernel
theorem dX7_dealt_131 : decode cX7_dealt 131 = .ok (.iaload, 1) := by decide +kernel
theorem dX7_dealt_132 : decode cX7_dealt 132 = .ok (.iconst 1, 1) := by decide +kernel
theorem dX7_dealt_133 : decode cX7_dealt 133 = .ok (.iadd, 1) := by decide +kernel
theorem dX7_dealt_134 : decode cX7_dealt 134 = .ok (.iastore, 1) := by decide +kernel
theorem dX7_dealt_135 : decode cX7_dealt 135 = .ok (.goto (-21), 3) := by decide +kernel
theorem dX7_dealt_138 : decode cX7_dealt 138 = .ok (.iinc 4 1, 3) := by decide +kernel
theorem dX7_dealt_141 : decode cX7_dealt 141 = .ok (.goto (-63), 3) := by decide +kernel
theorem dX7_dealt_144 : decode cX7_dealt 144 = .ok (.aload_n 0, 1) := by decide +kernel
theorem dX7_dealt_145 : decode cX7_dealt 145 = .ok (.getfield 125, 3) := by decide +kernel
theorem dX7_dealt_148 : decode cX7_dealt 148 = .ok (.iload_n 3, 1) := by decide +kernel
theorem dX7_dealt_149 : decode cX7_dealt 149 = .ok (.iaload, 1) := by decide +kernel
theorem dX7_dealt_150 : decode cX7_dealt 150 = .ok (.bipush 6, 2) := by decide +kernel
theorem dX7_dealt_152 : decode cX7_dealt 152 = .ok (.iload_n 2, 1) := by decide +kernel
theorem dX7_dealt_153 : decode cX7_dealt 153 = .ok (.imul, 1) := by decide +kernel
theorem dX7_dealt_154 : decode cX7_dealt 154 = .ok (.isub, 1) := by decide +kernel
theorem dX7_dealt_155 : decode cX7_dealt 155 = .ok (.istore 4, 2) := by decide +kernel
theorem dX7_dealt_157 : decode cX7_dealt 157 = .ok (.aload_n 0, 1) := by decide +kernel
theorem dX7_dealt_158 : decode cX7_dealt 158 = .ok (.invokevirtual 299, 3) := by decide +kernel
theorem dX7_dealt_161 : decode cX7_dealt 161 = .ok (.iload 4, 2) := by decide +kernel
theorem dX7_dealt_163 : decode cX7_dealt 163 = .ok (.ireturn, 1) := by decide +kernel
set_option maxRecDepth 20000 in
theorem ggX7_without_X7_bits : GoodIn wsX7_without wsX7_bits := goodIn_r _ [13] (by decide +kernel) (by decide +kernel)
set_option maxRecDepth 20000 in
theorem gX7_without_X7_bits : GoodIn wsX7_without (va_wsS RX7 324 yX7_bits wsX7_bits) := goodIn_app (goodIn_of _ (by decide +kernel)) ggX7_without_X7_bits
set_option maxRecDepth 20000 in
theorem ggX7_without_X7_read : GoodIn wsX7_without wsX7_read := goodIn_r _ [17, 8, 9, 18, 19, 20, 21, 12, 22, 23, 24, 25, 26, 27, 28, 29, 30, 31, 32, 33, 34, 35, 36, 37, 38, 39, 40, 41, 42, 1, 43, 44, 45, 46, 3, 47, 48, 49, 50, 51, 52, 53, 54, 55, 56, 57, 58, 59, 60, 61, 62, 63, 64, 65, 66, 5, 67, 68, 69, 70, 71, 72, 73, 74, 75, 76, 77, 78, 79, 80, 81, 82, 83, 84, 85, 86, 87, 88, 89, 90, 91, 92, 93, 94, 95, 96, 97, 98, 99, 100, 101, 102, 103, 104, 105, 106, 107, 108, 109, 110, 111, 112, 113, 114, 115, 116, 117, 118, 119, 120, 121, 122, 123, 124, 125, 126, 127, 128, 129, 130, 131, 132, 133, 134, 135, 136] (by decide +kernel) (by decide +kernel)
set_option maxRecDepth 20000 in
theorem gX7_without_X7_read : GoodIn wsX7_without (wsV RX7 315 RX7 yX7_read wsX7_read) := goodIn_app (goodIn_of _ (by decide +kernel)) ggX7_without_X7_read
theorem dX7_without_0 : decode cX7_without 0 = .ok (.aload_n 0, 1) := by decide +kernel
theorem dX7_without_1 : decode cX7_without 1 = .ok (.getfield 17, 3) := by decide +kernel
theorem dX7_without_4 : decode cX7_without 4 = .ok (.iload_n 1, 1) := by decide +kernel
theorem dX7_without_5 : decode cX7_without 5 = .ok (.iaload, 1) := by decide +kernel
theorem dX7_without_6 : decode cX7_without 6 = .ok (.istore_n 3, 1) := by decide +kernel
theorem dX7_without_7 : decode cX7_without 7 = .ok (.iconst 0, 1) := by decide +kernel
theorem dX7_without_8 : decode cX7_without 8 = .ok (.istore 4, 2) := by decide +kernel
theorem dX7_without_10 : decode cX7_without 10 = .ok (.iload 4, 2) := by decide +kernel
theorem dX7_without_12 : decode cX7_without 12 = .ok (.iload_n 3, 1) := by decide +kernel
theorem dX7_without_13 : decode cX7_without 13 = .ok (.if_icmp .ge 45, 3) := by decide +kernel
theorem dX7_without_16 : decode cX7_without 16 = .ok (.aload_n 0, 1) := by decide +kernel
theorem dX7_without_17 : decode cX7_without 17 = .ok (.getfield 134, 3) := by decide +kernel
theorem dX7_without_20 : decode cX7_without 20 = .ok (.iload 4, 2) := by decide +kernel
theorem dX7_without_22 : decode cX7_without 22 = .ok (.aload_n 0, 1) := by decide +kernel
theorem dX7_without_23 : decode cX7_without 23 = .ok (.getfield 20, 3) := by decide +kernel
theorem dX7_without_26 : decode cX7_without 26 = .ok (.iconst 5, 1) := by decide +kernel
theorem dX7_without_27 : decode cX7_without 27 = .ok (.iload_n 1, 1) := by decide +kernel
theorem dX7_without_28 : decode cX7_without 28 = .ok (.imul, 1) := by decide +kernel
theorem dX7_without_29 : decode cX7_without 29 = .ok (.iload 4, 2) := by decide +kernel
theorem dX7_without_31 : decode cX7_without 31 = .ok (.iadd, 1) := by decide +kernel
theorem dX7_without_32 : decode cX7_without 32 = .ok (.iaload, 1) := by decide +kernel
theorem dX7_without_33 : decode cX7_without 33 = .ok (.iastore, 1) := by decide +kernel
theorem dX7_without_34 : decode cX7_without 34 = .ok (.aload_n 0, 1) := by decide +kernel
theorem dX7_without_35 : decode cX7_without 35 = .ok (.getfield 137, 3) := by decide +kernel
theorem dX7_without_38 : decode cX7_without 38 = .ok (.iload 4, 2) := by decide +kernel
theorem dX7_without_40 : decode cX7_without 40 = .ok (.aload_n 0, 1) := by decide +kernel
theorem dX7_without_41 : decode cX7_without 41 = .ok (.getfield 23, 3) := by decide +kernel
theorem dX7_without_44 : decode cX7_without 44 = .ok (.iconst 5, 1) := by decide +kernel
theorem dX7_without_45 : decode cX7_without 45 = .ok (.iload_n 1, 1) := by decide +kernel
theorem dX7_without_46 : decode cX7_without 46 = .ok (.imul, 1) := by decide +kernel
theorem dX7_without_47 : decode cX7_without 47 = .ok (.iload 4, 2) := by decide +kernel
theorem dX7_without_49 : decode cX7_without 49 = .ok (.iadd, 1) := by decide +kernel
theorem dX7_without_50 : decode cX7_without 50 = .ok (.iaload, 1) := by decide +kernel
theorem dX7_without_51 : decode cX7_without 51 = .ok (.iastore, 1) := by decide +kernel
theorem dX7_without_52 : decode cX7_without 52 = .ok (.iinc 4 1, 3) := by decide +kernel
theorem dX7_without_55 : decode cX7_without 55 = .ok (.goto (-45), 3) := by decide +kernel
theorem dX7_without_58 : decode cX7_without 58 = .ok (.aload_n 0, 1) := by decide +kernel
theorem dX7_without_59 : decode cX7_without 59 = .ok (.bipush (-4), 2) := by decide +kernel
theorem dX7_without_61 : decode cX7_without 61 = .ok (.putfield 318, 3) := by decide +kernel
theorem dX7_without_64 : decode cX7_without 64 = .ok (.aload_n 0, 1) := by decide +kernel
theorem dX7_without_65 : decode cX7_without 65 = .ok (.bipush (-4), 2) := by decide +kernel
theorem dX7_without_67 : decode cX7_without 67 = .ok (.putfield 321, 3) := by decide +kernel
theorem dX7_without_70 : decode cX7_without 70 = .ok (.iconst 0, 1) := by decide +kernel
theorem dX7_without_71 : decode cX7_without 71 = .ok (.istore 4, 2) := by decide +kernel
theorem dX7_without_73 : decode cX7_without 73 = .ok (.iload 4, 2) := by decide +kernel
theorem dX7_without_75 : decode cX7_without 75 = .ok (.iconst 3, 1) := by decide +kernel
theorem dX7_without_76 : decode cX7_without 76 = .ok (.if_icmp .ge 175, 3) := by decide +kernel
theorem dX7_without_79 : decode cX7_without 79 = .ok (.aload_n 0, 1) := by decide +kernel
theorem dX7_without_80 : decode cX7_without 80 = .ok (.getfield 318, 3) := by decide +kernel
theorem dX7_without_83 : decode cX7_without 83 = .ok (.bipush (-4), 2) := by decide +kernel
theorem dX7_without_85 : decode cX7_without 85 = .ok (.if_icmp .ne 166, 3) := by decide +kernel
theorem dX7_without_88 : decode cX7_without 88 = .ok (.iconst 0, 1) := by decide +kernel
theorem dX7_without_89 : decode cX7_without 89 = .ok (.istore 5, 2) := by decide +kernel
theorem dX7_without_91 : decode cX7_without 91 = .ok (.iload 5, 2) := by decide +kernel
theorem dX7_without_93 : decode cX7_without 93 = .ok (.iconst 1, 1) := by decide +kernel
theorem dX7_without_94 : decode cX7_without 94 = .ok (.iload_n 3, 1) := by decide +kernel
theorem dX7_without_95 : decode cX7_without 95 = .ok (.ishl, 1) := by decide +kernel
theorem dX7_without_96 : decode cX7_without 96 = .ok (.if_icmp .ge 149, 3) := by decide +kernel
theorem dX7_without_99 : decode cX7_without 99 = .ok (.aload_n 0, 1) := by decide +kernel
theorem dX7_without_100 : decode cX7_without 100 = .ok (.getfield 318, 3) := by decide +kernel
theorem dX7_without_103 : decode cX7_without 103 = .ok (.bipush (-4), 2) := by decide +kernel
theorem dX7_without_105 : decode cX7_without 105 = .ok (.if_icmp .ne 140, 3) := by decide +kernel
theorem dX7_without_108 : decode cX7_without 108 = .ok (.iload 5, 2) := by decide +kernel
theorem dX7_without_110 : decode cX7_without 110 = .ok (.invokestatic 324, 3) := by decide +kernel
theorem dX7_without_113 : decode cX7_without 113 = .ok (.iload 4, 2) := by decide +kernel
theorem dX7_without_115 : decode cX7_without 115 = .ok (.if_icmp .ne 124, 3) := by decide +kernel
theorem dX7_without_118 : decode cX7_without 118 = .ok (.aload_n 0, 1) := by decide +kernel
theorem dX7_without_119 : decode cX7_without 119 = .ok (.getfield 17, 3) := by decide +kernel
theorem dX7_without_122 : decode cX7_without 122 = .ok (.iload_n 1, 1) := by decide +kernel
theorem dX7_without_123 : decode cX7_without 123 = .ok (.iconst 0, 1) := by decide +kernel
theorem dX7_without_124 : decode cX7_without 124 = .ok (.iastore, 1) := by decide +kernel
theorem dX7_without_125 : decode cX7_without 125 = .ok (.iconst 0, 1) := by decide +kernel
theorem dX7_without_126 : decode cX7_without 126 = .ok (.istore 6, 2) := by decide +kernel
theorem dX7_without_128 : decode cX7_without 128 = .ok (.iload 6, 2) := by decide +kernel
theorem dX7_without_130 : decode cX7_without 130 = .ok (.iload_n 3, 1) := by decide +kernel
theorem dX7_without_131 : decode cX7_without 131 = .ok (.if_icmp .ge 73, 3) := by decide +kernel
theorem dX7_without_134 : decode cX7_without 134 = .ok (.iload 5, 2) := by decide +kernel
theorem dX7_without_136 : decode cX7_without 136 = .ok (.iload 6, 2) := by decide +kernel
theorem dX7_without_138 : decode cX7_without 138 = .ok (.ishr, 1) := by decide +kernel
theorem dX7_without_139 : decode cX7_without 139 = .ok (.iconst 1, 1) := by decide +kernel
theorem dX7_without_140 : decode cX7_without 140 = .ok (.iand, 1) := by decide +kernel
theorem dX7_without_141 : decode cX7_without 141 = .ok (.ifCond .ne 57, 3) := by decide +kernel
theorem dX7_without_144 : decode cX7_without 144 = .ok (.aload_n 0, 1) := by decide +kernel
theorem dX7_without_145 : decode cX7_without 145 = .ok (.getfield 20, 3) := by decide +kernel
theorem dX7_without_148 : decode cX7_without 148 = .ok (.iconst 5, 1) := by decide +kernel
theorem dX7_without_149 : decode cX7_without 149 = .ok (.iload_n 1, 1) := by decide +kernel
theorem dX7_without_150 : decode cX7_without 150 = .ok (.imul, 1) := by decide +kernel
theorem dX7_without_151 : decode cX7_without 151 = .ok (.aload_n 0, 1) := by decide +kernel
theorem dX7_without_152 : decode cX7_without 152 = .ok (.getfield 17, 3) := by decide +kernel
theorem dX7_without_155 : decode cX7_without 155 = .ok (.iload_n 1, 1) := by decide +kernel
theorem dX7_without_156 : decode cX7_without 156 = .ok (.iaload, 1) := by decide +kernel
theorem dX7_without_157 : decode cX7_without 157 = .ok (.iadd, 1) := by decide +kernel
theorem dX7_without_158 : decode cX7_without 158 = .ok (.aload_n 0, 1) := by decide +kernel
theorem dX7_without_159 : decode cX7_without 159 = .ok (.getfield 134, 3) := by decide +kernel
theorem dX7_without_162 : decode cX7_without 162 = .ok (.iload 6, 2) := by decide +kernel
theorem dX7_without_164 : decode cX7_without 164 = .ok (.iaload, 1) := by decide +kernel
theorem dX7_without_165 : decode cX7_without 165 = .ok (.iastore, 1) := by decide +kernel
theorem dX7_without_166 : decode cX7_without 166 = .ok (.aload_n 0, 1) := by decide +kernel
theorem dX7_without_167 : decode cX7_without 167 = .ok (.getfield 23, 3) := by decide +kernel
theorem dX7_without_170 : decode cX7_without 170 = .ok (.iconst 5, 1) := by decide +kernel
theorem dX7_without_171 : decode cX7_without 171 = .ok (.iload_n 1, 1) := by decide +kernel
theorem dX7_without_172 : decode cX7_without 172 = .ok (.imul, 1) := by decide +kernel
theorem dX7_without_173 : decode cX7_without 173 = .ok (.aload_n 0, 1) := by decide +kernel
theorem dX7_without_174 : decode cX7_without 174 = .ok (.getfield 17, 3) := by decide +kernel
theorem dX7_without_177 : decode cX7_without 177 = .ok (.iload_n 1, 1) := by decide +kernel
theorem dX7_without_178 : decode cX7_without 178 = .ok (.iaload, 1) := by decide +kernel
theorem dX7_without_179 : decode cX7_without 179 = .ok (.iadd, 1) := by decide +kernel
theorem dX7_without_180 : decode cX7_without 180 = .ok (.aload_n 0, 1) := by decide +kernel
theorem dX7_without_181 : decode cX7_without 181 = .ok (.getfield 137, 3) := by decide +kernel
theorem dX7_without_184 : decode cX7_without 184 = .ok (.iload 6, 2) := by decide +kernel
theorem dX7_without_186 : decode cX7_without 186 = .ok (.iaload, 1) := by decide +kernel
theorem dX7_without_187 : decode cX7_without 187 = .ok (.iastore, 1) := by decide +kernel
theorem dX7_without_188 : decode cX7_without 188 = .ok (.aload_n 0, 1) := by decide +kernel
theorem dX7_without_189 : decode cX7_without 189 = .ok (.getfield 17, 3) := by decide +kernel
theorem dX7_without_192 : decode cX7_without 192 = .ok (.iload_n 1, 1) := by decide +kernel
theorem dX7_without_193 : decode cX7_without 193 = .ok (.dup2, 1) := by decide +kernel
theorem dX7_without_194 : decode cX7_without 194 = .ok (.iaload, 1) := by decide +kernel
theorem dX7_without_195 : decode cX7_without 195 = .ok (.iconst 1, 1) := by decide +kernel
theorem dX7_without_196 : decode cX7_without 196 = .ok (.iadd, 1) := by decide +kernel
theorem dX7_without_197 : decode cX7_without 197 = .ok (.iastore, 1) := by decide +kernel
theorem dX7_without_198 : decode cX7_without 198 = .ok (.iinc 6 1, 3) := by decide +kernel
theorem dX7_without_201 : decode cX7_without 201 = .ok (.goto (-73), 3) := by decide +kernel
theorem dX7_without_204 : decode cX7_without 204 = .ok (.aload_n 0, 1) := by decide +kernel
theorem dX7_without_205 : decode cX7_without 205 = .ok (.iconst 0, 1) := by decide +kernel
theorem dX7_without_206 : decode cX7_without 206 = .ok (.putfield 148, 3) := by decide +kernel
theorem dX7_without_209 : decode cX7_without 209 = .ok (.aload_n 0, 1) := by decide +kernel
theorem dX7_without_210 : decode cX7_without 210 = .ok (.invokevirtual 315, 3) := by decide +kernel
theorem dX7_without_213 : decode cX7_without 213 = .ok (.aload_n 0, 1) := by decide +kernel
theorem dX7_without_214 : decode cX7_without 214 = .ok (.getfield 119, 3) := by decide +kernel
theorem dX7_without_217 : decode cX7_without 217 = .ok (.bipush 10, 2) := by decide +kernel
theorem dX7_without_219 : decode cX7_without 219 = .ok (.iload_n 2, 1) := by decide +kernel
theorem dX7_without_220 : decode cX7_without 220 = .ok (.imul, 1) := by decide +kernel
theorem dX7_without_221 : decode cX7_without 221 = .ok (.iload_n 1, 1) := by decide +kernel
theorem dX7_without_222 : decode cX7_without 222 = .ok (.iadd, 1) := by decide +kernel
theorem dX7_without_223 : decode cX7_without 223 = .ok (.baload, 1) := by decide +kernel
theorem dX7_without_224 : decode cX7_without 224 = .ok (.ifCond .eq 15, 3) := by decide +kernel
theorem dX7_without_227 : decode cX7_without 227 = .ok (.aload_n 0, 1) := by decide +kernel
theorem dX7_without_228 : decode cX7_without 228 = .ok (.iload 4, 2) := by decide +kernel
theorem dX7_without_230 : decode cX7_without 230 = .ok (.putfield 318, 3) := by decide +kernel
theorem dX7_without_233 : decode cX7_without 233 = .ok (.aload_n 0, 1) := by decide +kernel
theorem dX7_without_234 : decode cX7_without 234 = .ok (.iload 5, 2) := by decide +kernel
theorem dX7_without_236 : decode cX7_without 236 = .ok (.putfield 321, 3) := by decide +kernel
theorem dX7_without_239 : decode cX7_without 239 = .ok (.iinc 5 1, 3) := by decide +kernel
theorem dX7_without_242 : decode cX7_without 242 = .ok (.goto (-151), 3) := by decide +kernel
theorem dX7_without_245 : decode cX7_without 245 = .ok (.iinc 4 1, 3) := by decide +kernel
theorem dX7_without_248 : decode cX7_without 248 = .ok (.goto (-175), 3) := by decide +kernel
theorem dX7_without_251 : decode cX7_without 251 = .ok (.aload_n 0, 1) := by decide +kernel
theorem dX7_without_252 : decode cX7_without 252 = .ok (.getfield 17, 3) := by decide +kernel
theorem dX7_without_255 : decode cX7_without 255 = .ok (.iload_n 1, 1) := by decide +kernel
theorem dX7_without_256 : decode cX7_without 256 = .ok (.iload_n 3, 1) := by decide +kernel
theorem dX7_without_257 : decode cX7_without 257 = .ok (.iastore, 1) := by decide +kernel
theorem dX7_without_258 : decode cX7_without 258 = .ok (.iconst 0, 1) := by decide +kernel
theorem dX7_without_259 : decode cX7_without 259 = .ok (.istore 4, 2) := by decide +kernel
theorem dX7_without_261 : decode cX7_without 261 = .ok (.iload 4, 2) := by decide +kernel
theorem dX7_without_263 : decode cX7_without 263 = .ok (.iload_n 3, 1) := by decide +kernel
theorem dX7_without_264 : decode cX7_without 264 = .ok (.if_icmp .ge 45, 3) := by decide +kernel
theorem dX7_without_267 : decode cX7_without 267 = .ok (.aload_n 0, 1) := by decide +kernel
theorem dX7_without_268 : decode cX7_without 268 = .ok (.getfield 20, 3) := by decide +kernel
theorem dX7_without_271 : decode cX7_without 271 = .ok (.iconst 5, 1) := by decide +kernel
theorem dX7_without_272 : decode cX7_without 272 = .ok (.iload_n 1, 1) := by decide +kernel
theorem dX7_without_273 : decode cX7_without 273 = .ok (.imul, 1) := by decide +kernel
theorem dX7_without_274 : decode cX7_without 274 = .ok (.iload 4, 2) := by decide +kernel
theorem dX7_without_276 : decode cX7_without 276 = .ok (.iadd, 1) := by decide +kernel
theorem dX7_without_277 : decode cX7_without 277 = .ok (.aload_n 0, 1) := by decide +kernel
theorem dX7_without_278 : decode cX7_without 278 = .ok (.getfield 134, 3) := by decide +kernel
theorem dX7_without_281 : decode cX7_without 281 = .ok (.iload 4, 2) := by decide +kernel
theorem dX7_without_283 : decode cX7_without 283 = .ok (.iaload, 1) := by decide +kernel
theorem dX7_without_284 : decode cX7_without 284 = .ok (.iastore, 1) := by decide +kernel
theorem dX7_without_285 : decode cX7_without 285 = .ok (.aload_n 0, 1) := by decide +kernel
theorem dX7_without_286 : decode cX7_without 286 = .ok (.getfield 23, 3) := by decide +kernel
theorem dX7_without_289 : decode cX7_without 289 = .ok (.iconst 5, 1) := by decide +kernel
theorem dX7_without_290 : decode cX7_without 290 = .ok (.iload_n 1, 1) := by decide +kernel
theorem dX7_without_291 : decode cX7_without 291 = .ok (.imul, 1) := by decide +kernel
theorem dX7_without_292 : decode cX7_without 292 = .ok (.iload 4, 2) := by decide +kernel
theorem dX7_without_294 : decode cX7_without 294 = .ok (.iadd, 1) := by decide +kernel
theorem dX7_without_295 : decode cX7_without 295 = .ok (.aload_n 0, 1) := by decide +kernel
theorem dX7_without_296 : decode cX7_without 296 = .ok (.getfield 137, 3) := by decide +kernel
theorem dX7_without_299 : decode cX7_without 299 = .ok (.iload 4, 2) := by decide +kernel
theorem dX7_without_301 : decode cX7_without 301 = .ok (.iaload, 1) := by decide +kernel
theorem dX7_without_302 : decode cX7_without 302 = .ok (.iastore, 1) := by decide +kernel
theorem dX7_without_303 : decode cX7_without 303 = .ok (.iinc 4 1, 3) := by decide +kernel
theorem dX7_without_306 : decode cX7_without 306 = .ok (.goto (-45), 3) := by decide +kernel
theorem dX7_without_309 : decode cX7_without 309 = .ok (.aload_n 0, 1) := by decide +kernel
theorem dX7_without_310 : decode cX7_without 310 = .ok (.iconst 0, 1) := by decide +kernel
theorem dX7_without_311 : decode cX7_without 311 = .ok (.putfield 148, 3) := by decide +kernel
theorem dX7_without_314 : decode cX7_without 314 = .ok (.return_, 1) := by decide +kernel
theorem dX7_bits_0 : decode cX7_bits 0 = .ok (.iconst 0, 1) := by decide +kernel
theorem dX7_bits_1 : decode cX7_bits 1 = .ok (.istore_n 1, 1) := by decide +kernel
theorem dX7_bits_2 : decode cX7_bits 2 = .ok (.iconst 0, 1) := by decide +kernel
theorem dX7_bits_3 : decode cX7_bits 3 = .ok (.istore_n 2, 1) := by decide +kernel
theorem dX7_bits_4 : decode cX7_bits 4 = .ok (.iload_n 2, 1) := by decide +kernel
theorem dX7_bits_5 : decode cX7_bits 5 = .ok (.iconst 5, 1) := by decide +kernel
theorem dX7_bits_6 : decode cX7_bits 6 = .ok (.if_icmp .ge 17, 3) := by decide +kernel
theorem dX7_bits_9 : decode cX7_bits 9 = .ok (.iload_n 1, 1) := by decide +kernel
theorem dX7_bits_10 : decode cX7_bits 10 = .ok (.iload_n 0, 1) := by decide +kernel
theorem dX7_bits_11 : decode cX7_bits 11 = .ok (.iload_n 2, 1) := by decide +kernel
theorem dX7_bits_12 : decode cX7_bits 12 = .ok (.ishr, 1) := by decide +kernel
theorem dX7_bits_13 : decode cX7_bits 13 = .ok (.iconst 1, 1) := by decide +kernel
theorem dX7_bits_14 : decode cX7_bits 14 = .ok (.iand, 1) := by decide +kernel
theorem dX7_bits_15 : decode cX7_bits 15 = .ok (.iadd, 1) := by decide +kernel
theorem dX7_bits_16 : decode cX7_bits 16 = .ok (.istore_n 1, 1) := by decide +kernel
theorem dX7_bits_17 : decode cX7_bits 17 = .ok (.iinc 2 1, 3) := by decide +kernel
theorem dX7_bits_20 : decode cX7_bits 20 = .ok (.goto (-16), 3) := by decide +kernel
theorem dX7_bits_23 : decode cX7_bits 23 = .ok (.iload_n 1, 1) := by decide +kernel
theorem dX7_bits_24 : decode cX7_bits 24 = .ok (.ireturn, 1) := by decide +kernel
set_option maxRecDepth 20000 in
theorem ggX7_tooMany_X7_areBoth : GoodIn wsX7_tooMany wsX7_areBoth := goodIn_r _ [6, 7, 8, 9, 5, 10, 11, 12, 13, 14, 15, 16, 17, 18, 19, 96, 97, 98, 99, 100, 101, 102, 103, 104, 105, 106, 107, 108, 109, 110, 111, 112, 113, 114, 115, 116, 117, 118, 119, 120, 121, 122, 123, 124, 125, 126, 127, 128, 129, 130, 131, 132, 133, 134, 135, 136, 137, 138, 139, 140, 141, 142, 143, 144, 145, 146, 147, 148, 149, 150, 151, 152] (by decide +kernel) (by decide +kernel)
set_option maxRecDepth 20000 in
theorem gX7_tooMany_X7_areBoth : GoodIn wsX7_tooMany (wsV RX7 312 RX7 yX7_areBoth wsX7_areBoth) := goodIn_app (goodIn_of _ (by decide +kernel)) ggX7_tooMany_X7_areBoth
set_option maxRecDepth 20000 in
theorem ggX7_tooMany_X7_without : GoodIn wsX7_tooMany wsX7_without := goodIn_r _ [23, 24, 25, 26, 27, 28, 1, 29, 30, 31, 32, 33, 5, 34, 35, 36, 37, 38, 39, 40, 41, 42, 43, 44, 45, 46, 47, 48, 19, 49, 50, 51, 52, 53, 54, 55, 56, 11, 57, 58, 59, 60, 61, 62, 63, 64, 65, 66, 67, 68, 69, 70, 71, 72, 73, 74, 75, 76, 77, 78, 79, 80, 81, 82, 83, 84, 85, 86, 87, 88, 12, 13, 14, 89, 90, 91, 92, 93, 94, 95, 96, 97, 98, 99, 100, 101, 102, 103, 104, 105, 106, 107, 108, 109, 110, 111, 112, 113, 114, 115, 116, 117, 118, 119, 120, 121, 122, 123, 124, 125, 126, 127, 128, 129, 130, 131, 132, 133, 134, 135, 136, 137, 138, 139, 140, 141, 142, 143, 144, 145, 146, 147, 148, 149, 150, 151, 152] (by decide +kernel) (by decide +kernel)
set_option maxRecDepth 20000 in
theorem gX7_tooMany_X7_without : GoodIn wsX7_tooMany (wsV RX7 327 RX7 yX7_without wsX7_without) := goodIn_app (goodIn_of _ (by decide +kernel)) ggX7_tooMany_X7_without
theorem dX7_tooMany_0 : decode cX7_tooMany 0 = .ok (.aload_n 0, 1) := by decide +kernel
theorem dX7_tooMany_1 : decode cX7_tooMany 1 = .ok (.iload_n 1, 1) := by decide +kernel
theorem dX7_tooMany_2 : decode cX7_tooMany 2 = .ok (.iload_n 2, 1) := by decide +kernel
theorem dX7_tooMany_3 : decode cX7_tooMany 3 = .ok (.invokevirtual 312, 3) := by decide +kernel
theorem dX7_tooMany_6 : decode cX7_tooMany 6 = .ok (.ifCond .ne 5, 3) := by decide +kernel
theorem dX7_tooMany_9 : decode cX7_tooMany 9 = .ok (.iconst (-1), 1) := by decide +kernel
theorem dX7_tooMany_10 : decode cX7_tooMany 10 = .ok (.ireturn, 1) := by decide +kernel
theorem dX7_tooMany_11 : decode cX7_tooMany 11 = .ok (.aload_n 0, 1) := by decide +kernel
theorem dX7_tooMany_12 : decode cX7_tooMany 12 = .ok (.iload_n 1, 1) := by decide +kernel
theorem dX7_tooMany_13 : decode cX7_tooMany 13 = .ok (.iload_n 2, 1) := by decide +kernel
theorem dX7_tooMany_14 : decode cX7_tooMany 14 = .ok (.invokevirtual 327, 3) := by decide +kernel
theorem dX7_tooMany_17 : decode cX7_tooMany 17 = .ok (.aload_n 0, 1) := by decide +kernel
theorem dX7_tooMany_18 : decode cX7_tooMany 18 = .ok (.getfield 318, 3) := by decide +kernel
theorem dX7_tooMany_21 : decode cX7_tooMany 21 = .ok (.ireturn, 1) := by decide +kernel
set_option maxRecDepth 20000 in
theorem ggX7_which_X7_areBoth : GoodIn wsX7_which wsX7_areBoth := goodIn_r _ [6, 7, 8, 9, 5, 10, 11, 12, 13, 14, 15, 16, 17, 18, 19, 96, 97, 98, 99, 100, 101, 102, 103, 104, 105, 106, 107, 108, 109, 110, 111, 112, 113, 114, 115, 116, 117, 118, 119, 120, 121, 122, 123, 124, 125, 126, 127, 128, 129, 130, 131, 132, 133, 134, 135, 136, 137, 138, 139, 140, 141, 142, 143, 144, 145, 146, 147, 148, 149, 150, 151, 152] (by decide +kernel) (by decide +kernel)
set_option maxRecDepth 20000 in
theorem gX7_which_X7_areBoth : GoodIn wsX7_which (wsV RX7 312 RX7 yX7_areBoth wsX7_areBoth) := goodIn_app (goodIn_of _ (by decide +kernel)) ggX7_which_X7_areBoth
set_option maxRecDepth 20000 in
theorem ggX7_which_X7_without : GoodIn wsX7_which wsX7_without := goodIn_r _ [23, 24, 25, 26, 27, 28, 29, 1, 30, 31, 32, 33, 5, 34, 35, 36, 37, 38, 39, 40, 41, 42, 43, 44, 45, 46, 47, 48, 19, 49, 50, 51, 52, 53, 54, 55, 56, 11, 57, 58, 59, 60, 61, 62, 63, 64, 65, 66, 67, 68, 69, 70, 71, 72, 73, 74, 75, 76, 77, 78, 79, 80, 81, 82, 83, 84, 85, 86, 87, 88, 12, 13, 14, 89, 90, 91, 92, 93, 94, 95, 96, 97, 98, 99, 100, 101, 102, 103, 104, 105, 106, 107, 108, 109, 110, 111, 112, 113, 114, 115, 116, 117, 118, 119, 120, 121, 122, 123, 124, 125, 126, 127, 128, 129, 130, 131, 132, 133, 134, 135, 136, 137, 138, 139, 140, 141, 142, 143, 144, 145, 146, 147, 148, 149, 150, 151, 152] (by decide +kernel) (by decide +kernel)
set_option maxRecDepth 20000 in
theorem gX7_which_X7_without : GoodIn wsX7_which (wsV RX7 327 RX7 yX7_without wsX7_without) := goodIn_app (goodIn_of _ (by decide +kernel)) ggX7_which_X7_without
theorem dX7_which_0 : decode cX7_which 0 = .ok (.aload_n 0, 1) := by decide +kernel
theorem dX7_which_1 : decode cX7_which 1 = .ok (.iload_n 1, 1) := by decide +kernel
theorem dX7_which_2 : decode cX7_which 2 = .ok (.iload_n 2, 1) := by decide +kernel
theorem dX7_which_3 : decode cX7_which 3 = .ok (.invokevirtual 312, 3) := by decide +kernel
theorem dX7_which_6 : decode cX7_which 6 = .ok (.ifCond .ne 5, 3) := by decide +kernel
theorem dX7_which_9 : decode cX7_which 9 = .ok (.iconst (-1), 1) := by decide +kernel
theorem dX7_which_10 : decode cX7_which 10 = .ok (.ireturn, 1) := by decide +kernel
theorem dX7_which_11 : decode cX7_which 11 = .ok (.aload_n 0, 1) := by decide +kernel
theorem dX7_which_12 : decode cX7_which 12 = .ok (.iload_n 1, 1) := by decide +kernel
theorem dX7_which_13 : decode cX7_which 13 = .ok (.iload_n 2, 1) := by decide +kernel
theorem dX7_which_14 : decode cX7_which 14 = .ok (.invokevirtual 327, 3) := by decide +kernel
theorem dX7_which_17 : decode cX7_which 17 = .ok (.aload_n 0, 1) := by decide +kernel
theorem dX7_which_18 : decode cX7_which 18 = .ok (.getfield 321, 3) := by decide +kernel
theorem dX7_which_21 : decode cX7_which 21 = .ok (.ireturn, 1) := by decide +kernel
set_option maxRecDepth 20000 in
theorem ggX7_depends_X7_isShape : GoodIn wsX7_depends wsX7_isShape := goodIn_r _ [6, 7, 8, 9, 5, 10, 22, 23, 24, 25, 26, 27, 28, 29, 30, 31, 32, 33, 34, 35, 36, 37, 38, 39, 40, 41, 42, 43, 44, 45, 46, 47, 48, 49, 50, 51, 52, 53, 54, 55, 56, 57, 58, 59, 60, 61, 62, 63, 64, 65, 66, 67, 68, 69, 70, 71, 72, 73, 74, 75, 76, 77, 78] (by decide +kernel) (by decide +kernel)
set_option maxRecDepth 20000 in
theorem gX7_depends_X7_isShape : GoodIn wsX7_depends (wsV RX7 309 RX7 yX7_isShape wsX7_isShape) := goodIn_app (goodIn_of _ (by decide +kernel)) ggX7_depends_X7_isShape
set_option maxRecDepth 20000 in
theorem ggX7_depends_X7_findLeads : GoodIn wsX7_depends wsX7_findLeads := goodIn_r _ [14, 15, 7, 1, 16, 17, 18, 19, 20, 21, 22, 23, 24, 25, 26, 27, 28, 29, 30, 31, 32, 33, 34, 35, 36, 37, 38, 39, 40, 41, 42, 43, 44, 45, 46, 47, 48, 49, 50, 51, 52, 53, 54, 55, 56, 57, 58, 59, 60, 61, 62, 63, 64, 65, 66, 67, 68, 69, 70, 71, 72, 73, 74, 75, 76, 77, 78] (by decide +kernel) (by decide +kernel)
set_option maxRecDepth 20000 in
theorem gX7_depends_X7_findLeads : GoodIn wsX7_depends (wsV RX7 264 RX7 yX7_findLeads wsX7_findLeads) := goodIn_app (goodIn_of _ (by decide +kernel)) ggX7_depends_X7_findLeads
theorem dX7_depends_0 : decode cX7_depends 0 = .ok (.aload_n 0, 1) := by decide +kernel
theorem dX7_depends_1 : decode cX7_depends 1 = .ok (.iload_n 1, 1) := by decide +kernel
theorem dX7_depends_2 : decode cX7_depends 2 = .ok (.invokevirtual 309, 3) := by decide +kernel
theorem dX7_depends_5 : decode cX7_depends 5 = .ok (.ifCond .eq 11, 3) := by decide +kernel
theorem dX7_depends_8 : decode cX7_depends 8 = .ok (.aload_n 0, 1) := by decide +kernel
theorem dX7_depends_9 : decode cX7_depends 9 = .ok (.iload_n 2, 1) := by decide +kernel
theorem dX7_depends_10 : decode cX7_depends 10 = .ok (.invokevirtual 309, 3) := by decide +kernel
theorem dX7_depends_13 : decode cX7_depends 13 = .ok (.ifCond .ne 5, 3) := by decide +kernel
theorem dX7_depends_16 : decode cX7_depends 16 = .ok (.iconst (-1), 1) := by decide +kernel
theorem dX7_depends_17 : decode cX7_depends 17 = .ok (.ireturn, 1) := by decide +kernel
theorem dX7_depends_18 : decode cX7_depends 18 = .ok (.aload_n 0, 1) := by decide +kernel
theorem dX7_depends_19 : decode cX7_depends 19 = .ok (.iconst 0, 1) := by decide +kernel
theorem dX7_depends_20 : decode cX7_depends 20 = .ok (.invokevirtual 264, 3) := by decide +kernel
theorem dX7_depends_23 : decode cX7_depends 23 = .ok (.aload_n 0, 1) := by decide +kernel
theorem dX7_depends_24 : decode cX7_depends 24 = .ok (.getfield 116, 3) := by decide +kernel
theorem dX7_depends_27 : decode cX7_depends 27 = .ok (.bipush 6, 2) := by decide +kernel
theorem dX7_depends_29 : decode cX7_depends 29 = .ok (.iload_n 1, 1) := by decide +kernel
theorem dX7_depends_30 : decode cX7_depends 30 = .ok (.imul, 1) := by decide +kernel
theorem dX7_depends_31 : decode cX7_depends 31 = .ok (.iload_n 2, 1) := by decide +kernel
theorem dX7_depends_32 : decode cX7_depends 32 = .ok (.iadd, 1) := by decide +kernel
theorem dX7_depends_33 : decode cX7_depends 33 = .ok (.baload, 1) := by decide +kernel
theorem dX7_depends_34 : decode cX7_depends 34 = .ok (.ifCond .eq 7, 3) := by decide +kernel
theorem dX7_depends_37 : decode cX7_depends 37 = .ok (.iconst 1, 1) := by decide +kernel
theorem dX7_depends_38 : decode cX7_depends 38 = .ok (.goto 4, 3) := by decide +kernel
theorem dX7_depends_41 : decode cX7_depends 41 = .ok (.iconst 0, 1) := by decide +kernel
theorem dX7_depends_42 : decode cX7_depends 42 = .ok (.ireturn, 1) := by decide +kernel
set_option maxRecDepth 20000 in
theorem ggX7_part_X7_isShape : GoodIn wsX7_part wsX7_isShape := goodIn_r _ [11, 12, 13, 14, 10, 15, 16, 17, 18, 19, 20, 21, 22, 23, 24, 25, 26, 27, 28, 29, 30, 31, 32, 33, 34, 35, 36, 37, 38, 39, 40, 41, 42, 43, 44, 45, 46, 47, 48, 49, 50, 51, 52, 53, 54, 55, 56, 57, 58, 59, 60, 61, 62, 63, 64, 65, 66, 67, 68, 69, 70, 71, 72] (by decide +kernel) (by decide +kernel)
set_option maxRecDepth 20000 in
theorem gX7_part_X7_isShape : GoodIn wsX7_part (wsV RX7 309 RX7 yX7_isShape wsX7_isShape) := goodIn_app (goodIn_of _ (by decide +kernel)) ggX7_part_X7_isShape
set_option maxRecDepth 20000 in
theorem ggX7_part_X7_in : GoodIn wsX7_part wsX7_in := goodIn_r _ [15] (by decide +kernel) (by decide +kernel)
set_option maxRecDepth 20000 in
theorem gX7_part_X7_in : GoodIn wsX7_part (va_wsS RX7 144 yX7_in wsX7_in) := goodIn_app (goodIn_of _ (by decide +kernel)) ggX7_part_X7_in
