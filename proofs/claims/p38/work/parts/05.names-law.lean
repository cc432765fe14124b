theorem dJ9_max_7cf53_0 : decode cJ9_max_7cf53 0 = .ok (.iload_n 0, 1) := by decide +kernel
theorem dJ9_max_7cf53_1 : decode cJ9_max_7cf53 1 = .ok (.iload_n 1, 1) := by decide +kernel
theorem dJ9_max_7cf53_2 : decode cJ9_max_7cf53 2 = .ok (.if_icmp .lt 7, 3) := by decide +kernel
theorem dJ9_max_7cf53_5 : decode cJ9_max_7cf53 5 = .ok (.iload_n 0, 1) := by decide +kernel
theorem dJ9_max_7cf53_6 : decode cJ9_max_7cf53 6 = .ok (.goto 4, 3) := by decide +kernel
theorem dJ9_max_7cf53_9 : decode cJ9_max_7cf53 9 = .ok (.iload_n 1, 1) := by decide +kernel
theorem dJ9_max_7cf53_10 : decode cJ9_max_7cf53 10 = .ok (.ireturn, 1) := by decide +kernel
theorem dJ9_min_7cf53_0 : decode cJ9_min_7cf53 0 = .ok (.iload_n 0, 1) := by decide +kernel
theorem dJ9_min_7cf53_1 : decode cJ9_min_7cf53 1 = .ok (.iload_n 1, 1) := by decide +kernel
theorem dJ9_min_7cf53_2 : decode cJ9_min_7cf53 2 = .ok (.if_icmp .gt 7, 3) := by decide +kernel
theorem dJ9_min_7cf53_5 : decode cJ9_min_7cf53 5 = .ok (.iload_n 0, 1) := by decide +kernel
theorem dJ9_min_7cf53_6 : decode cJ9_min_7cf53 6 = .ok (.goto 4, 3) := by decide +kernel
theorem dJ9_min_7cf53_9 : decode cJ9_min_7cf53 9 = .ok (.iload_n 1, 1) := by decide +kernel
theorem dJ9_min_7cf53_10 : decode cJ9_min_7cf53 10 = .ok (.ireturn, 1) := by decide +kernel
theorem dL_below_0 : decode cL_below 0 = .ok (.iload_n 0, 1) := by decide +kernel
theorem dL_below_1 : decode cL_below 1 = .ok (.ldc 7, 2) := by decide +kernel
theorem dL_below_3 : decode cL_below 3 = .ok (.iand, 1) := by decide +kernel
theorem dL_below_4 : decode cL_below 4 = .ok (.iload_n 1, 1) := by decide +kernel
theorem dL_below_5 : decode cL_below 5 = .ok (.irem, 1) := by decide +kernel
theorem dL_below_6 : decode cL_below 6 = .ok (.ireturn, 1) := by decide +kernel
theorem dL_cell_0 : decode cL_cell 0 = .ok (.iload_n 1, 1) := by decide +kernel
theorem dL_cell_1 : decode cL_cell 1 = .ok (.aload_n 0, 1) := by decide +kernel
theorem dL_cell_2 : decode cL_cell 2 = .ok (.arraylength, 1) := by decide +kernel
theorem dL_cell_3 : decode cL_cell 3 = .ok (.if_icmp .ge 9, 3) := by decide +kernel
theorem dL_cell_6 : decode cL_cell 6 = .ok (.aload_n 0, 1) := by decide +kernel
theorem dL_cell_7 : decode cL_cell 7 = .ok (.iload_n 1, 1) := by decide +kernel
theorem dL_cell_8 : decode cL_cell 8 = .ok (.iaload, 1) := by decide +kernel
theorem dL_cell_9 : decode cL_cell 9 = .ok (.goto 9, 3) := by decide +kernel
theorem dL_cell_12 : decode cL_cell 12 = .ok (.ldc 8, 2) := by decide +kernel
theorem dL_cell_14 : decode cL_cell 14 = .ok (.iload_n 1, 1) := by decide +kernel
theorem dL_cell_15 : decode cL_cell 15 = .ok (.iconst 3, 1) := by decide +kernel
theorem dL_cell_16 : decode cL_cell 16 = .ok (.iadd, 1) := by decide +kernel
theorem dL_cell_17 : decode cL_cell 17 = .ok (.imul, 1) := by decide +kernel
theorem dL_cell_18 : decode cL_cell 18 = .ok (.ireturn, 1) := by decide +kernel
set_option maxRecDepth 20000 in
theorem ggL_build_X3_height : GoodIn wsL_build wsX3_height := goodIn_r _ [6, 7, 8, 9, 10, 11, 12, 13, 96, 97, 98, 99, 100] (by decide +kernel) (by decide +kernel)
set_option maxRecDepth 20000 in
theorem gL_build_X3_height : GoodIn wsL_build (wsV RL 9 RX3 yX3_height wsX3_height) := goodIn_app (goodIn_of _ (by decide +kernel)) ggL_build_X3_height
set_option maxRecDepth 20000 in
theorem ggL_build_L_below : GoodIn wsL_build wsL_below := goodIn_r _ [17, 18] (by decide +kernel) (by decide +kernel)
set_option maxRecDepth 20000 in
theorem gL_build_L_below : GoodIn wsL_build (va_wsS RL 15 yL_below wsL_below) := goodIn_app (goodIn_of _ (by decide +kernel)) ggL_build_L_below
set_option maxRecDepth 20000 in
theorem ggL_build_X3_atom : GoodIn wsL_build wsX3_atom := goodIn_ca (goodIn_ca (goodIn_r _ [22, 7, 23, 24, 25, 5, 26, 27, 28, 29, 30, 31, 32, 33, 34, 35, 36, 37, 11, 38, 13, 39, 40, 41, 42, 43, 44, 45, 46, 47, 48, 49, 8, 9, 10, 12, 96, 97, 98, 99, 100] (by decide +kernel) (by decide +kernel)) (goodIn_sub (fun _ h => List.mem_cons_of_mem _ (List.mem_append_left _ (List.mem_append_left _ (List.mem_append_right _ h)))) (by decide +kernel))) (goodIn_sub (fun _ h => List.mem_cons_of_mem _ (List.mem_append_left _ (List.mem_append_right _ h))) (by decide +kernel))
set_option maxRecDepth 20000 in
theorem gL_build_X3_atom : GoodIn wsL_build (wsV RL 21 RX3 yX3_atom wsX3_atom) := goodIn_app (goodIn_of _ (by decide +kernel)) ggL_build_X3_atom
set_option maxRecDepth 20000 in
theorem ggL_build_X3_negate : GoodIn wsL_build wsX3_negate := goodIn_ca (goodIn_r _ [53, 7, 54, 55, 56, 5, 57, 33, 34, 8, 9, 10, 11, 12, 13, 58, 59, 60, 61, 46, 40, 41, 62, 63, 64, 65, 66, 67, 68, 69, 70, 71, 72, 73, 74, 75, 76, 77, 78, 43, 44, 45, 47, 36, 37, 38, 48, 49, 96, 97, 98, 99, 100] (by decide +kernel) (by decide +kernel)) (goodIn_sub (fun _ h => List.mem_cons_of_mem _ (List.mem_append_left _ (List.mem_append_right _ h))) (by decide +kernel))
set_option maxRecDepth 20000 in
theorem gL_build_X3_negate : GoodIn wsL_build (wsV RL 26 RX3 yX3_negate wsX3_negate) := goodIn_app (goodIn_of _ (by decide +kernel)) ggL_build_X3_negate
set_option maxRecDepth 20000 in
theorem ggL_build_X3_join : GoodIn wsL_build wsX3_join := goodIn_ca (goodIn_ca (goodIn_r _ [82, 83, 84, 7, 85, 86, 87, 5, 88, 33, 34, 8, 9, 10, 11, 12, 13, 58, 59, 60, 61, 46, 40, 41, 89, 90, 91, 62, 63, 64, 65, 66, 67, 68, 69, 70, 71, 72, 73, 74, 75, 76, 77, 78, 43, 44, 45, 47, 36, 37, 38, 48, 49, 96, 97, 98, 99, 100] (by decide +kernel) (by decide +kernel)) (goodIn_sub (fun _ h => List.mem_cons_of_mem _ (List.mem_append_right _ h)) (by decide +kernel))) (goodIn_sub (fun _ h => List.mem_cons_of_mem _ (List.mem_append_left _ (List.mem_append_right _ h))) (by decide +kernel))
set_option maxRecDepth 20000 in
theorem gL_build_X3_join : GoodIn wsL_build (wsV RL 29 RX3 yX3_join wsX3_join) := goodIn_app (goodIn_of _ (by decide +kernel)) ggL_build_X3_join
set_option maxRecDepth 20000 in
theorem ggL_build_X3_top : GoodIn wsL_build wsX3_top := goodIn_ca (goodIn_r _ [95, 54, 55, 56, 5, 57, 33, 34, 7, 8, 9, 10, 11, 12, 13, 58, 59, 60, 61, 46, 40, 41, 96, 97, 98, 99, 100] (by decide +kernel) (by decide +kernel)) (goodIn_sub (fun _ h => List.mem_cons_of_mem _ (List.mem_append_left _ (List.mem_append_right _ h))) (by decide +kernel))
set_option maxRecDepth 20000 in
theorem gL_build_X3_top : GoodIn wsL_build (wsV RL 32 RX3 yX3_top wsX3_top) := goodIn_app (goodIn_of _ (by decide +kernel)) ggL_build_X3_top
theorem dL_build_0 : decode cL_build 0 = .ok (.aload_n 0, 1) := by decide +kernel
theorem dL_build_1 : decode cL_build 1 = .ok (.invokevirtual 9, 3) := by decide +kernel
theorem dL_build_4 : decode cL_build 4 = .ok (.istore_n 2, 1) := by decide +kernel
theorem dL_build_5 : decode cL_build 5 = .ok (.iconst (-1), 1) := by decide +kernel
theorem dL_build_6 : decode cL_build 6 = .ok (.istore_n 3, 1) := by decide +kernel
theorem dL_build_7 : decode cL_build 7 = .ok (.iconst 1, 1) := by decide +kernel
theorem dL_build_8 : decode cL_build 8 = .ok (.iload_n 1, 1) := by decide +kernel
theorem dL_build_9 : decode cL_build 9 = .ok (.iconst 3, 1) := by decide +kernel
theorem dL_build_10 : decode cL_build 10 = .ok (.invokestatic 15, 3) := by decide +kernel
theorem dL_build_13 : decode cL_build 13 = .ok (.iadd, 1) := by decide +kernel
theorem dL_build_14 : decode cL_build 14 = .ok (.istore 4, 2) := by decide +kernel
theorem dL_build_16 : decode cL_build 16 = .ok (.iconst 0, 1) := by decide +kernel
theorem dL_build_17 : decode cL_build 17 = .ok (.istore 5, 2) := by decide +kernel
theorem dL_build_19 : decode cL_build 19 = .ok (.iload 5, 2) := by decide +kernel
theorem dL_build_21 : decode cL_build 21 = .ok (.iload 4, 2) := by decide +kernel
theorem dL_build_23 : decode cL_build 23 = .ok (.if_icmp .ge 310, 3) := by decide +kernel
theorem dL_build_26 : decode cL_build 26 = .ok (.iload_n 1, 1) := by decide +kernel
theorem dL_build_27 : decode cL_build 27 = .ok (.iconst 2, 1) := by decide +kernel
theorem dL_build_28 : decode cL_build 28 = .ok (.bipush 6, 2) := by decide +kernel
theorem dL_build_30 : decode cL_build 30 = .ok (.iload 5, 2) := by decide +kernel
theorem dL_build_32 : decode cL_build 32 = .ok (.imul, 1) := by decide +kernel
theorem dL_build_33 : decode cL_build 33 = .ok (.iadd, 1) := by decide +kernel
theorem dL_build_34 : decode cL_build 34 = .ok (.ishr, 1) := by decide +kernel
theorem dL_build_35 : decode cL_build 35 = .ok (.istore 6, 2) := by decide +kernel
theorem dL_build_37 : decode cL_build 37 = .ok (.iload 6, 2) := by decide +kernel
theorem dL_build_39 : decode cL_build 39 = .ok (.iconst 4, 1) := by decide +kernel
theorem dL_build_40 : decode cL_build 40 = .ok (.invokestatic 15, 3) := by decide +kernel
theorem dL_build_43 : decode cL_build 43 = .ok (.istore 7, 2) := by decide +kernel
theorem dL_build_45 : decode cL_build 45 = .ok (.iconst 0, 1) := by decide +kernel
theorem dL_build_46 : decode cL_build 46 = .ok (.istore 8, 2) := by decide +kernel
theorem dL_build_48 : decode cL_build 48 = .ok (.iconst 0, 1) := by decide +kernel
theorem dL_build_49 : decode cL_build 49 = .ok (.istore 9, 2) := by decide +kernel
theorem dL_build_51 : decode cL_build 51 = .ok (.iload 9, 2) := by decide +kernel
theorem dL_build_53 : decode cL_build 53 = .ok (.bipush 16, 2) := by decide +kernel
theorem dL_build_55 : decode cL_build 55 = .ok (.if_icmp .ge 24, 3) := by decide +kernel
theorem dL_build_58 : decode cL_build 58 = .ok (.iload 8, 2) := by decide +kernel
theorem dL_build_60 : decode cL_build 60 = .ok (.iload 9, 2) := by decide +kernel
theorem dL_build_62 : decode cL_build 62 = .ok (.iload 7, 2) := by decide +kernel
theorem dL_build_64 : decode cL_build 64 = .ok (.ishr, 1) := by decide +kernel
theorem dL_build_65 : decode cL_build 65 = .ok (.iconst 1, 1) := by decide +kernel
theorem dL_build_66 : decode cL_build 66 = .ok (.iand, 1) := by decide +kernel
theorem dL_build_67 : decode cL_build 67 = .ok (.iload 9, 2) := by decide +kernel
theorem dL_build_69 : decode cL_build 69 = .ok (.ishl, 1) := by decide +kernel
theorem dL_build_70 : decode cL_build 70 = .ok (.ior, 1) := by decide +kernel
theorem dL_build_71 : decode cL_build 71 = .ok (.istore 8, 2) := by decide +kernel
theorem dL_build_73 : decode cL_build 73 = .ok (.iinc 9 1, 3) := by decide +kernel
theorem dL_build_76 : decode cL_build 76 = .ok (.goto (-25), 3) := by decide +kernel
theorem dL_build_79 : decode cL_build 79 = .ok (.aload_n 0, 1) := by decide +kernel
theorem dL_build_80 : decode cL_build 80 = .ok (.iload 7, 2) := by decide +kernel
theorem dL_build_82 : decode cL_build 82 = .ok (.invokevirtual 21, 3) := by decide +kernel
theorem dL_build_85 : decode cL_build 85 = .ok (.iload_n 2, 1) := by decide +kernel
theorem dL_build_86 : decode cL_build 86 = .ok (.iconst 1, 1) := by decide +kernel
theorem dL_build_87 : decode cL_build 87 = .ok (.iadd, 1) := by decide +kernel
theorem dL_build_88 : decode cL_build 88 = .ok (.iload 5, 2) := by decide +kernel
theorem dL_build_90 : decode cL_build 90 = .ok (.ifCond .ne 7, 3) := by decide +kernel
theorem dL_build_93 : decode cL_build 93 = .ok (.iconst 0, 1) := by decide +kernel
theorem dL_build_94 : decode cL_build 94 = .ok (.goto 4, 3) := by decide +kernel
theorem dL_build_97 : decode cL_build 97 = .ok (.iconst 1, 1) := by decide +kernel
theorem dL_build_98 : decode cL_build 98 = .ok (.iadd, 1) := by decide +kernel
theorem dL_build_99 : decode cL_build 99 = .ok (.if_icmp .eq 5, 3) := by decide +kernel
theorem dL_build_102 : decode cL_build 102 = .ok (.iconst (-1), 1) := by decide +kernel
theorem dL_build_103 : decode cL_build 103 = .ok (.ireturn, 1) := by decide +kernel
theorem dL_build_104 : decode cL_build 104 = .ok (.iload 6, 2) := by decide +kernel
theorem dL_build_106 : decode cL_build 106 = .ok (.iconst 2, 1) := by decide +kernel
theorem dL_build_107 : decode cL_build 107 = .ok (.ishr, 1) := by decide +kernel
theorem dL_build_108 : decode cL_build 108 = .ok (.iconst 2, 1) := by decide +kernel
theorem dL_build_109 : decode cL_build 109 = .ok (.invokestatic 15, 3) := by decide +kernel
theorem dL_build_112 : decode cL_build 112 = .ok (.ifCond .ne 21, 3) := by decide +kernel
theorem dL_build_115 : decode cL_build 115 = .ok (.ldc 25, 2) := by decide +kernel
theorem dL_build_117 : decode cL_build 117 = .ok (.iload 8, 2) := by decide +kernel
theorem dL_build_119 : decode cL_build 119 = .ok (.isub, 1) := by decide +kernel
theorem dL_build_120 : decode cL_build 120 = .ok (.istore 8, 2) := by decide +kernel
theorem dL_build_122 : decode cL_build 122 = .ok (.aload_n 0, 1) := by decide +kernel
theorem dL_build_123 : decode cL_build 123 = .ok (.invokevirtual 26, 3) := by decide +kernel
theorem dL_build_126 : decode cL_build 126 = .ok (.iload 8, 2) := by decide +kernel
theorem dL_build_128 : decode cL_build 128 = .ok (.if_icmp .eq 5, 3) := by decide +kernel
theorem dL_build_131 : decode cL_build 131 = .ok (.iconst (-1), 1) := by decide +kernel
theorem dL_build_132 : decode cL_build 132 = .ok (.ireturn, 1) := by decide +kernel
theorem dL_build_133 : decode cL_build 133 = .ok (.iload 5, 2) := by decide +kernel
theorem dL_build_135 : decode cL_build 135 = .ok (.ifCond .ne 9, 3) := by decide +kernel
theorem dL_build_138 : decode cL_build 138 = .ok (.iload 8, 2) := by decide +kernel
theorem dL_build_140 : decode cL_build 140 = .ok (.istore_n 3, 1) := by decide +kernel
theorem dL_build_141 : decode cL_build 141 = .ok (.goto 186, 3) := by decide +kernel
theorem dL_build_144 : decode cL_build 144 = .ok (.iload 6, 2) := by decide +kernel
theorem dL_build_146 : decode cL_build 146 = .ok (.iconst 3, 1) := by decide +kernel
theorem dL_build_147 : decode cL_build 147 = .ok (.ishr, 1) := by decide +kernel
theorem dL_build_148 : decode cL_build 148 = .ok (.iconst 4, 1) := by decide +kernel
theorem dL_build_149 : decode cL_build 149 = .ok (.invokestatic 15, 3) := by decide +kernel
theorem dL_build_152 : decode cL_build 152 = .ok (.istore 9, 2) := by decide +kernel
theorem dL_build_154 : decode cL_build 154 = .ok (.iconst 0, 1) := by decide +kernel
theorem dL_build_155 : decode cL_build 155 = .ok (.istore 10, 2) := by decide +kernel
theorem dL_build_157 : decode cL_build 157 = .ok (.iconst 0, 1) := by decide +kernel
theorem dL_build_158 : decode cL_build 158 = .ok (.istore 11, 2) := by decide +kernel
theorem dL_build_160 : decode cL_build 160 = .ok (.iload 11, 2) := by decide +kernel
theorem dL_build_162 : decode cL_build 162 = .ok (.bipush 16, 2) := by decide +kernel
theorem dL_build_164 : decode cL_build 164 = .ok (.if_icmp .ge 147, 3) := by decide +kernel
theorem dL_build_167 : decode cL_build 167 = .ok (.iload_n 3, 1) := by decide +kernel
theorem dL_build_168 : decode cL_build 168 = .ok (.iload 11, 2) := by decide +kernel
theorem dL_build_170 : decode cL_build 170 = .ok (.ishr, 1) := by decide +kernel
theorem dL_build_171 : decode cL_build 171 = .ok (.iconst 1, 1) := by decide +kernel
theorem dL_build_172 : decode cL_build 172 = .ok (.iand, 1) := by decide +kernel
theorem dL_build_173 : decode cL_build 173 = .ok (.iconst 1, 1) := by decide +kernel
theorem dL_build_174 : decode cL_build 174 = .ok (.if_icmp .ne 7, 3) := by decide +kernel
theorem dL_build_177 : decode cL_build 177 = .ok (.iconst 1, 1) := by decide +kernel
theorem dL_build_178 : decode cL_build 178 = .ok (.goto 4, 3) := by decide +kernel
theorem dL_build_181 : decode cL_build 181 = .ok (.iconst 0, 1) := by decide +kernel
theorem dL_build_182 : decode cL_build 182 = .ok (.istore 12, 2) := by decide +kernel
theorem dL_build_184 : decode cL_build 184 = .ok (.iload 8, 2) := by decide +kernel
theorem dL_build_186 : decode cL_build 186 = .ok (.iload 11, 2) := by decide +kernel
theorem dL_build_188 : decode cL_build 188 = .ok (.ishr, 1) := by decide +kernel
theorem dL_build_189 : decode cL_build 189 = .ok (.iconst 1, 1) := by decide +kernel
theorem dL_build_190 : decode cL_build 190 = .ok (.iand, 1) := by decide +kernel
theorem dL_build_191 : decode cL_build 191 = .ok (.iconst 1, 1) := by decide +kernel
theorem dL_build_192 : decode cL_build 192 = .ok (.if_icmp .ne 7, 3) := by decide +kernel
theorem dL_build_195 : decode cL_build 195 = .ok (.iconst 1, 1) := by decide +kernel
theorem dL_build_196 : decode cL_build 196 = .ok (.goto 4, 3) := by decide +kernel
theorem dL_build_199 : decode cL_build 199 = .ok (.iconst 0, 1) := by decide +kernel
theorem dL_build_200 : decode cL_build 200 = .ok (.istore 13, 2) := by decide +kernel
theorem dL_build_202 : decode cL_build 202 = .ok (.iload 9, 2) := by decide +kernel
theorem dL_build_204 : decode cL_build 204 = .ok (.ifCond .ne 21, 3) := by decide +kernel
theorem dL_build_207 : decode cL_build 207 = .ok (.iload 12, 2) := by decide +kernel
theorem dL_build_209 : decode cL_build 209 = .ok (.ifCond .eq 12, 3) := by decide +kernel
theorem dL_build_212 : decode cL_build 212 = .ok (.iload 13, 2) := by decide +kernel
theorem dL_build_214 : decode cL_build 214 = .ok (.ifCond .eq 7, 3) := by decide +kernel
theorem dL_build_217 : decode cL_build 217 = .ok (.iconst 1, 1) := by decide +kernel
theorem dL_build_218 : decode cL_build 218 = .ok (.goto 67, 3) := by decide +kernel
theorem dL_build_221 : decode cL_build 221 = .ok (.iconst 0, 1) := by decide +kernel
theorem dL_build_222 : decode cL_build 222 = .ok (.goto 63, 3) := by decide +kernel
theorem dL_build_225 : decode cL_build 225 = .ok (.iload 9, 2) := by decide +kernel
theorem dL_build_227 : decode cL_build 227 = .ok (.iconst 1, 1) := by decide +kernel
theorem dL_build_228 : decode cL_build 228 = .ok (.if_icmp .ne 21, 3) := by decide +kernel
theorem dL_build_231 : decode cL_build 231 = .ok (.iload 12, 2) := by decide +kernel
theorem dL_build_233 : decode cL_build 233 = .ok (.ifCond .ne 8, 3) := by decide +kernel
theorem dL_build_236 : decode cL_build 236 = .ok (.iload 13, 2) := by decide +kernel
theorem dL_build_238 : decode cL_build 238 = .ok (.ifCond .eq 7, 3) := by decide +kernel
theorem dL_build_241 : decode cL_build 241 = .ok (.iconst 1, 1) := by decide +kernel
theorem dL_build_242 : decode cL_build 242 = .ok (.goto 43, 3) := by decide +kernel
theorem dL_build_245 : decode cL_build 245 = .ok (.iconst 0, 1) := by decide +kernel
theorem dL_build_246 : decode cL_build 246 = .ok (.goto 39, 3) := by decide +kernel
theorem dL_build_249 : decode cL_build 249 = .ok (.iload 9, 2) := by decide +kernel
theorem dL_build_251 : decode cL_build 251 = .ok (.iconst 2, 1) := by decide +kernel
theorem dL_build_252 : decode cL_build 252 = .ok (.if_icmp .ne 21, 3) := by decide +kernel
theorem dL_build_255 : decode cL_build 255 = .ok (.iload 12, 2) := by decide +kernel
theorem dL_build_257 : decode cL_build 257 = .ok (.ifCond .ne 8, 3) := by decide +kernel
theorem dL_build_260 : decode cL_build 260 = .ok (.iload 13, 2) := by decide +kernel
theorem dL_build_262 : decode cL_build 262 = .ok (.ifCond .ne 7, 3) := by decide +kernel
theorem dL_build_265 : decode cL_build 265 = .ok (.iconst 1, 1) := by decide +kernel
theorem dL_build_266 : decode cL_build 266 = .ok (.goto 19, 3) := by decide +kernel
theorem dL_build_269 : decode cL_build 269 = .ok (.iconst 0, 1) := by decide +kernel
theorem dL_build_270 : decode cL_build 270 = .ok (.goto 15, 3) := by decide +kernel
theorem dL_build_273 : decode cL_build 273 = .ok (.iload 12, 2) := by decide +kernel
theorem dL_build_275 : decode cL_build 275 = .ok (.iload 13, 2) := by decide +kernel
theorem dL_build_277 : decode cL_build 277 = .ok (.if_icmp .ne 7, 3) := by decide +kernel
theorem dL_build_280 : decode cL_build 280 = .ok (.iconst 1, 1) := by decide +kernel
theorem dL_build_281 : decode cL_build 281 = .ok (.goto 4, 3) := by decide +kernel
theorem dL_build_284 : decode cL_build 284 = .ok (.iconst 0, 1) := by decide +kernel
theorem dL_build_285 : decode cL_build 285 = .ok (.istore 14, 2) := by decide +kernel
theorem dL_build_287 : decode cL_build 287 = .ok (.iload 10, 2) := by decide +kernel
theorem dL_build_289 : decode cL_build 289 = .ok (.iload 14, 2) := by decide +kernel
theorem dL_build_291 : decode cL_build 291 = .ok (.ifCond .eq 10, 3) := by decide +kernel
theorem dL_build_294 : decode cL_build 294 = .ok (.iconst 1, 1) := by decide +kernel
theorem dL_build_295 : decode cL_build 295 = .ok (.iload 11, 2) := by decide +kernel
theorem dL_build_297 : decode cL_build 297 = .ok (.ishl, 1) := by decide +kernel
theorem dL_build_298 : decode cL_build 298 = .ok (.goto 4, 3) := by decide +kernel
theorem dL_build_301 : decode cL_build 301 = .ok (.iconst 0, 1) := by decide +kernel
theorem dL_build_302 : decode cL_build 302 = .ok (.ior, 1) := by decide +kernel
theorem dL_build_303 : decode cL_build 303 = .ok (.istore 10, 2) := by decide +kernel
theorem dL_build_305 : decode cL_build 305 = .ok (.iinc 11 1, 3) := by decide +kernel
theorem dL_build_308 : decode cL_build 308 = .ok (.goto (-148), 3) := by decide +kernel
theorem dL_build_311 : decode cL_build 311 = .ok (.aload_n 0, 1) := by decide +kernel
theorem dL_build_312 : decode cL_build 312 = .ok (.iload 9, 2) := by decide +kernel
theorem dL_build_314 : decode cL_build 314 = .ok (.invokevirtual 29, 3) := by decide +kernel
theorem dL_build_317 : decode cL_build 317 = .ok (.iload 10, 2) := by decide +kernel
theorem dL_build_319 : decode cL_build 319 = .ok (.if_icmp .eq 5, 3) := by decide +kernel
theorem dL_build_322 : decode cL_build 322 = .ok (.iconst (-1), 1) := by decide +kernel
theorem dL_build_323 : decode cL_build 323 = .ok (.ireturn, 1) := by decide +kernel
theorem dL_build_324 : decode cL_build 324 = .ok (.iload 10, 2) := by decide +kernel
theorem dL_build_326 : decode cL_build 326 = .ok (.istore_n 3, 1) := by decide +kernel
theorem dL_build_327 : decode cL_build 327 = .ok (.iinc 5 1, 3) := by decide +kernel
theorem dL_build_330 : decode cL_build 330 = .ok (.goto (-311), 3) := by decide +kernel
theorem dL_build_333 : decode cL_build 333 = .ok (.aload_n 0, 1) := by decide +kernel
theorem dL_build_334 : decode cL_build 334 = .ok (.invokevirtual 32, 3) := by decide +kernel
theorem dL_build_337 : decode cL_build 337 = .ok (.iload_n 3, 1) := by decide +kernel
theorem dL_build_338 : decode cL_build 338 = .ok (.if_icmp .ne 17, 3) := by decide +kernel
theorem dL_build_341 : decode cL_build 341 = .ok (.aload_n 0, 1) := by decide +kernel
theorem dL_build_342 : decode cL_build 342 = .ok (.invokevirtual 9, 3) := by decide +kernel
theorem dL_build_345 : decode cL_build 345 = .ok (.iload_n 2, 1) := by decide +kernel
theorem dL_build_346 : decode cL_build 346 = .ok (.iconst 1, 1) := by decide +kernel
theorem dL_build_347 : decode cL_build 347 = .ok (.iadd, 1) := by decide +kernel
theorem dL_build_348 : decode cL_build 348 = .ok (.if_icmp .ne 7, 3) := by decide +kernel
theorem dL_build_351 : decode cL_build 351 = .ok (.iload_n 3, 1) := by decide +kernel
theorem dL_build_352 : decode cL_build 352 = .ok (.goto 4, 3) := by decide +kernel
theorem dL_build_355 : decode cL_build 355 = .ok (.iconst (-1), 1) := by decide +kernel
theorem dL_build_356 : decode cL_build 356 = .ok (.ireturn, 1) := by decide +kernel
set_option maxRecDepth 20000 in
theorem ggL_base_L_cell : GoodIn wsL_base wsL_cell := goodIn_r _ [4, 5] (by decide +kernel) (by decide +kernel)
set_option maxRecDepth 20000 in
theorem gL_base_L_cell : GoodIn wsL_base (va_wsS RL 35 yL_cell wsL_cell) := goodIn_app (goodIn_of _ (by decide +kernel)) ggL_base_L_cell
set_option maxRecDepth 20000 in
theorem ggL_base_L_below : GoodIn wsL_base wsL_below := goodIn_r _ [8, 9] (by decide +kernel) (by decide +kernel)
set_option maxRecDepth 20000 in
theorem gL_base_L_below : GoodIn wsL_base (va_wsS RL 15 yL_below wsL_below) := goodIn_app (goodIn_of _ (by decide +kernel)) ggL_base_L_below
set_option maxRecDepth 20000 in
theorem ggL_base_L_build : GoodIn wsL_base wsL_build := goodIn_ca (goodIn_ca (goodIn_ca (goodIn_r _ [12, 13, 14, 15, 16, 17, 18, 19, 20, 21, 22, 23, 24, 25, 6, 7, 3, 8, 9, 26, 27, 28, 29, 30, 31, 32, 33, 34, 35, 36, 37, 38, 39, 40, 41, 42, 43, 44, 45, 46, 47, 48, 49, 50, 51, 52, 53, 54, 55, 56, 57, 58, 59, 60, 61, 62, 63, 64, 65, 66, 67, 68, 69, 70, 71, 72, 73, 74, 75, 76, 77, 78, 79, 80, 81, 82, 83, 84, 85, 86, 87, 88, 89, 90, 91, 92, 93, 94, 95, 96, 97, 98, 99, 100, 101, 102, 142, 143, 144, 145, 146] (by decide +kernel) (by decide +kernel)) (goodIn_sub (fun _ h => List.mem_cons_of_mem _ (List.mem_append_left _ (List.mem_append_left _ (List.mem_append_right _ h)))) (by decide +kernel))) (goodIn_sub (fun _ h => List.mem_cons_of_mem _ (List.mem_append_left _ (List.mem_append_right _ h))) (by decide +kernel))) (goodIn_sub (fun _ h => List.mem_cons_of_mem _ (List.mem_append_right _ h)) (by decide +kernel))
set_option maxRecDepth 20000 in
theorem gL_base_L_build : GoodIn wsL_base (va_wsS RL 39 yL_build wsL_build) := goodIn_app (goodIn_of _ (by decide +kernel)) ggL_base_L_build
set_option maxRecDepth 20000 in
theorem ggL_base_X3_add : GoodIn wsL_base wsX3_add := goodIn_ca (goodIn_ca (goodIn_r _ [106, 40, 41, 107, 108, 109, 17, 110, 90, 91, 61, 62, 63, 64, 19, 20, 21, 22, 23, 24, 25, 65, 66, 67, 68, 53, 47, 48, 111, 112, 113, 114, 115, 116, 117, 118, 119, 120, 121, 122, 123, 124, 55, 56, 125, 126, 127, 128, 129, 130, 131, 132, 142, 143, 144, 145, 146, 147, 148, 149, 150] (by decide +kernel) (by decide +kernel)) (goodIn_sub (fun _ h => List.mem_cons_of_mem _ (List.mem_append_left _ (List.mem_append_right _ h))) (by decide +kernel))) (goodIn_sub (fun _ h => List.mem_cons_of_mem _ (List.mem_append_right _ h)) (by decide +kernel))
set_option maxRecDepth 20000 in
theorem gL_base_X3_add : GoodIn wsL_base (wsV RL 43 RX3 yX3_add wsX3_add) := goodIn_app (goodIn_of _ (by decide +kernel)) ggL_base_X3_add
set_option maxRecDepth 20000 in
theorem ggL_base_X3_pop : GoodIn wsL_base wsX3_pop := goodIn_ca (goodIn_r _ [136, 19, 61, 62, 63, 17, 64, 40, 41, 20, 21, 22, 23, 24, 25, 65, 66, 67, 68, 53, 47, 48, 137, 78, 79, 80, 81, 82, 83, 84, 142, 143, 144, 145, 146] (by decide +kernel) (by decide +kernel)) (goodIn_sub (fun _ h => List.mem_cons_of_mem _ (List.mem_append_left _ (List.mem_append_right _ h))) (by decide +kernel))
set_option maxRecDepth 20000 in
theorem gL_base_X3_pop : GoodIn wsL_base (wsV RL 46 RX3 yX3_pop wsX3_pop) := goodIn_app (goodIn_of _ (by decide +kernel)) ggL_base_X3_pop
set_option maxRecDepth 20000 in
theorem ggL_base_X3_size : GoodIn wsL_base wsX3_size := goodIn_r _ [141, 107, 129, 130, 131, 114, 132, 116, 142, 143, 144, 147, 148, 149, 150] (by decide +kernel) (by decide +kernel)
set_option maxRecDepth 20000 in
theorem gL_base_X3_size : GoodIn wsL_base (wsV RL 49 RX3 yX3_size wsX3_size) := goodIn_app (goodIn_of _ (by decide +kernel)) ggL_base_X3_size
theorem dL_base_0 : decode cL_base 0 = .ok (.aload_n 1, 1) := by decide +kernel
theorem dL_base_1 : decode cL_base 1 = .ok (.iload_n 2, 1) := by decide +kernel
theorem dL_base_2 : decode cL_base 2 = .ok (.invokestatic 35, 3) := by decide +kernel
theorem dL_base_5 : decode cL_base 5 = .ok (.iload_n 3, 1) := by decide +kernel
theorem dL_base_6 : decode cL_base 6 = .ok (.iconst 1, 1) := by decide +kernel
theorem dL_base_7 : decode cL_base 7 = .ok (.iadd, 1) := by decide +kernel
theorem dL_base_8 : decode cL_base 8 = .ok (.invokestatic 15, 3) := by decide +kernel
theorem dL_base_11 : decode cL_base 11 = .ok (.istore 6, 2) := by decide +kernel
theorem dL_base_13 : decode cL_base 13 = .ok (.iconst 0, 1) := by decide +kernel
theorem dL_base_14 : decode cL_base 14 = .ok (.istore 7, 2) := by decide +kernel
theorem dL_base_16 : decode cL_base 16 = .ok (.iload 7, 2) := by decide +kernel
theorem dL_base_18 : decode cL_base 18 = .ok (.iload 6, 2) := by decide +kernel
theorem dL_base_20 : decode cL_base 20 = .ok (.if_icmp .ge 109, 3) := by decide +kernel
theorem dL_base_23 : decode cL_base 23 = .ok (.aload_n 1, 1) := by decide +kernel
theorem dL_base_24 : decode cL_base 24 = .ok (.iload_n 2, 1) := by decide +kernel
theorem dL_base_25 : decode cL_base 25 = .ok (.iconst 1, 1) := by decide +kernel
theorem dL_base_26 : decode cL_base 26 = .ok (.iadd, 1) := by decide +kernel
theorem dL_base_27 : decode cL_base 27 = .ok (.iload 7, 2) := by decide +kernel
theorem dL_base_29 : decode cL_base 29 = .ok (.bipush 7, 2) := by decide +kernel
theorem dL_base_31 : decode cL_base 31 = .ok (.irem, 1) := by decide +kernel
theorem dL_base_32 : decode cL_base 32 = .ok (.iadd, 1) := by decide +kernel
theorem dL_base_33 : decode cL_base 33 = .ok (.invokestatic 35, 3) := by decide +kernel
theorem dL_base_36 : decode cL_base 36 = .ok (.iload 7, 2) := by decide +kernel
theorem dL_base_38 : decode cL_base 38 = .ok (.bipush 7, 2) := by decide +kernel
theorem dL_base_40 : decode cL_base 40 = .ok (.idiv, 1) := by decide +kernel
theorem dL_base_41 : decode cL_base 41 = .ok (.iconst 5, 1) := by decide +kernel
theorem dL_base_42 : decode cL_base 42 = .ok (.imul, 1) := by decide +kernel
theorem dL_base_43 : decode cL_base 43 = .ok (.ishr, 1) := by decide +kernel
theorem dL_base_44 : decode cL_base 44 = .ok (.istore 8, 2) := by decide +kernel
theorem dL_base_46 : decode cL_base 46 = .ok (.aload 4, 2) := by decide +kernel
theorem dL_base_48 : decode cL_base 48 = .ok (.iload 7, 2) := by decide +kernel
theorem dL_base_50 : decode cL_base 50 = .ok (.aload_n 0, 1) := by decide +kernel
theorem dL_base_51 : decode cL_base 51 = .ok (.iload 8, 2) := by decide +kernel
theorem dL_base_53 : decode cL_base 53 = .ok (.invokestatic 39, 3) := by decide +kernel
theorem dL_base_56 : decode cL_base 56 = .ok (.iastore, 1) := by decide +kernel
theorem dL_base_57 : decode cL_base 57 = .ok (.aload 5, 2) := by decide +kernel
theorem dL_base_59 : decode cL_base 59 = .ok (.iload 7, 2) := by decide +kernel
theorem dL_base_61 : decode cL_base 61 = .ok (.iconst 1, 1) := by decide +kernel
theorem dL_base_62 : decode cL_base 62 = .ok (.iload 8, 2) := by decide +kernel
theorem dL_base_64 : decode cL_base 64 = .ok (.bipush 19, 2) := by decide +kernel
theorem dL_base_66 : decode cL_base 66 = .ok (.ishr, 1) := by decide +kernel
theorem dL_base_67 : decode cL_base 67 = .ok (.aload_n 1, 1) := by decide +kernel
theorem dL_base_68 : decode cL_base 68 = .ok (.iload_n 2, 1) := by decide +kernel
theorem dL_base_69 : decode cL_base 69 = .ok (.invokestatic 35, 3) := by decide +kernel
theorem dL_base_72 : decode cL_base 72 = .ok (.iconst 4, 1) := by decide +kernel
theorem dL_base_73 : decode cL_base 73 = .ok (.ishr, 1) := by decide +kernel
theorem dL_base_74 : decode cL_base 74 = .ok (.iconst 2, 1) := by decide +kernel
theorem dL_base_75 : decode cL_base 75 = .ok (.invokestatic 15, 3) := by decide +kernel
theorem dL_base_78 : decode cL_base 78 = .ok (.ifCond .ne 8, 3) := by decide +kernel
theorem dL_base_81 : decode cL_base 81 = .ok (.bipush 9, 2) := by decide +kernel
theorem dL_base_83 : decode cL_base 83 = .ok (.goto 4, 3) := by decide +kernel
theorem dL_base_86 : decode cL_base 86 = .ok (.iconst 3, 1) := by decide +kernel
theorem dL_base_87 : decode cL_base 87 = .ok (.invokestatic 15, 3) := by decide +kernel
theorem dL_base_90 : decode cL_base 90 = .ok (.iadd, 1) := by decide +kernel
theorem dL_base_91 : decode cL_base 91 = .ok (.iastore, 1) := by decide +kernel
theorem dL_base_92 : decode cL_base 92 = .ok (.aload 4, 2) := by decide +kernel
theorem dL_base_94 : decode cL_base 94 = .ok (.iload 7, 2) := by decide +kernel
theorem dL_base_96 : decode cL_base 96 = .ok (.iaload, 1) := by decide +kernel
theorem dL_base_97 : decode cL_base 97 = .ok (.ifCond .lt 24, 3) := by decide +kernel
theorem dL_base_100 : decode cL_base 100 = .ok (.aload_n 0, 1) := by decide +kernel
theorem dL_base_101 : decode cL_base 101 = .ok (.aload 5, 2) := by decide +kernel
theorem dL_base_103 : decode cL_base 103 = .ok (.iload 7, 2) := by decide +kernel
theorem dL_base_105 : decode cL_base 105 = .ok (.iaload, 1) := by decide +kernel
theorem dL_base_106 : decode cL_base 106 = .ok (.invokevirtual 43, 3) := by decide +kernel
theorem dL_base_109 : decode cL_base 109 = .ok (.iload 7, 2) := by decide +kernel
theorem dL_base_111 : decode cL_base 111 = .ok (.if_icmp .ne 10, 3) := by decide +kernel
theorem dL_base_114 : decode cL_base 114 = .ok (.aload_n 0, 1) := by decide +kernel
theorem dL_base_115 : decode cL_base 115 = .ok (.invokevirtual 46, 3) := by decide +kernel
theorem dL_base_118 : decode cL_base 118 = .ok (.ifCond .eq 5, 3) := by decide +kernel
theorem dL_base_121 : decode cL_base 121 = .ok (.iconst (-1), 1) := by decide +kernel
theorem dL_base_122 : decode cL_base 122 = .ok (.ireturn, 1) := by decide +kernel
theorem dL_base_123 : decode cL_base 123 = .ok (.iinc 7 1, 3) := by decide +kernel
theorem dL_base_126 : decode cL_base 126 = .ok (.goto (-110), 3) := by decide +kernel
theorem dL_base_129 : decode cL_base 129 = .ok (.aload_n 0, 1) := by decide +kernel
theorem dL_base_130 : decode cL_base 130 = .ok (.invokevirtual 49, 3) := by decide +kernel
theorem dL_base_133 : decode cL_base 133 = .ok (.iload 6, 2) := by decide +kernel
theorem dL_base_135 : decode cL_base 135 = .ok (.if_icmp .ne 8, 3) := by decide +kernel
theorem dL_base_138 : decode cL_base 138 = .ok (.iload 6, 2) := by decide +kernel
theorem dL_base_140 : decode cL_base 140 = .ok (.goto 4, 3) := by decide +kernel
theorem dL_base_143 : decode cL_base 143 = .ok (.iconst (-1), 1) := by decide +kernel
theorem dL_base_144 : decode cL_base 144 = .ok (.ireturn, 1) := by decide +kernel
set_option maxRecDepth 20000 in
theorem ggL_law_X3_init : GoodIn wsL_law wsX3_init := goodIn_r _ [7, 8, 9, 10, 11, 12, 13, 14, 15, 16, 17, 18, 19, 20, 21, 22, 23, 24, 25, 3, 26, 27, 28, 29, 30, 31, 32, 33, 34, 35, 36, 37, 2, 38, 39, 40, 41, 42, 43, 384, 385, 381, 382, 383, 386, 387, 388, 389, 390, 391] (by decide +kernel) (by decide +kernel)
set_option maxRecDepth 20000 in
theorem gL_law_X3_init : GoodIn wsL_law (wsX3_init) := ggL_law_X3_init
set_option maxRecDepth 20000 in
theorem ggL_law_L_base : GoodIn wsL_law wsL_base := goodIn_ca (goodIn_ca (goodIn_ca (goodIn_r _ [47, 48, 49, 46, 50, 51, 52, 53, 54, 55, 56, 57, 58, 4, 59, 60, 61, 2, 62, 14, 63, 64, 65, 13, 66, 27, 67, 68, 69, 70, 71, 72, 73, 74, 75, 76, 77, 78, 79, 80, 81, 82, 83, 84, 85, 86, 87, 88, 89, 90, 91, 92, 93, 26, 94, 37, 38, 95, 96, 97, 98, 99, 100, 101, 102, 103, 104, 105, 106, 107, 108, 109, 110, 111, 112, 113, 114, 115, 116, 117, 118, 119, 120, 121, 122, 123, 124, 125, 126, 127, 128, 129, 130, 131, 132, 133, 134, 135, 136, 137, 138, 139, 140, 141, 142, 143, 144, 18, 145, 146, 147, 148, 149, 150, 17, 151, 35, 152, 153, 154, 155, 32, 33, 34, 156, 157, 158, 159, 160, 161, 162, 163, 164, 165, 166, 167, 168, 169, 170, 171, 172, 173, 381, 382, 383, 384, 385, 386, 387, 388, 389] (by decide +kernel) (by decide +kernel)) (goodIn_sub (fun _ h => List.mem_append_left _ (List.mem_append_left _ (List.mem_append_right _ h))) (by decide +kernel))) (goodIn_sub (fun _ h => List.mem_append_left _ (List.mem_append_right _ h)) (by decide +kernel))) (goodIn_sub (fun _ h => List.mem_append_right _ h) (by decide +kernel))
set_option maxRecDepth 20000 in
theorem gL_law_L_base : GoodIn wsL_law (va_wsS RL 53 yL_base wsL_base) := goodIn_app (goodIn_of _ (by decide +kernel)) ggL_law_L_base
set_option maxRecDepth 20000 in
theorem ggL_law_L_cell : GoodIn wsL_law wsL_cell := goodIn_r _ [50, 51] (by decide +kernel) (by decide +kernel)
set_option maxRecDepth 20000 in
theorem gL_law_L_cell : GoodIn wsL_law (va_wsS RL 35 yL_cell wsL_cell) := goodIn_app (goodIn_of _ (by decide +kernel)) ggL_law_L_cell
set_option maxRecDepth 20000 in
theorem ggL_law_L_build : GoodIn wsL_law wsL_build := goodIn_ca (goodIn_ca (goodIn_ca (goodIn_r _ [58, 4, 59, 60, 61, 2, 62, 14, 63, 64, 65, 13, 66, 27, 52, 53, 46, 54, 55, 67, 68, 69, 70, 71, 72, 73, 74, 75, 76, 77, 78, 79, 80, 81, 82, 83, 84, 85, 86, 87, 88, 89, 90, 91, 92, 93, 26, 94, 37, 38, 95, 96, 97, 98, 99, 100, 101, 102, 103, 104, 105, 106, 107, 108, 109, 110, 111, 112, 113, 114, 115, 116, 117, 118, 119, 120, 121, 122, 123, 124, 125, 126, 127, 128, 129, 130, 131, 132, 133, 134, 135, 136, 137, 138, 139, 140, 381, 382, 383, 384, 385] (by decide +kernel) (by decide +kernel)) (goodIn_sub (fun _ h => List.mem_append_left _ (List.mem_append_left _ (List.mem_append_right _ h))) (by decide +kernel))) (goodIn_sub (fun _ h => List.mem_append_left _ (List.mem_append_right _ h)) (by decide +kernel))) (goodIn_sub (fun _ h => List.mem_append_right _ h) (by decide +kernel))
set_option maxRecDepth 20000 in
theorem gL_law_L_build : GoodIn wsL_law (va_wsS RL 39 yL_build wsL_build) := goodIn_app (goodIn_of _ (by decide +kernel)) ggL_law_L_build
set_option maxRecDepth 20000 in
theorem ggL_law_X3_entails : GoodIn wsL_law wsX3_entails := goodIn_ca (goodIn_ca (goodIn_r _ [177, 18, 99, 100, 101, 2, 102, 81, 82, 14, 63, 64, 65, 13, 66, 27, 103, 104, 105, 106, 26, 88, 89, 178, 179, 180, 181, 128, 129, 182, 158, 159, 17, 160, 35, 183, 184, 185, 186, 34, 108, 109, 110, 381, 382, 383, 384, 385, 386, 387, 388, 389] (by decide +kernel) (by decide +kernel)) (goodIn_sub (fun _ h => List.mem_append_left _ (List.mem_append_right _ h)) (by decide +kernel))) (goodIn_sub (fun _ h => List.mem_append_right _ h) (by decide +kernel))
set_option maxRecDepth 20000 in
theorem gL_law_X3_entails : GoodIn wsL_law (wsV RL 57 RX3 yX3_entails wsX3_entails) := goodIn_app (goodIn_of _ (by decide +kernel)) ggL_law_X3_entails
set_option maxRecDepth 20000 in
theorem ggL_law_X3_kernels : GoodIn wsL_law wsX3_kernels := goodIn_ca (goodIn_r _ [190, 18, 99, 100, 101, 2, 102, 81, 82, 14, 63, 64, 65, 13, 66, 27, 103, 104, 105, 106, 26, 88, 89, 191, 192, 193, 17, 194, 157, 158, 159, 160, 35, 195, 196, 197, 198, 199, 200, 201, 202, 203, 184, 185, 186, 34, 108, 109, 110, 204, 205, 206, 207, 208, 209, 381, 382, 383, 384, 385, 386, 387, 388, 389] (by decide +kernel) (by decide +kernel)) (goodIn_sub (fun _ h => List.mem_append_left _ (List.mem_append_right _ h)) (by decide +kernel))
set_option maxRecDepth 20000 in
theorem gL_law_X3_kernels : GoodIn wsL_law (wsV RL 61 RX3 yX3_kernels wsX3_kernels) := goodIn_app (goodIn_of _ (by decide +kernel)) ggL_law_X3_kernels
set_option maxRecDepth 20000 in
theorem ggL_law_X3_remainders : GoodIn wsL_law wsX3_remainders := goodIn_ca (goodIn_r _ [213, 18, 99, 100, 101, 2, 102, 81, 82, 14, 63, 64, 65, 13, 66, 27, 103, 104, 105, 106, 26, 88, 89, 191, 192, 193, 17, 194, 157, 158, 159, 160, 35, 195, 196, 197, 198, 199, 200, 201, 202, 203, 184, 185, 186, 34, 108, 109, 110, 204, 205, 206, 207, 208, 209, 381, 382, 383, 384, 385, 386, 387, 388, 389] (by decide +kernel) (by decide +kernel)) (goodIn_sub (fun _ h => List.mem_append_left _ (List.mem_append_right _ h)) (by decide +kernel))
set_option maxRecDepth 20000 in
theorem gL_law_X3_remainders : GoodIn wsL_law (wsV RL 64 RX3 yX3_remainders wsX3_remainders) := goodIn_app (goodIn_of _ (by decide +kernel)) ggL_law_X3_remainders
set_option maxRecDepth 20000 in
theorem ggL_law_X3_cut : GoodIn wsL_law wsX3_cut := goodIn_ca (goodIn_r _ [217, 18, 99, 100, 101, 2, 102, 81, 82, 14, 63, 64, 65, 13, 66, 27, 103, 104, 105, 106, 26, 88, 89, 218, 219, 220, 17, 221, 157, 158, 159, 160, 35, 199, 200, 201, 202, 203, 184, 185, 186, 34, 108, 109, 110, 204, 205, 222, 223, 224, 225, 226, 227, 121, 228, 229, 230, 231, 232, 33, 233, 234, 235, 236, 381, 382, 383, 384, 385, 386, 387, 388, 389] (by decide +kernel) (by decide +kernel)) (goodIn_sub (fun _ h => List.mem_append_left _ (List.mem_append_right _ h)) (by decide +kernel))
set_option maxRecDepth 20000 in
theorem gL_law_X3_cut : GoodIn wsL_law (wsV RL 67 RX3 yX3_cut wsX3_cut) := goodIn_app (goodIn_of _ (by decide +kernel)) ggL_law_X3_cut
set_option maxRecDepth 20000 in
theorem ggL_law_X3_degree : GoodIn wsL_law wsX3_degree := goodIn_ca (goodIn_r _ [240, 18, 99, 100, 101, 2, 102, 81, 82, 14, 63, 64, 65, 13, 66, 27, 103, 104, 105, 106, 26, 88, 89, 241, 242, 243, 17, 244, 36, 233, 234, 235, 236, 35, 229, 230, 231, 232, 33, 203, 184, 185, 186, 34, 108, 109, 110, 381, 382, 383, 384, 385, 386, 387, 388, 389] (by decide +kernel) (by decide +kernel)) (goodIn_sub (fun _ h => List.mem_append_left _ (List.mem_append_right _ h)) (by decide +kernel))
set_option maxRecDepth 20000 in
theorem gL_law_X3_degree : GoodIn wsL_law (wsV RL 70 RX3 yX3_degree wsX3_degree) := goodIn_app (goodIn_of _ (by decide +kernel)) ggL_law_X3_degree
set_option maxRecDepth 20000 in
theorem ggL_law_X3_remainder : GoodIn wsL_law wsX3_remainder := goodIn_ca (goodIn_ca (goodIn_r _ [248, 99, 100, 101, 2, 102, 81, 82, 14, 63, 64, 65, 13, 66, 27, 103, 104, 105, 106, 26, 88, 89, 249, 250, 251, 252, 75, 76, 18, 253, 254, 255, 17, 256, 157, 158, 159, 160, 35, 195, 196, 197, 198, 199, 200, 201, 202, 203, 184, 185, 186, 34, 108, 109, 110, 204, 205, 206, 207, 208, 209, 381, 382, 383, 384, 385, 386, 387, 388, 389] (by decide +kernel) (by decide +kernel)) (goodIn_sub (fun _ h => List.mem_append_left _ (List.mem_append_right _ h)) (by decide +kernel))) (goodIn_sub (fun _ h => List.mem_append_left _ (List.mem_append_left _ (List.mem_append_right _ h))) (by decide +kernel))
set_option maxRecDepth 20000 in
theorem gL_law_X3_remainder : GoodIn wsL_law (wsV RL 73 RX3 yX3_remainder wsX3_remainder) := goodIn_app (goodIn_of _ (by decide +kernel)) ggL_law_X3_remainder
set_option maxRecDepth 20000 in
theorem ggL_law_X3_bestRemainder : GoodIn wsL_law wsX3_bestRemainder := goodIn_ca (goodIn_r _ [260, 18, 99, 100, 101, 2, 102, 81, 82, 14, 63, 64, 65, 13, 66, 27, 103, 104, 105, 106, 26, 88, 89, 261, 262, 263, 17, 264, 157, 158, 159, 160, 35, 206, 207, 208, 209, 203, 184, 185, 186, 34, 108, 109, 110, 204, 205, 265, 266, 267, 268, 229, 230, 231, 232, 33, 381, 382, 383, 384, 385, 386, 387, 388, 389] (by decide +kernel) (by decide +kernel)) (goodIn_sub (fun _ h => List.mem_append_left _ (List.mem_append_right _ h)) (by decide +kernel))
set_option maxRecDepth 20000 in
theorem gL_law_X3_bestRemainder : GoodIn wsL_law (wsV RL 76 RX3 yX3_bestRemainder wsX3_bestRemainder) := goodIn_app (goodIn_of _ (by decide +kernel)) ggL_law_X3_bestRemainder
set_option maxRecDepth 20000 in
theorem ggL_law_X3_kernel : GoodIn wsL_law wsX3_kernel := goodIn_ca (goodIn_ca (goodIn_r _ [272, 99, 100, 101, 2, 102, 81, 82, 14, 63, 64, 65, 13, 66, 27, 103, 104, 105, 106, 26, 88, 89, 249, 250, 251, 252, 75, 76, 18, 253, 254, 255, 17, 256, 157, 158, 159, 160, 35, 195, 196, 197, 198, 199, 200, 201, 202, 203, 184, 185, 186, 34, 108, 109, 110, 204, 205, 206, 207, 208, 209, 381, 382, 383, 384, 385, 386, 387, 388, 389] (by decide +kernel) (by decide +kernel)) (goodIn_sub (fun _ h => List.mem_append_left _ (List.mem_append_right _ h)) (by decide +kernel))) (goodIn_sub (fun _ h => List.mem_append_left _ (List.mem_append_left _ (List.mem_append_right _ h))) (by decide +kernel))
set_option maxRecDepth 20000 in
theorem gL_law_X3_kernel : GoodIn wsL_law (wsV RL 79 RX3 yX3_kernel wsX3_kernel) := goodIn_app (goodIn_of _ (by decide +kernel)) ggL_law_X3_kernel
set_option maxRecDepth 20000 in
theorem ggL_law_X3_core : GoodIn wsL_law wsX3_core := goodIn_r _ [276, 18, 277, 278, 279, 17, 280, 281, 242, 243, 244, 36, 233, 234, 235, 236, 35, 229, 230, 231, 232, 33, 88, 2, 89, 203, 184, 185, 186, 34, 108, 109, 110, 282, 283, 284, 285, 381, 382, 383, 386, 387, 388, 389] (by decide +kernel) (by decide +kernel)
set_option maxRecDepth 20000 in
theorem gL_law_X3_core : GoodIn wsL_law (wsV RL 82 RX3 yX3_core wsX3_core) := goodIn_app (goodIn_of _ (by decide +kernel)) ggL_law_X3_core
set_option maxRecDepth 20000 in
theorem ggL_law_X3_conflict : GoodIn wsL_law wsX3_conflict := goodIn_r _ [289, 18, 241, 242, 243, 17, 244, 36, 233, 234, 235, 236, 35, 229, 230, 231, 232, 33, 88, 2, 89, 203, 184, 185, 186, 34, 108, 109, 110, 381, 382, 383, 386, 387, 388, 389] (by decide +kernel) (by decide +kernel)
set_option maxRecDepth 20000 in
theorem gL_law_X3_conflict : GoodIn wsL_law (wsV RL 85 RX3 yX3_conflict wsX3_conflict) := goodIn_app (goodIn_of _ (by decide +kernel)) ggL_law_X3_conflict
set_option maxRecDepth 20000 in
theorem ggL_law_X3_worlds : GoodIn wsL_law wsX3_worlds := goodIn_ca (goodIn_r _ [293, 18, 178, 179, 180, 2, 181, 128, 129, 182, 158, 159, 17, 160, 35, 294, 283, 284, 285, 34, 88, 89, 381, 382, 383, 386, 387, 388, 389] (by decide +kernel) (by decide +kernel)) (goodIn_sub (fun _ h => List.mem_append_right _ h) (by decide +kernel))
set_option maxRecDepth 20000 in
theorem gL_law_X3_worlds : GoodIn wsL_law (wsV RL 88 RX3 yX3_worlds wsX3_worlds) := goodIn_app (goodIn_of _ (by decide +kernel)) ggL_law_X3_worlds
set_option maxRecDepth 20000 in
theorem ggL_law_X3_load : GoodIn wsL_law wsX3_load := goodIn_r _ [298, 22, 18, 299, 300, 301, 21, 302, 42, 303, 304, 305, 306, 17, 307, 35, 308, 120, 121, 122, 309, 310, 311, 312, 32, 88, 2, 89, 204, 205, 229, 230, 231, 232, 33, 313, 314, 315, 316, 317, 318, 319, 320, 321, 322, 323, 324, 325, 326, 327, 328, 381, 382, 383, 390, 391, 386, 387, 388, 389] (by decide +kernel) (by decide +kernel)
set_option maxRecDepth 20000 in
theorem gL_law_X3_load : GoodIn wsL_law (wsV RL 91 RX3 yX3_load wsX3_load) := goodIn_app (goodIn_of _ (by decide +kernel)) ggL_law_X3_load
set_option maxRecDepth 20000 in
theorem ggL_law_X3_would : GoodIn wsL_law wsX3_would := goodIn_ca (goodIn_r _ [332, 22, 14, 130, 131, 132, 2, 133, 81, 82, 63, 64, 65, 13, 66, 27, 103, 104, 105, 106, 26, 88, 89, 333, 334, 335, 21, 336, 313, 314, 315, 316, 42, 204, 205, 325, 326, 327, 328, 107, 108, 109, 110, 381, 382, 383, 384, 385, 390, 391] (by decide +kernel) (by decide +kernel)) (goodIn_sub (fun _ h => List.mem_append_left _ (List.mem_append_right _ h)) (by decide +kernel))
set_option maxRecDepth 20000 in
theorem gL_law_X3_would : GoodIn wsL_law (wsV RL 94 RX3 yX3_would wsX3_would) := goodIn_app (goodIn_of _ (by decide +kernel)) ggL_law_X3_would
set_option maxRecDepth 20000 in
theorem ggL_law_X3_pop : GoodIn wsL_law wsX3_pop := goodIn_ca (goodIn_r _ [168, 14, 99, 100, 101, 2, 102, 81, 82, 63, 64, 65, 13, 66, 27, 103, 104, 105, 106, 26, 88, 89, 169, 116, 117, 118, 119, 120, 121, 122, 381, 382, 383, 384, 385] (by decide +kernel) (by decide +kernel)) (goodIn_sub (fun _ h => List.mem_append_left _ (List.mem_append_right _ h)) (by decide +kernel))
set_option maxRecDepth 20000 in
theorem gL_law_X3_pop : GoodIn wsL_law (wsV RL 46 RX3 yX3_pop wsX3_pop) := goodIn_app (goodIn_of _ (by decide +kernel)) ggL_law_X3_pop
set_option maxRecDepth 20000 in
theorem ggL_law_X3_possible : GoodIn wsL_law wsX3_possible := goodIn_r _ [340, 22, 321, 322, 323, 21, 324, 303, 325, 326, 327, 328, 42, 204, 2, 205, 381, 382, 383, 390, 391] (by decide +kernel) (by decide +kernel)
set_option maxRecDepth 20000 in
theorem gL_law_X3_possible : GoodIn wsL_law (wsV RL 98 RX3 yX3_possible wsX3_possible) := goodIn_app (goodIn_of _ (by decide +kernel)) ggL_law_X3_possible
set_option maxRecDepth 20000 in
theorem ggL_law_L_below : GoodIn wsL_law wsL_below := goodIn_r _ [54, 55] (by decide +kernel) (by decide +kernel)
set_option maxRecDepth 20000 in
theorem gL_law_L_below : GoodIn wsL_law (va_wsS RL 15 yL_below wsL_below) := goodIn_app (goodIn_of _ (by decide +kernel)) ggL_law_L_below
set_option maxRecDepth 20000 in
theorem ggL_law_X3_learn : GoodIn wsL_law wsX3_learn := goodIn_ca (goodIn_ca (goodIn_r _ [344, 128, 129, 81, 82, 110, 22, 99, 100, 101, 2, 102, 14, 63, 64, 65, 13, 66, 27, 103, 104, 105, 106, 26, 88, 89, 345, 346, 347, 21, 348, 349, 350, 351, 352, 108, 109, 313, 314, 315, 316, 42, 204, 205, 317, 318, 319, 320, 353, 354, 355, 356, 303, 357, 334, 335, 336, 325, 326, 327, 328, 358, 359, 360, 361, 362, 363, 364, 365, 43, 366, 367, 368, 369, 370, 120, 121, 122, 371, 372, 373, 374, 375, 376, 377, 378, 379, 380, 321, 322, 323, 324, 381, 382, 383, 384, 385, 390, 391] (by decide +kernel) (by decide +kernel)) (goodIn_sub (fun _ h => List.mem_append_right _ h) (by decide +kernel))) (goodIn_sub (fun _ h => List.mem_append_left _ (List.mem_append_right _ h)) (by decide +kernel))
set_option maxRecDepth 20000 in
theorem gL_law_X3_learn : GoodIn wsL_law (wsV RL 101 RX3 yX3_learn wsX3_learn) := goodIn_app (goodIn_of _ (by decide +kernel)) ggL_law_X3_learn
set_option maxRecDepth 20000 in
theorem ggL_law_X3_height : GoodIn wsL_law wsX3_height := goodIn_r _ [62, 14, 63, 64, 65, 13, 66, 27, 381, 382, 383, 384, 385] (by decide +kernel) (by decide +kernel)
set_option maxRecDepth 20000 in
theorem gL_law_X3_height : GoodIn wsL_law (wsV RL 9 RX3 yX3_height wsX3_height) := goodIn_app (goodIn_of _ (by decide +kernel)) ggL_law_X3_height
set_option maxRecDepth 20000 in
theorem ggL_law_X3_top : GoodIn wsL_law wsX3_top := goodIn_ca (goodIn_r _ [140, 99, 100, 101, 2, 102, 81, 82, 14, 63, 64, 65, 13, 66, 27, 103, 104, 105, 106, 26, 88, 89, 381, 382, 383, 384, 385] (by decide +kernel) (by decide +kernel)) (goodIn_sub (fun _ h => List.mem_append_left _ (List.mem_append_right _ h)) (by decide +kernel))
set_option maxRecDepth 20000 in
theorem gL_law_X3_top : GoodIn wsL_law (wsV RL 32 RX3 yX3_top wsX3_top) := goodIn_app (goodIn_of _ (by decide +kernel)) ggL_law_X3_top
theorem dL_law_0 : decode cL_law 0 = .ok (.new 10, 3) := by decide +kernel
theorem dL_law_3 : decode cL_law 3 = .ok (.dup, 1) := by decide +kernel
theorem dL_law_4 : decode cL_law 4 = .ok (.invokespecial 52, 3) := by decide +kernel
theorem dL_law_7 : decode cL_law 7 = .ok (.astore_n 1, 1) := by decide +kernel
theorem dL_law_8 : decode cL_law 8 = .ok (.bipush 10, 2) := by decide +kernel
theorem dL_law_10 : decode cL_law 10 = .ok (.newarray .int, 2) := by decide +kernel
theorem dL_law_12 : decode cL_law 12 = .ok (.astore_n 2, 1) := by decide +kernel
theorem dL_law_13 : decode cL_law 13 = .ok (.aload_n 1, 1) := by decide +kernel
theorem dL_law_14 : decode cL_law 14 = .ok (.aload_n 0, 1) := by decide +kernel
theorem dL_law_15 : decode cL_law 15 = .ok (.iconst 0, 1) := by decide +kernel
theorem dL_law_16 : decode cL_law 16 = .ok (.bipush 7, 2) := by decide +kernel
theorem dL_law_18 : decode cL_law 18 = .ok (.aload_n 2, 1) := by decide +kernel
theorem dL_law_19 : decode cL_law 19 = .ok (.bipush 10, 2) := by decide +kernel
theorem dL_law_21 : decode cL_law 21 = .ok (.newarray .int, 2) := by decide +kernel
theorem dL_law_23 : decode cL_law 23 = .ok (.invokestatic 53, 3) := by decide +kernel
theorem dL_law_26 : decode cL_law 26 = .ok (.istore_n 3, 1) := by decide +kernel
theorem dL_law_27 : decode cL_law 27 = .ok (.iload_n 3, 1) := by decide +kernel
theorem dL_law_28 : decode cL_law 28 = .ok (.ifCond .ge 5, 3) := by decide +kernel
theorem dL_law_31 : decode cL_law 31 = .ok (.iconst 0, 1) := by decide +kernel
theorem dL_law_32 : decode cL_law 32 = .ok (.ireturn, 1) := by decide +kernel
theorem dL_law_33 : decode cL_law 33 = .ok (.iconst 1, 1) := by decide +kernel
theorem dL_law_34 : decode cL_law 34 = .ok (.iload_n 3, 1) := by decide +kernel
theorem dL_law_35 : decode cL_law 35 = .ok (.ishl, 1) := by decide +kernel
theorem dL_law_36 : decode cL_law 36 = .ok (.iconst 1, 1) := by decide +kernel
theorem dL_law_37 : decode cL_law 37 = .ok (.isub, 1) := by decide +kernel
theorem dL_law_38 : decode cL_law 38 = .ok (.istore 4, 2) := by decide +kernel
theorem dL_law_40 : decode cL_law 40 = .ok (.aload_n 1, 1) := by decide +kernel
theorem dL_law_41 : decode cL_law 41 = .ok (.aload_n 0, 1) := by decide +kernel
theorem dL_law_42 : decode cL_law 42 = .ok (.bipush 9, 2) := by decide +kernel
theorem dL_law_44 : decode cL_law 44 = .ok (.invokestatic 35, 3) := by decide +kernel
theorem dL_law_47 : decode cL_law 47 = .ok (.invokestatic 39, 3) := by decide +kernel
theorem dL_law_50 : decode cL_law 50 = .ok (.istore 5, 2) := by decide +kernel
theorem dL_law_52 : decode cL_law 52 = .ok (.iload 5, 2) := by decide +kernel
theorem dL_law_54 : decode cL_law 54 = .ok (.ifCond .ge 5, 3) := by decide +kernel
theorem dL_law_57 : decode cL_law 57 = .ok (.iconst 0, 1) := by decide +kernel
theorem dL_law_58 : decode cL_law 58 = .ok (.ireturn, 1) := by decide +kernel
theorem dL_law_59 : decode cL_law 59 = .ok (.aload_n 1, 1) := by decide +kernel
theorem dL_law_60 : decode cL_law 60 = .ok (.iload 4, 2) := by decide +kernel
theorem dL_law_62 : decode cL_law 62 = .ok (.invokevirtual 57, 3) := by decide +kernel
theorem dL_law_65 : decode cL_law 65 = .ok (.istore 6, 2) := by decide +kernel
theorem dL_law_67 : decode cL_law 67 = .ok (.aload_n 1, 1) := by decide +kernel
theorem dL_law_68 : decode cL_law 68 = .ok (.invokevirtual 61, 3) := by decide +kernel
theorem dL_law_71 : decode cL_law 71 = .ok (.istore 7, 2) := by decide +kernel
theorem dL_law_73 : decode cL_law 73 = .ok (.aload_n 1, 1) := by decide +kernel
theorem dL_law_74 : decode cL_law 74 = .ok (.invokevirtual 64, 3) := by decide +kernel
theorem dL_law_77 : decode cL_law 77 = .ok (.istore 8, 2) := by decide +kernel
theorem dL_law_79 : decode cL_law 79 = .ok (.aload_n 1, 1) := by decide +kernel
theorem dL_law_80 : decode cL_law 80 = .ok (.invokevirtual 67, 3) := by decide +kernel
theorem dL_law_83 : decode cL_law 83 = .ok (.istore 9, 2) := by decide +kernel
theorem dL_law_85 : decode cL_law 85 = .ok (.iload 7, 2) := by decide +kernel
theorem dL_law_87 : decode cL_law 87 = .ok (.ifCond .le 7, 3) := by decide +kernel
theorem dL_law_90 : decode cL_law 90 = .ok (.iconst 1, 1) := by decide +kernel
theorem dL_law_91 : decode cL_law 91 = .ok (.goto 4, 3) := by decide +kernel
theorem dL_law_94 : decode cL_law 94 = .ok (.iconst 0, 1) := by decide +kernel
theorem dL_law_95 : decode cL_law 95 = .ok (.iload 6, 2) := by decide +kernel
theorem dL_law_97 : decode cL_law 97 = .ok (.if_icmp .ne 45, 3) := by decide +kernel
theorem dL_law_100 : decode cL_law 100 = .ok (.iload 8, 2) := by decide +kernel
theorem dL_law_102 : decode cL_law 102 = .ok (.ifCond .ne 7, 3) := by decide +kernel
theorem dL_law_105 : decode cL_law 105 = .ok (.iconst 1, 1) := by decide +kernel
theorem dL_law_106 : decode cL_law 106 = .ok (.goto 4, 3) := by decide +kernel
theorem dL_law_109 : decode cL_law 109 = .ok (.iconst 0, 1) := by decide +kernel
theorem dL_law_110 : decode cL_law 110 = .ok (.iload 5, 2) := by decide +kernel
theorem dL_law_112 : decode cL_law 112 = .ok (.ldc 25, 2) := by decide +kernel
theorem dL_law_114 : decode cL_law 114 = .ok (.if_icmp .ne 7, 3) := by decide +kernel
theorem dL_law_117 : decode cL_law 117 = .ok (.iconst 1, 1) := by decide +kernel
theorem dL_law_118 : decode cL_law 118 = .ok (.goto 4, 3) := by decide +kernel
theorem dL_law_121 : decode cL_law 121 = .ok (.iconst 0, 1) := by decide +kernel
theorem dL_law_122 : decode cL_law 122 = .ok (.if_icmp .ne 20, 3) := by decide +kernel
theorem dL_law_125 : decode cL_law 125 = .ok (.iload 6, 2) := by decide +kernel
theorem dL_law_127 : decode cL_law 127 = .ok (.aload_n 1, 1) := by decide +kernel
theorem dL_law_128 : decode cL_law 128 = .ok (.invokevirtual 70, 3) := by decide +kernel
theorem dL_law_131 : decode cL_law 131 = .ok (.ifCond .le 7, 3) := by decide +kernel
theorem dL_law_134 : decode cL_law 134 = .ok (.iconst 1, 1) := by decide +kernel
theorem dL_law_135 : decode cL_law 135 = .ok (.goto 4, 3) := by decide +kernel
theorem dL_law_138 : decode cL_law 138 = .ok (.iconst 0, 1) := by decide +kernel
theorem dL_law_139 : decode cL_law 139 = .ok (.if_icmp .eq 5, 3) := by decide +kernel
theorem dL_law_142 : decode cL_law 142 = .ok (.iconst 0, 1) := by decide +kernel
theorem dL_law_143 : decode cL_law 143 = .ok (.ireturn, 1) := by decide +kernel
theorem dL_law_144 : decode cL_law 144 = .ok (.iload 5, 2) := by decide +kernel
theorem dL_law_146 : decode cL_law 146 = .ok (.ldc 25, 2) := by decide +kernel
theorem dL_law_148 : decode cL_law 148 = .ok (.if_icmp .eq 17, 3) := by decide +kernel
theorem dL_law_151 : decode cL_law 151 = .ok (.aload_n 1, 1) := by decide +kernel
theorem dL_law_152 : decode cL_law 152 = .ok (.iload 4, 2) := by decide +kernel
theorem dL_law_154 : decode cL_law 154 = .ok (.iload 9, 2) := by decide +kernel
theorem dL_law_156 : decode cL_law 156 = .ok (.iconst (-1), 1) := by decide +kernel
theorem dL_law_157 : decode cL_law 157 = .ok (.ixor, 1) := by decide +kernel
theorem dL_law_158 : decode cL_law 158 = .ok (.iand, 1) := by decide +kernel
theorem dL_law_159 : decode cL_law 159 = .ok (.invokevirtual 57, 3) := by decide +kernel
theorem dL_law_162 : decode cL_law 162 = .ok (.ifCond .ne 38, 3) := by decide +kernel
theorem dL_law_165 : decode cL_law 165 = .ok (.iload 6, 2) := by decide +kernel
theorem dL_law_167 : decode cL_law 167 = .ok (.ifCond .ne 35, 3) := by decide +kernel
theorem dL_law_170 : decode cL_law 170 = .ok (.iload 9, 2) := by decide +kernel
theorem dL_law_172 : decode cL_law 172 = .ok (.ifCond .ne 28, 3) := by decide +kernel
theorem dL_law_175 : decode cL_law 175 = .ok (.iload 8, 2) := by decide +kernel
theorem dL_law_177 : decode cL_law 177 = .ok (.iconst 1, 1) := by decide +kernel
theorem dL_law_178 : decode cL_law 178 = .ok (.if_icmp .ne 22, 3) := by decide +kernel
theorem dL_law_181 : decode cL_law 181 = .ok (.aload_n 1, 1) := by decide +kernel
theorem dL_law_182 : decode cL_law 182 = .ok (.iconst 0, 1) := by decide +kernel
theorem dL_law_183 : decode cL_law 183 = .ok (.invokevirtual 73, 3) := by decide +kernel
theorem dL_law_186 : decode cL_law 186 = .ok (.iload 4, 2) := by decide +kernel
theorem dL_law_188 : decode cL_law 188 = .ok (.if_icmp .ne 12, 3) := by decide +kernel
theorem dL_law_191 : decode cL_law 191 = .ok (.aload_n 1, 1) := by decide +kernel
theorem dL_law_192 : decode cL_law 192 = .ok (.invokevirtual 76, 3) := by decide +kernel
theorem dL_law_195 : decode cL_law 195 = .ok (.iload 4, 2) := by decide +kernel
theorem dL_law_197 : decode cL_law 197 = .ok (.if_icmp .eq 5, 3) := by decide +kernel
theorem dL_law_200 : decode cL_law 200 = .ok (.iconst 0, 1) := by decide +kernel
theorem dL_law_201 : decode cL_law 201 = .ok (.ireturn, 1) := by decide +kernel
theorem dL_law_202 : decode cL_law 202 = .ok (.iconst 0, 1) := by decide +kernel
theorem dL_law_203 : decode cL_law 203 = .ok (.istore 10, 2) := by decide +kernel
theorem dL_law_205 : decode cL_law 205 = .ok (.iload 10, 2) := by decide +kernel
theorem dL_law_207 : decode cL_law 207 = .ok (.iload 8, 2) := by decide +kernel
theorem dL_law_209 : decode cL_law 209 = .ok (.if_icmp .ge 60, 3) := by decide +kernel
theorem dL_law_212 : decode cL_law 212 = .ok (.aload_n 1, 1) := by decide +kernel
theorem dL_law_213 : decode cL_law 213 = .ok (.aload_n 1, 1) := by decide +kernel
theorem dL_law_214 : decode cL_law 214 = .ok (.iload 10, 2) := by decide +kernel
theorem dL_law_216 : decode cL_law 216 = .ok (.invokevirtual 73, 3) := by decide +kernel
theorem dL_law_219 : decode cL_law 219 = .ok (.invokevirtual 57, 3) := by decide +kernel
theorem dL_law_222 : decode cL_law 222 = .ok (.ifCond .eq 5, 3) := by decide +kernel
theorem dL_law_225 : decode cL_law 225 = .ok (.iconst 0, 1) := by decide +kernel
theorem dL_law_226 : decode cL_law 226 = .ok (.ireturn, 1) := by decide +kernel
theorem dL_law_227 : decode cL_law 227 = .ok (.iconst 0, 1) := by decide +kernel
theorem dL_law_228 : decode cL_law 228 = .ok (.istore 11, 2) := by decide +kernel
theorem dL_law_230 : decode cL_law 230 = .ok (.iload 11, 2) := by decide +kernel
theorem dL_law_232 : decode cL_law 232 = .ok (.iload 7, 2) := by decide +kernel
theorem dL_law_234 : decode cL_law 234 = .ok (.if_icmp .ge 29, 3) := by decide +kernel
theorem dL_law_237 : decode cL_law 237 = .ok (.aload_n 1, 1) := by decide +kernel
theorem dL_law_238 : decode cL_law 238 = .ok (.iload 11, 2) := by decide +kernel
theorem dL_law_240 : decode cL_law 240 = .ok (.invokevirtual 79, 3) := by decide +kernel
theorem dL_law_243 : decode cL_law 243 = .ok (.aload_n 1, 1) := by decide +kernel
theorem dL_law_244 : decode cL_law 244 = .ok (.iload 10, 2) := by decide +kernel
theorem dL_law_246 : decode cL_law 246 = .ok (.invokevirtual 73, 3) := by decide +kernel
theorem dL_law_249 : decode cL_law 249 = .ok (.iconst (-1), 1) := by decide +kernel
theorem dL_law_250 : decode cL_law 250 = .ok (.ixor, 1) := by decide +kernel
theorem dL_law_251 : decode cL_law 251 = .ok (.iand, 1) := by decide +kernel
theorem dL_law_252 : decode cL_law 252 = .ok (.ifCond .ne 5, 3) := by decide +kernel
theorem dL_law_255 : decode cL_law 255 = .ok (.iconst 0, 1) := by decide +kernel
theorem dL_law_256 : decode cL_law 256 = .ok (.ireturn, 1) := by decide +kernel
theorem dL_law_257 : decode cL_law 257 = .ok (.iinc 11 1, 3) := by decide +kernel
theorem dL_law_260 : decode cL_law 260 = .ok (.goto (-30), 3) := by decide +kernel
theorem dL_law_263 : decode cL_law 263 = .ok (.iinc 10 1, 3) := by decide +kernel
theorem dL_law_266 : decode cL_law 266 = .ok (.goto (-61), 3) := by decide +kernel
theorem dL_law_269 : decode cL_law 269 = .ok (.aload_n 1, 1) := by decide +kernel
theorem dL_law_270 : decode cL_law 270 = .ok (.invokevirtual 82, 3) := by decide +kernel
theorem dL_law_273 : decode cL_law 273 = .ok (.ifCond .eq 39, 3) := by decide +kernel
theorem dL_law_276 : decode cL_law 276 = .ok (.aload_n 1, 1) := by decide +kernel
theorem dL_law_277 : decode cL_law 277 = .ok (.invokevirtual 85, 3) := by decide +kernel
theorem dL_law_280 : decode cL_law 280 = .ok (.ifCond .ne 16, 3) := by decide +kernel
theorem dL_law_283 : decode cL_law 283 = .ok (.aload_n 1, 1) := by decide +kernel
theorem dL_law_284 : decode cL_law 284 = .ok (.invokevirtual 82, 3) := by decide +kernel
theorem dL_law_287 : decode cL_law 287 = .ok (.aload_n 1, 1) := by decide +kernel
theorem dL_law_288 : decode cL_law 288 = .ok (.iload 4, 2) := by decide +kernel
theorem dL_law_290 : decode cL_law 290 = .ok (.invokevirtual 88, 3) := by decide +kernel
theorem dL_law_293 : decode cL_law 293 = .ok (.if_icmp .ne 19, 3) := by decide +kernel
theorem dL_law_296 : decode cL_law 296 = .ok (.aload_n 1, 1) := by decide +kernel
theorem dL_law_297 : decode cL_law 297 = .ok (.iload 4, 2) := by decide +kernel
theorem dL_law_299 : decode cL_law 299 = .ok (.invokevirtual 88, 3) := by decide +kernel
theorem dL_law_302 : decode cL_law 302 = .ok (.aload_n 1, 1) := by decide +kernel
theorem dL_law_303 : decode cL_law 303 = .ok (.invokevirtual 82, 3) := by decide +kernel
theorem dL_law_306 : decode cL_law 306 = .ok (.iconst (-1), 1) := by decide +kernel
theorem dL_law_307 : decode cL_law 307 = .ok (.ixor, 1) := by decide +kernel
theorem dL_law_308 : decode cL_law 308 = .ok (.iand, 1) := by decide +kernel
theorem dL_law_309 : decode cL_law 309 = .ok (.ifCond .eq 5, 3) := by decide +kernel
theorem dL_law_312 : decode cL_law 312 = .ok (.iconst 0, 1) := by decide +kernel
theorem dL_law_313 : decode cL_law 313 = .ok (.ireturn, 1) := by decide +kernel
theorem dL_law_314 : decode cL_law 314 = .ok (.aload_n 1, 1) := by decide +kernel
theorem dL_law_315 : decode cL_law 315 = .ok (.invokevirtual 91, 3) := by decide +kernel
theorem dL_law_318 : decode cL_law 318 = .ok (.pop, 1) := by decide +kernel
theorem dL_law_319 : decode cL_law 319 = .ok (.iconst 0, 1) := by decide +kernel
theorem dL_law_320 : decode cL_law 320 = .ok (.istore 10, 2) := by decide +kernel
theorem dL_law_322 : decode cL_law 322 = .ok (.iload 10, 2) := by decide +kernel
theorem dL_law_324 : decode cL_law 324 = .ok (.iconst 5, 1) := by decide +kernel
theorem dL_law_325 : decode cL_law 325 = .ok (.if_icmp .ge 210, 3) := by decide +kernel
theorem dL_law_328 : decode cL_law 328 = .ok (.aload_n 0, 1) := by decide +kernel
theorem dL_law_329 : decode cL_law 329 = .ok (.bipush 10, 2) := by decide +kernel
theorem dL_law_331 : decode cL_law 331 = .ok (.iload 10, 2) := by decide +kernel
theorem dL_law_333 : decode cL_law 333 = .ok (.iadd, 1) := by decide +kernel
theorem dL_law_334 : decode cL_law 334 = .ok (.invokestatic 35, 3) := by decide +kernel
theorem dL_law_337 : decode cL_law 337 = .ok (.istore 11, 2) := by decide +kernel
theorem dL_law_339 : decode cL_law 339 = .ok (.aload_n 1, 1) := by decide +kernel
theorem dL_law_340 : decode cL_law 340 = .ok (.iload 11, 2) := by decide +kernel
theorem dL_law_342 : decode cL_law 342 = .ok (.invokestatic 39, 3) := by decide +kernel
theorem dL_law_345 : decode cL_law 345 = .ok (.istore 12, 2) := by decide +kernel
theorem dL_law_347 : decode cL_law 347 = .ok (.iload 12, 2) := by decide +kernel
theorem dL_law_349 : decode cL_law 349 = .ok (.ifCond .ge 5, 3) := by decide +kernel
theorem dL_law_352 : decode cL_law 352 = .ok (.iconst 0, 1) := by decide +kernel
theorem dL_law_353 : decode cL_law 353 = .ok (.ireturn, 1) := by decide +kernel
theorem dL_law_354 : decode cL_law 354 = .ok (.aload_n 1, 1) := by decide +kernel
theorem dL_law_355 : decode cL_law 355 = .ok (.iload 11, 2) := by decide +kernel
theorem dL_law_357 : decode cL_law 357 = .ok (.bipush 7, 2) := by decide +kernel
theorem dL_law_359 : decode cL_law 359 = .ok (.ishr, 1) := by decide +kernel
theorem dL_law_360 : decode cL_law 360 = .ok (.invokestatic 39, 3) := by decide +kernel
theorem dL_law_363 : decode cL_law 363 = .ok (.istore 13, 2) := by decide +kernel
theorem dL_law_365 : decode cL_law 365 = .ok (.iload 13, 2) := by decide +kernel
theorem dL_law_367 : decode cL_law 367 = .ok (.ifCond .ge 5, 3) := by decide +kernel
theorem dL_law_370 : decode cL_law 370 = .ok (.iconst 0, 1) := by decide +kernel
theorem dL_law_371 : decode cL_law 371 = .ok (.ireturn, 1) := by decide +kernel
theorem dL_law_372 : decode cL_law 372 = .ok (.aload_n 1, 1) := by decide +kernel
theorem dL_law_373 : decode cL_law 373 = .ok (.invokevirtual 94, 3) := by decide +kernel
theorem dL_law_376 : decode cL_law 376 = .ok (.istore 14, 2) := by decide +kernel
theorem dL_law_378 : decode cL_law 378 = .ok (.aload_n 1, 1) := by decide +kernel
theorem dL_law_379 : decode cL_law 379 = .ok (.invokevirtual 46, 3) := by decide +kernel
theorem dL_law_382 : decode cL_law 382 = .ok (.pop, 1) := by decide +kernel
theorem dL_law_383 : decode cL_law 383 = .ok (.aload_n 1, 1) := by decide +kernel
theorem dL_law_384 : decode cL_law 384 = .ok (.invokevirtual 98, 3) := by decide +kernel
theorem dL_law_387 : decode cL_law 387 = .ok (.istore 15, 2) := by decide +kernel
theorem dL_law_389 : decode cL_law 389 = .ok (.iload 11, 2) := by decide +kernel
theorem dL_law_391 : decode cL_law 391 = .ok (.bipush 21, 2) := by decide +kernel
theorem dL_law_393 : decode cL_law 393 = .ok (.ishr, 1) := by decide +kernel
theorem dL_law_394 : decode cL_law 394 = .ok (.iconst 3, 1) := by decide +kernel
theorem dL_law_395 : decode cL_law 395 = .ok (.invokestatic 15, 3) := by decide +kernel
theorem dL_law_398 : decode cL_law 398 = .ok (.istore 16, 2) := by decide +kernel
theorem dL_law_400 : decode cL_law 400 = .ok (.iload 12, 2) := by decide +kernel
theorem dL_law_402 : decode cL_law 402 = .ok (.ifCond .eq 122, 3) := by decide +kernel
theorem dL_law_405 : decode cL_law 405 = .ok (.aload_n 1, 1) := by decide +kernel
theorem dL_law_406 : decode cL_law 406 = .ok (.iload 16, 2) := by decide +kernel
theorem dL_law_408 : decode cL_law 408 = .ok (.iconst 1, 1) := by decide +kernel
theorem dL_law_409 : decode cL_law 409 = .ok (.iload 11, 2) := by decide +kernel
theorem dL_law_411 : decode cL_law 411 = .ok (.bipush 23, 2) := by decide +kernel
theorem dL_law_413 : decode cL_law 413 = .ok (.ishr, 1) := by decide +kernel
theorem dL_law_414 : decode cL_law 414 = .ok (.bipush 9, 2) := by decide +kernel
theorem dL_law_416 : decode cL_law 416 = .ok (.invokestatic 15, 3) := by decide +kernel
theorem dL_law_419 : decode cL_law 419 = .ok (.iadd, 1) := by decide +kernel
theorem dL_law_420 : decode cL_law 420 = .ok (.invokevirtual 101, 3) := by decide +kernel
theorem dL_law_423 : decode cL_law 423 = .ok (.istore 17, 2) := by decide +kernel
theorem dL_law_425 : decode cL_law 425 = .ok (.iload 17, 2) := by decide +kernel
theorem dL_law_427 : decode cL_law 427 = .ok (.iload 12, 2) := by decide +kernel
theorem dL_law_429 : decode cL_law 429 = .ok (.iconst (-1), 1) := by decide +kernel
theorem dL_law_430 : decode cL_law 430 = .ok (.ixor, 1) := by decide +kernel
theorem dL_law_431 : decode cL_law 431 = .ok (.iand, 1) := by decide +kernel
theorem dL_law_432 : decode cL_law 432 = .ok (.ifCond .ne 46, 3) := by decide +kernel
theorem dL_law_435 : decode cL_law 435 = .ok (.iload 17, 2) := by decide +kernel
theorem dL_law_437 : decode cL_law 437 = .ok (.ifCond .eq 41, 3) := by decide +kernel
theorem dL_law_440 : decode cL_law 440 = .ok (.iload 15, 2) := by decide +kernel
theorem dL_law_442 : decode cL_law 442 = .ok (.iload 12, 2) := by decide +kernel
theorem dL_law_444 : decode cL_law 444 = .ok (.iand, 1) := by decide +kernel
theorem dL_law_445 : decode cL_law 445 = .ok (.ifCond .eq 13, 3) := by decide +kernel
theorem dL_law_448 : decode cL_law 448 = .ok (.iload 17, 2) := by decide +kernel
theorem dL_law_450 : decode cL_law 450 = .ok (.iload 15, 2) := by decide +kernel
theorem dL_law_452 : decode cL_law 452 = .ok (.iload 12, 2) := by decide +kernel
theorem dL_law_454 : decode cL_law 454 = .ok (.iand, 1) := by decide +kernel
theorem dL_law_455 : decode cL_law 455 = .ok (.if_icmp .ne 23, 3) := by decide +kernel
theorem dL_law_458 : decode cL_law 458 = .ok (.iload 14, 2) := by decide +kernel
theorem dL_law_460 : decode cL_law 460 = .ok (.iload 17, 2) := by decide +kernel
theorem dL_law_462 : decode cL_law 462 = .ok (.iload 13, 2) := by decide +kernel
theorem dL_law_464 : decode cL_law 464 = .ok (.iconst (-1), 1) := by decide +kernel
theorem dL_law_465 : decode cL_law 465 = .ok (.ixor, 1) := by decide +kernel
theorem dL_law_466 : decode cL_law 466 = .ok (.iand, 1) := by decide +kernel
theorem dL_law_467 : decode cL_law 467 = .ok (.ifCond .ne 7, 3) := by decide +kernel
theorem dL_law_470 : decode cL_law 470 = .ok (.iconst 1, 1) := by decide +kernel
theorem dL_law_471 : decode cL_law 471 = .ok (.goto 4, 3) := by decide +kernel
theorem dL_law_474 : decode cL_law 474 = .ok (.iconst 0, 1) := by decide +kernel
theorem dL_law_475 : decode cL_law 475 = .ok (.if_icmp .eq 5, 3) := by decide +kernel
theorem dL_law_478 : decode cL_law 478 = .ok (.iconst 0, 1) := by decide +kernel
theorem dL_law_479 : decode cL_law 479 = .ok (.ireturn, 1) := by decide +kernel
theorem dL_law_480 : decode cL_law 480 = .ok (.iload 12, 2) := by decide +kernel
theorem dL_law_482 : decode cL_law 482 = .ok (.ldc 25, 2) := by decide +kernel
theorem dL_law_484 : decode cL_law 484 = .ok (.if_icmp .eq 19, 3) := by decide +kernel
theorem dL_law_487 : decode cL_law 487 = .ok (.aload_n 1, 1) := by decide +kernel
theorem dL_law_488 : decode cL_law 488 = .ok (.iconst 3, 1) := by decide +kernel
theorem dL_law_489 : decode cL_law 489 = .ok (.iconst 0, 1) := by decide +kernel
theorem dL_law_490 : decode cL_law 490 = .ok (.invokevirtual 101, 3) := by decide +kernel
theorem dL_law_493 : decode cL_law 493 = .ok (.iload 17, 2) := by decide +kernel
theorem dL_law_495 : decode cL_law 495 = .ok (.iand, 1) := by decide +kernel
theorem dL_law_496 : decode cL_law 496 = .ok (.iload 17, 2) := by decide +kernel
theorem dL_law_498 : decode cL_law 498 = .ok (.if_icmp .eq 5, 3) := by decide +kernel
theorem dL_law_501 : decode cL_law 501 = .ok (.iconst 0, 1) := by decide +kernel
theorem dL_law_502 : decode cL_law 502 = .ok (.ireturn, 1) := by decide +kernel
theorem dL_law_503 : decode cL_law 503 = .ok (.iload 12, 2) := by decide +kernel
theorem dL_law_505 : decode cL_law 505 = .ok (.ldc 25, 2) := by decide +kernel
theorem dL_law_507 : decode cL_law 507 = .ok (.if_icmp .eq 17, 3) := by decide +kernel
theorem dL_law_510 : decode cL_law 510 = .ok (.aload_n 1, 1) := by decide +kernel
theorem dL_law_511 : decode cL_law 511 = .ok (.invokevirtual 98, 3) := by decide +kernel
theorem dL_law_514 : decode cL_law 514 = .ok (.iload 12, 2) := by decide +kernel
theorem dL_law_516 : decode cL_law 516 = .ok (.iconst (-1), 1) := by decide +kernel
theorem dL_law_517 : decode cL_law 517 = .ok (.ixor, 1) := by decide +kernel
theorem dL_law_518 : decode cL_law 518 = .ok (.iand, 1) := by decide +kernel
theorem dL_law_519 : decode cL_law 519 = .ok (.ifCond .ne 5, 3) := by decide +kernel
theorem dL_law_522 : decode cL_law 522 = .ok (.iconst 0, 1) := by decide +kernel
theorem dL_law_523 : decode cL_law 523 = .ok (.ireturn, 1) := by decide +kernel
theorem dL_law_524 : decode cL_law 524 = .ok (.aload_n 1, 1) := by decide +kernel
theorem dL_law_525 : decode cL_law 525 = .ok (.invokevirtual 46, 3) := by decide +kernel
theorem dL_law_528 : decode cL_law 528 = .ok (.pop, 1) := by decide +kernel
theorem dL_law_529 : decode cL_law 529 = .ok (.iinc 10 1, 3) := by decide +kernel
theorem dL_law_532 : decode cL_law 532 = .ok (.goto (-210), 3) := by decide +kernel
theorem dL_law_535 : decode cL_law 535 = .ok (.aload_n 1, 1) := by decide +kernel
theorem dL_law_536 : decode cL_law 536 = .ok (.invokevirtual 9, 3) := by decide +kernel
theorem dL_law_539 : decode cL_law 539 = .ok (.iconst 1, 1) := by decide +kernel
theorem dL_law_540 : decode cL_law 540 = .ok (.if_icmp .ne 16, 3) := by decide +kernel
theorem dL_law_543 : decode cL_law 543 = .ok (.aload_n 1, 1) := by decide +kernel
theorem dL_law_544 : decode cL_law 544 = .ok (.invokevirtual 32, 3) := by decide +kernel
theorem dL_law_547 : decode cL_law 547 = .ok (.iload 5, 2) := by decide +kernel
theorem dL_law_549 : decode cL_law 549 = .ok (.if_icmp .ne 7, 3) := by decide +kernel
theorem dL_law_552 : decode cL_law 552 = .ok (.iconst 1, 1) := by decide +kernel
theorem dL_law_553 : decode cL_law 553 = .ok (.goto 4, 3) := by decide +kernel
theorem dL_law_556 : decode cL_law 556 = .ok (.iconst 0, 1) := by decide +kernel
theorem dL_law_557 : decode cL_law 557 = .ok (.ireturn, 1) := by decide +kernel
